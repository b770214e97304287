/-! what class and reference have in common -/
section Rel
variable {M N : Mem}
theorem w8_bv (b : BitVec 32) : w8 b.toInt = (b.setWidth 8).toInt := by
  rw [BitVec.toInt_setWidth, BitVec.toInt_eq_toNat_cond]
  unfold w8 Int.bmod
  have := b.isLt
  dsimp only
  split <;> split <;> omega
theorem bv_sh (b : BitVec 32) {k : Nat} (hk : k ≤ 24) : (b >>> k).setWidth 8 = (b.sshiftRight k).setWidth 8 := by
  apply BitVec.eq_of_getLsbD_eq
  intro i hi
  rw [BitVec.getLsbD_setWidth, BitVec.getLsbD_setWidth, BitVec.getLsbD_ushiftRight, BitVec.getLsbD_sshiftRight]
  have h1 : ¬ 32 ≤ i := by omega
  have h2 : k + i < 32 := by omega
  simp [h1, h2]
theorem w8_sh (v : Int) {s : Int} (hs : s = 0 ∨ s = 8 ∨ s = 16 ∨ s = 24) : w8 (bUshr v s) = w8 (bShr v s) := by
  unfold bUshr bShr
  generalize Int32.ofInt v = x
  show w8 (BitVec.toInt _) = w8 (BitVec.toInt _)
  rw [w8_bv, w8_bv]
  rcases hs with e | e | e | e <;> subst e
  · exact congrArg BitVec.toInt (bv_sh x.toBitVec (k := 0) (by decide))
  · exact congrArg BitVec.toInt (bv_sh x.toBitVec (k := 8) (by decide))
  · exact congrArg BitVec.toInt (bv_sh x.toBitVec (k := 16) (by decide))
  · exact congrArg BitVec.toInt (bv_sh x.toBitVec (k := 24) (by decide))
/-- an object of sort s at cell a, as the row D tells it -/
def OD (s : Int) (M : Mem) (a : Int) (D : Int → Int) : Prop :=
  (s = 0 → (M.1 a 0 = D 0 ∧ M.1 a 1 = D 1) ∧ (∀ y, 0 ≤ y → y < 30 → M.1 (a + 1) y = D (2 + y) ∧ M.1 (a + 2) y = D (32 + y)) ∧ (∀ y, 0 ≤ y → y < 6 → M.1 (a + 3) y = D (62 + y) ∧ M.1 (a + 4) y = D (68 + y)) ∧ (∀ y, 0 ≤ y → y < 5 → M.1 (a + 5) y = D (74 + y) ∧ M.1 (a + 6) y = D (79 + y)) ∧ (∀ y, 0 ≤ y → y < 4 → M.1 (a + 7) y = D (84 + y) ∧ M.1 (a + 8) y = D (88 + y))) ∧
  (s = 1 → M.1 a 0 = D 0 ∧ M.1 a 1 = D 1 ∧ M.1 a 2 = D 2) ∧
  (s = 2 → (M.1 a 0 = D 0 ∧ D 0 ≤ 40) ∧ ∀ y, 0 ≤ y → y < D 0 → M.1 (a + 1) y = D (1 + 4 * y) ∧ M.1 (a + 2) y = D (2 + 4 * y) ∧ M.1 (a + 3) y = D (3 + 4 * y) ∧ M.1 (a + 4) y = D (4 + 4 * y)) ∧
  (s = 3 → (M.1 a 0 = D 0 ∧ D 0 ≤ 8) ∧ (∀ y, 0 ≤ y → y < D 0 → M.1 (a + 1) y = D (1 + 2 * y) ∧ M.1 (a + 2) y = D (2 + 2 * y)) ∧ ∀ y, 0 ≤ y → y < 30 → M.1 (a + 3) y = D (17 + y))
def ob (s : Int) : Int := if s = 0 then 7 else if s = 1 then 16 else if s = 2 then 17 else 22
def wd (s : Int) : Int := if s = 0 then 92 else if s = 1 then 3 else if s = 2 then 161 else 47
def bs (s : Int) : Int := if s = 0 then 48 else if s = 1 then 57 else if s = 2 then 58 else 63
def fO (s : Int) : Int := if s = 0 then 2 else if s = 1 then 3 else 1
def nO (s : Int) : Int := if s = 0 then 8 else if s = 1 then 0 else if s = 2 then 4 else 3
def lO (s k : Int) : Int := if s = 2 then LN k else if s = 3 then LG k else LT k
/-- the cells of an object that tell something -/
def dO (s k y : Int) : Prop := (k = 0 ∧ 0 ≤ y ∧ y < fO s) ∨ ((1 ≤ k ∧ k ≤ nO s) ∧ 0 ≤ y ∧ y < lO s k)
theorem CDr.od {s : Int} {D : Int → Int} (s0 : 0 ≤ s) (s4 : s < 4) (h : CDr s M D) (d : DRF M) : OD s M (bs s) D := by
  rcases (show s = 0 ∨ s = 1 ∨ s = 2 ∨ s = 3 by omega) with e | e | e | e <;> subst e
  · exact ⟨fun z => h.1 z, fun z => absurd z (by decide), fun z => absurd z (by decide), fun z => absurd z (by decide)⟩
  · exact ⟨fun z => absurd z (by decide), fun z => h.2.1 z, fun z => absurd z (by decide), fun z => absurd z (by decide)⟩
  · refine ⟨fun z => absurd z (by decide), fun z => absurd z (by decide), fun z => ?_, fun z => absurd z (by decide)⟩
    obtain ⟨a, b⟩ := h.2.2.1 z
    exact ⟨⟨a, by rw [← a]; exact d.2.2.1.2⟩, b⟩
  · refine ⟨fun z => absurd z (by decide), fun z => absurd z (by decide), fun z => absurd z (by decide), fun z => ?_⟩
    obtain ⟨a, b⟩ := h.2.2.2.1 z
    exact ⟨⟨a, by rw [← a]; exact d.2.2.2.1.2⟩, b⟩
/-- one object is as another -/
theorem OD.mv {s a b : Int} {D : Int → Int} (h : OD s M a D) (e : ∀ k y, dO s k y → N.1 (b + k) y = M.1 (a + k) y) : OD s N b D := by
  have e0 : ∀ y, 0 ≤ y → y < fO s → N.1 b y = M.1 a y := fun y p q => by have := e 0 y (Or.inl ⟨rfl, p, q⟩); rw [Int.add_zero, Int.add_zero] at this; exact this
  obtain ⟨h1, h2, h3, h4⟩ := h
  refine ⟨fun z => ?_, fun z => ?_, fun z => ?_, fun z => ?_⟩
  · obtain ⟨g1, g2, g3, g4, g5⟩ := h1 z
    subst z
    refine ⟨by rw [e0 0 (by decide) (by decide), e0 1 (by decide) (by decide)]; exact g1, fun y p q => ?_, fun y p q => ?_, fun y p q => ?_, fun y p q => ?_⟩
    · rw [e 1 y (Or.inr ⟨by decide, p, q⟩), e 2 y (Or.inr ⟨by decide, p, q⟩)]; exact g2 y p q
    · rw [e 3 y (Or.inr ⟨by decide, p, q⟩), e 4 y (Or.inr ⟨by decide, p, q⟩)]; exact g3 y p q
    · rw [e 5 y (Or.inr ⟨by decide, p, q⟩), e 6 y (Or.inr ⟨by decide, p, q⟩)]; exact g4 y p q
    · rw [e 7 y (Or.inr ⟨by decide, p, q⟩), e 8 y (Or.inr ⟨by decide, p, q⟩)]; exact g5 y p q
  · subst z
    rw [e0 0 (by decide) (by decide), e0 1 (by decide) (by decide), e0 2 (by decide) (by decide)]; exact h2 rfl
  · obtain ⟨⟨g1, g0⟩, g2⟩ := h3 z
    subst z
    refine ⟨⟨by rw [e0 0 (by decide) (by decide)]; exact g1, g0⟩, fun y p q => ?_⟩
    have q' : y < 40 := by omega
    rw [e 1 y (Or.inr ⟨by decide, p, q'⟩), e 2 y (Or.inr ⟨by decide, p, q'⟩), e 3 y (Or.inr ⟨by decide, p, q'⟩), e 4 y (Or.inr ⟨by decide, p, q'⟩)]; exact g2 y p q
  · obtain ⟨⟨g1, g0⟩, g2, g3⟩ := h4 z
    subst z
    refine ⟨⟨by rw [e0 0 (by decide) (by decide)]; exact g1, g0⟩, fun y p q => ?_, fun y p q => ?_⟩
    · have q' : y < 8 := by omega
      rw [e 1 y (Or.inr ⟨by decide, p, q'⟩), e 2 y (Or.inr ⟨by decide, p, q'⟩)]; exact g2 y p q
    · rw [e 3 y (Or.inr ⟨by decide, p, q⟩)]; exact g3 y p q
/-- the row may be another that begins as this one -/
theorem OD.row {s a : Int} {D D' : Int → Int} (h : OD s M a D) (e : ∀ y, 0 ≤ y → y < wd s → D' y = D y) : OD s M a D' := by
  obtain ⟨h1, h2, h3, h4⟩ := h
  refine ⟨fun z => ?_, fun z => ?_, fun z => ?_, fun z => ?_⟩
  · subst z
    have f : ∀ y, 0 ≤ y → y < 92 → D' y = D y := e
    obtain ⟨g1, g2, g3, g4, g5⟩ := h1 rfl
    exact ⟨by rw [f 0 (by decide) (by decide), f 1 (by decide) (by decide)]; exact g1, fun y p q => by rw [f _ (by omega) (by omega), f _ (by omega) (by omega)]; exact g2 y p q, fun y p q => by rw [f _ (by omega) (by omega), f _ (by omega) (by omega)]; exact g3 y p q, fun y p q => by rw [f _ (by omega) (by omega), f _ (by omega) (by omega)]; exact g4 y p q, fun y p q => by rw [f _ (by omega) (by omega), f _ (by omega) (by omega)]; exact g5 y p q⟩
  · subst z
    have f : ∀ y, 0 ≤ y → y < 3 → D' y = D y := e
    rw [f 0 (by decide) (by decide), f 1 (by decide) (by decide), f 2 (by decide) (by decide)]; exact h2 rfl
  · subst z
    have f : ∀ y, 0 ≤ y → y < 161 → D' y = D y := e
    obtain ⟨⟨g1, g0⟩, g2⟩ := h3 rfl
    rw [f 0 (by decide) (by decide)]
    refine ⟨⟨g1, g0⟩, fun y p q => ?_⟩
    rw [f _ (by omega) (by omega), f _ (by omega) (by omega), f _ (by omega) (by omega), f _ (by omega) (by omega)]; exact g2 y p q
  · subst z
    have f : ∀ y, 0 ≤ y → y < 47 → D' y = D y := e
    obtain ⟨⟨g1, g0⟩, g2, g3⟩ := h4 rfl
    rw [f 0 (by decide) (by decide)]
    refine ⟨⟨g1, g0⟩, fun y p q => ?_, fun y p q => by rw [f _ (by omega) (by omega)]; exact g3 y p q⟩
    rw [f _ (by omega) (by omega), f _ (by omega) (by omega)]; exact g2 y p q
/-- a Told at b and the reference's layer q -/
def TR (M : Mem) (b q : Int) : Prop :=
  (M.1 b 1 = M.1 87 q ∧ M.1 b 2 = M.1 88 q ∧ M.1 b 3 = M.1 89 q) ∧
  (∀ i, 0 ≤ i → i < M.1 b 1 → (-128 ≤ M.1 (b + 1) i ∧ M.1 (b + 1) i ≤ 127) ∧ M.1 86 (600 * q + i) = M.1 (b + 1) i) ∧
  (∀ s, 0 ≤ s → s < 4 → M.1 (b + 2) s = M.1 90 (4 * q + s) ∧ M.1 (b + 2) s ≤ 2) ∧
  ∀ s t, 0 ≤ s → s < 4 → 0 ≤ t → t < M.1 (b + 2) s → OD s M (b + ob s + 19 * t) (fun y => M.1 (91 + s) (wd s * (2 * q + t) + y))
def REL (M : Mem) : Prop := TR M 1 0 ∧ ∀ k, 0 ≤ k → k < 3 → M.1 46 k ≠ -1 → TR M (M.1 46 k) (k + 1)
def INV2 (M : Mem) : Prop := INV M ∧ REL M
theorem dO_b {s k y : Int} (h : dO s k y) : (0 ≤ k ∧ 7 ≤ ob s) ∧ ob s + k ≤ 25 := by
  have n : k = 0 ∨ (1 ≤ k ∧ k ≤ nO s) := h.elim (fun z => Or.inl z.1) (fun z => Or.inr z.1)
  unfold nO at n
  unfold ob
  by_cases e0 : s = 0
  · rw [if_pos e0] at n; rw [if_pos e0]; omega
  · rw [if_neg e0] at n; rw [if_neg e0]
    by_cases e1 : s = 1
    · rw [if_pos e1] at n; rw [if_pos e1]; omega
    · rw [if_neg e1] at n; rw [if_neg e1]
      by_cases e2 : s = 2
      · rw [if_pos e2] at n; rw [if_pos e2]; omega
      · rw [if_neg e2] at n; rw [if_neg e2]; omega
/-- the relation looks at a Told's block and at the reference's rows -/
theorem TR.same {b q : Int} (h : TR M b q) (e : ∀ x y, b ≤ x → x < b + 45 → N.1 x y = M.1 x y) (f : ∀ x y, 86 ≤ x → x ≤ 94 → N.1 x y = M.1 x y) : TR N b q := by
  obtain ⟨⟨h1, h2, h3⟩, h4, h5, h6⟩ := h
  have e0 : ∀ y, N.1 b y = M.1 b y := fun y => e b y (by omega) (by omega)
  refine ⟨?_, fun i a c => ?_, fun s a c => ?_, fun s t a c d g => ?_⟩
  · rw [e0, e0, e0, f 87 _ (by decide) (by decide), f 88 _ (by decide) (by decide), f 89 _ (by decide) (by decide)]; exact ⟨h1, h2, h3⟩
  · rw [e0] at c
    rw [e (b + 1) _ (by omega) (by omega), f 86 _ (by decide) (by decide)]; exact h4 i a c
  · rw [e (b + 2) _ (by omega) (by omega), f 90 _ (by decide) (by decide)]; exact h5 s a c
  · rw [e (b + 2) _ (by omega) (by omega)] at g
    have g2 := (h5 s a c).2
    have k := h6 s t a c d g
    rw [show (fun y => N.1 (91 + s) (wd s * (2 * q + t) + y)) = (fun y => M.1 (91 + s) (wd s * (2 * q + t) + y)) from funext (fun y => f _ _ (by omega) (by omega))]
    exact k.mv (fun j y dj => by have := dO_b dj; exact e _ y (by omega) (by omega))
theorem REL.same (h : REL M) (hI : IM M) (e : ∀ x y, 1 ≤ x → x ≤ 46 → N.1 x y = M.1 x y) (f : ∀ x y, 86 ≤ x → x ≤ 94 → N.1 x y = M.1 x y) (g : ∀ x y, 112 ≤ x → N.1 x y = M.1 x y) : REL N := by
  refine ⟨h.1.same (fun x y a b => e x y (by omega) (by omega)) f, fun k a b c => ?_⟩
  rw [e 46 k (by decide) (by decide)] at c ⊢
  have hb := ((hI.1 k a b).resolve_left c).1.1
  exact (h.2 k a b c).same (fun x y z _ => g x y (by omega)) f
theorem INV2.keep (h : INV2 M) (k : Keep M N) : INV2 N := by
  have lo : ∀ x y, (x < 47 ∨ 86 ≤ x) → (x < 95 ∨ 111 ≤ x) → N.1 x y = M.1 x y := fun x y a b => k.2 x y (scr_lo y (by omega) a b)
  exact ⟨h.1.keep k, h.2.same h.1.2.2.1 (fun x y a b => lo x y (by omega) (by omega)) (fun x y a b => lo x y (by omega) (by omega)) (fun x y a => lo x y (by omega) (by omega))⟩
theorem INV2.keepC (h : INV2 M) (k : KeepC M N) (s : SC N) : INV2 N := by
  have lo : ∀ x y, (x < 47 ∨ 86 ≤ x) → (x < 95 ∨ 111 ≤ x) → N.1 x y = M.1 x y := fun x y a b => k.2 x y (scr_lo y (by omega) a b) (by omega)
  exact ⟨h.1.keepC k s, h.2.same h.1.2.2.1 (fun x y a b => lo x y (by omega) (by omega)) (fun x y a b => lo x y (by omega) (by omega)) (fun x y a => lo x y (by omega) (by omega))⟩
end Rel
