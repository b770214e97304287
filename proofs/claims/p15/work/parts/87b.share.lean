/-! share, even, crew -/
section Share
variable {M N : Mem} {D : Int → Int} {f : Int → Int}
theorem sm_mem {n : Nat} : (∀ j : Int, 0 ≤ j → j < n → 0 ≤ f j) → ∀ x : Int, 0 ≤ x → x < n → f x ≤ sm f n := by
  induction n with
  | zero => intro _ x p q; omega
  | succ m ih =>
    intro h x p q
    show f x ≤ sm f m + f (m : Int)
    have hm := h (m : Int) (by omega) (by omega)
    have b := (sm_bd (f := f) (n := m) (lo := 0) (hi := f x + sm f m + 1) (fun j a b => ?_))
    · by_cases e : x = (m : Int)
      · rw [e] at b ⊢; omega
      · have := ih (fun j p q => h j p (by omega)) x p (by omega); omega
    · have := h j a (by omega)
      have i := ih (fun j p q => h j p (by omega)) j a b
      by_cases e : x = (m : Int)
      · have := h x p (by omega); omega
      · have := h x p (by omega); omega
theorem sI_mem {n x : Int} (h : ∀ j : Int, 0 ≤ j → j < n → 0 ≤ f j) (x0 : 0 ≤ x) (x1 : x < n) : f x ≤ sI f n := sm_mem (n := n.toNat) (fun j p q => h j p (by omega)) x x0 (by omega)
theorem lesserV (a b : Int) : fX11_lesser M a b = some (imin b a) := by
  unfold fX11_lesser imin
  by_cases c : a < b
  · rw [if_pos c, if_pos c]
  · rw [if_neg c, if_neg c]
theorem share_E (h : INV2 M) (k x u : Int) : TT (fX10_share M 0 k x u) (fun r => TT (fX11_share M 85 k x u) (fun v => r = v.1 ∧ Keep M v.2)) := by
  have hT := h.1.1
  refine TT.rr (shareX_T hT k x u) (shareY_T hT k x u) ?_
  unfold fX10_share fX11_share
  rw [wp0_0 hT]
  refine RR.gl (fun _ => RR.gl (fun _ => RR.gr (fun _ => RR.mr (RR.town h k (RR.posl rfl (RR.posr rfl (RR.ok rfl))) (fun a N D ne d e bd _ => RR.negl ne (RR.negr n10 (RR.gl (fun _ => RR.gr (fun _ => ?_)))))))))
  have b := bd.1
  have e0 := d.2.2.1.1
  have e1 := e.2.2.1.2.1
  rw [d.isHouse, e.isHouse bd]
  refine RR.flag (fun c => ?_) (fun _ => RR.ok rfl)
  rw [tp2_ d.1 d.2.1]
  refine RR.iter (fun s t => s = t ∧ (0 ≤ s.2 ∧ s.2 ≤ D 0) ∧ s.1 = sI (wo D) s.2) ?_ _ _ _ _ ⟨rfl, ⟨by (try dsimp only); omega, by (try dsimp only); omega⟩, rfl⟩
  rintro rec rec' ⟨y, i⟩ t ⟨rfl, ⟨i0, i1⟩, hy⟩ hrec
  simp only at i0 i1 hy ⊢
  have sb := sI_bd (f := wo D) (lo := 0) (hi := 405) (fun j p q => wo_bd bd p (by omega)) i0
  rw [← hy] at sb
  refine RR.ii (by rw [e0, e1]) (fun c1 _ => ?_) (fun c1 _ => ?_)
  · rw [e0] at c1
    refine RR.bl (d.worth i0 (by omega)) (fun r q => RR.br (e.worth bd i0 (by omega)) (fun r' q' => ?_))
    subst q q'
    have wb := wo_bd bd i0 (show i < 6 by omega)
    refine hrec _ _ ⟨rfl, ⟨?_, ?_⟩, ?_⟩
    · show 0 ≤ w32 (i + 1)
      rw [w32_of (by omega) (by omega)]; omega
    · show w32 (i + 1) ≤ D 0
      rw [w32_of (by omega) (by omega)]; omega
    · show w32 (y + wo D i) = sI (wo D) (w32 (i + 1))
      rw [w32_of (x := i + 1) (by omega) (by omega), sI_s i0, ← hy, w32_of (by omega) (by omega)]
  · rw [e0] at c1
    have ei : i = D 0 := by omega
    have wb := wo_bd bd c.1 (show x < 6 by omega)
    have wm : wo D x ≤ y := by rw [hy, ei]; exact sI_mem (fun j p q => (wo_bd bd p (by omega)).1) c.1 c.2
    refine RR.bl (d.worth c.1 (by omega)) (fun r q => RR.br (e.worth bd c.1 (by omega)) (fun r' q' => ?_))
    subst q q'
    exact RR.rl (RR.br (leastY_V wb.1 (by omega) (by omega) (by omega)) (fun r q => RR.okp (leastX_V wb.1 (by omega) (by omega) (by omega) (by omega)) (PC.ok (Q := fun v => v = (r, N)) rfl) (fun r' v p p' => by rw [p, p', q])))
theorem even_E (h : INV2 M) (k g : Int) : TT (fX10_even M 0 k g) (fun r => TT (fX11_even M 85 k g) (fun v => r = v.1 ∧ Keep M v.2)) := by
  have hT := h.1.1
  refine TT.rr (evenX_T hT k g) (evenY_T hT k g) ?_
  unfold fX10_even fX11_even
  rw [wp0_0 hT]
  refine RR.gl (fun _ => RR.gl (fun _ => RR.gr (fun _ => RR.mr (RR.town h k (RR.posl rfl (RR.posr rfl (RR.ok rfl))) (fun a N D ne d e bd _ => RR.negl ne (RR.negr n10 ?_))))))
  have b := bd.1
  have e0 := d.2.2.1.1
  have e1 := e.2.2.1.2.1
  rw [isGoodX, isGoodY]
  refine RR.flag (fun c => RR.gl (fun _ => RR.rl ?_)) (fun _ => RR.ok rfl)
  have d' := d
  obtain ⟨hT, ha, _, e2, _⟩ := d
  unfold fX7_evenOut
  rw [tp2_ hT ha, e0]
  refine RR.gl (fun _ => RR.negl (by omega) ?_)
  have hv : ∀ i, 0 ≤ i → i < D 0 → fX10_cell M i g = some (5 * i + g) ∧ M.1 (a + 1) (5 * i + g) = D (2 + (5 * i + g)) ∧ fX11_of N 85 (w32 (w32 (2 + w32 (5 * i)) + g)) = some (D (2 + (5 * i + g))) ∧ 0 ≤ D (2 + (5 * i + g)) ∧ D (2 + (5 * i + g)) ≤ 9 := fun i p q =>
    ⟨cellV p (by omega) c.1 c.2, (e2 _ (by omega) (by omega)).1, by rw [hgI p (by omega) c.1 c.2 (by decide) (by decide)]; exact e.of (by omega) (by omega), bd.has _ (by omega) (by omega)⟩
  refine RR.iter (fun s t => s = t ∧ (0 ≤ s.2 ∧ s.2 ≤ D 0) ∧ (0 ≤ s.1 ∧ s.1 ≤ 9 * s.2)) ?_ _ _ _ _ ⟨rfl, ⟨by decide, by (try dsimp only); omega⟩, by decide⟩
  rintro rec rec' ⟨y, i⟩ t ⟨rfl, ⟨i0, i1⟩, y0, y1⟩ hrec
  simp only at i0 i1 y0 y1 ⊢
  refine RR.gr (fun _ => RR.ii (by rw [e1]) (fun c1 _ => ?_) (fun c1 _ => ?_))
  · obtain ⟨v1, v2, v3, v4, v5⟩ := hv i i0 c1
    rw [v1, v3]
    refine RR.gl (fun _ => hrec _ _ ⟨?_, ⟨?_, ?_⟩, ?_⟩)
    · show (w32 (y + M.1 (a + 1) (5 * i + g)), w32 (i + 1)) = (w32 (y + D (2 + (5 * i + g))), w32 (i + 1))
      rw [v2]
    · show 0 ≤ w32 (i + 1)
      rw [w32_of (by omega) (by omega)]; omega
    · show w32 (i + 1) ≤ D 0
      rw [w32_of (by omega) (by omega)]; omega
    · show 0 ≤ w32 (y + M.1 (a + 1) (5 * i + g)) ∧ w32 (y + M.1 (a + 1) (5 * i + g)) ≤ 9 * w32 (i + 1)
      rw [v2, w32_of (x := i + 1) (by omega) (by omega), w32_of (by omega) (by omega)]; omega
  have pd : w32 (y.tdiv (D 0)) = y / D 0 ∧ y.tmod (D 0) = y % D 0 := by
    have q1 := Int.ediv_nonneg y0 (show 0 ≤ D 0 by omega)
    have q2 := Int.ediv_le_self (D 0) y0
    exact ⟨by rw [Int.tdiv_eq_ediv_of_nonneg y0, w32_of (by omega) (by omega)], Int.tmod_eq_emod_of_nonneg y0⟩
  have q1 := Int.ediv_nonneg y0 (show 0 ≤ D 0 by omega)
  have q2 := Int.ediv_le_self (D 0) y0
  rw [e1, pd.1, pd.2]
  refine RR.gl (fun _ => RR.gr (fun _ => RR.gr (fun _ => ?_)))
  generalize y / D 0 = z at q1 q2 ⊢
  generalize y % D 0 = m
  refine RR.iter (fun s t => s = t ∧ (0 ≤ s.2.2 ∧ s.2.2 ≤ D 0) ∧ (0 ≤ s.1 ∧ s.1 ≤ 9 * s.2.2) ∧ (0 ≤ s.2.1 ∧ s.2.1 ≤ s.2.2)) ?_ _ _ _ _ ⟨rfl, ⟨by decide, by (try dsimp only); omega⟩, by decide, by decide⟩
  clear hrec rec rec'
  rintro rec rec' ⟨y', r, i'⟩ t ⟨rfl, ⟨i0', i1'⟩, ⟨y0', y1'⟩, r0, r1⟩ hrec
  simp only at i0' i1' y0' y1' r0 r1 ⊢
  refine RR.ii Iff.rfl (fun c2 _ => ?_) (fun c2 _ => ?_)
  · obtain ⟨v1, v2, v3, v4, v5⟩ := hv i' i0' c2
    have wi : w32 (i' + 1) = i' + 1 := w32_of (by omega) (by omega)
    simp only [v1, v3, bd1, v2, greaterV]
    refine RR.gl (fun _ => RR.il (fun c3 => RR.gl (fun _ => ?_)) (fun c3 => ?_))
    · rw [w32_of (x := D (2 + (5 * i' + g)) - z) (by omega) (by omega), show imax 0 (D (2 + (5 * i' + g)) - z) = D (2 + (5 * i' + g)) - z from by unfold imax; rw [if_pos (by omega)]]
      refine RR.posr (by omega) (hrec _ _ ⟨rfl, ⟨?_, ?_⟩, ?_, ?_⟩)
      · show 0 ≤ w32 (i' + 1)
        omega
      · show w32 (i' + 1) ≤ D 0
        omega
      · show 0 ≤ w32 (y' + (D (2 + (5 * i' + g)) - z)) ∧ w32 (y' + (D (2 + (5 * i' + g)) - z)) ≤ 9 * w32 (i' + 1)
        rw [w32_of (x := y' + (D (2 + (5 * i' + g)) - z)) (by omega) (by omega)]; omega
      · show 0 ≤ w32 (r + 1) ∧ w32 (r + 1) ≤ w32 (i' + 1)
        rw [w32_of (x := r + 1) (by omega) (by omega)]; omega
    · have zz : -54 ≤ D (2 + (5 * i' + g)) - z := by omega
      rw [w32_of (x := D (2 + (5 * i' + g)) - z) (by omega) (by omega), show imax 0 (D (2 + (5 * i' + g)) - z) = 0 from by unfold imax; rw [if_neg (by omega)]]
      refine RR.negr (by decide) (hrec _ _ ⟨?_, ⟨?_, ?_⟩, ?_, ?_⟩)
      · show (y', r, w32 (i' + 1)) = (w32 (y' + 0), w32 (r + 0), w32 (i' + 1))
        rw [Int.add_zero, Int.add_zero, w32_of (x := y') (by omega) (by omega), w32_of (x := r) (by omega) (by omega)]
      · show 0 ≤ w32 (i' + 1)
        omega
      · show w32 (i' + 1) ≤ D 0
        omega
      · show 0 ≤ y' ∧ y' ≤ 9 * w32 (i' + 1)
        omega
      · show 0 ≤ r ∧ r ≤ w32 (i' + 1)
        omega
  · refine RR.gl (fun _ => ?_)
    rw [lesserV]
    exact RR.ok rfl
end Share
/-! crew -/
section Crew
variable {M N : Mem} {D : Int → Int}
def lmS (D : Int → Int) (x : Int) : Int := sI (fun t => if bAnd (bShr x t) 1 = 1 then D (84 + t) else 0) (D 1)
def hdF (x n : Int) : Int := sI (fun t => if bAnd (bShr x t) 1 = 1 then 1 else 0) n
theorem hasV (x t : Int) : fX11_has M x t = some (if bAnd (bShr x t) 1 = 1 then 1 else 0) := by
  unfold fX11_has
  by_cases c : bAnd (bShr x t) 1 = 1
  · rw [if_pos c, if_pos c]
  · rw [if_neg c, if_neg c]
set_option maxRecDepth 100000 in
theorem bc_all : ∀ n : Fin 5, ∀ x : Fin 16, (x : Nat) < 2 ^ (n : Nat) → fJ6_bitCount_0f7a4 MZ ((x : Nat) : Int) = some (hdF ((x : Nat) : Int) ((n : Nat) : Int)) := by decide +kernel
set_option maxRecDepth 100000 in
theorem shl_all : ∀ n : Fin 5, bShl 1 ((n : Nat) : Int) = ((2 ^ (n : Nat) : Nat) : Int) := by decide +kernel
theorem shl_V {n : Int} (n0 : 0 ≤ n) (n1 : n ≤ 4) : bShl 1 n = ((2 ^ n.toNat : Nat) : Int) ∧ (2 ^ n.toNat : Nat) ≤ 16 := by
  have := shl_all ⟨n.toNat, by omega⟩
  rw [show (((⟨n.toNat, by omega⟩ : Fin 5) : Nat) : Int) = n by show ((n.toNat : Nat) : Int) = n; omega] at this
  exact ⟨this, Nat.pow_le_pow_right (n := 2) (by decide) (show n.toNat ≤ 4 by omega)⟩
theorem bc_V {n x : Int} (n0 : 0 ≤ n) (n1 : n ≤ 4) (x0 : 0 ≤ x) (x1 : x < bShl 1 n) : fJ6_bitCount_0f7a4 M x = some (hdF x n) := by
  obtain ⟨e, l⟩ := shl_V n0 n1
  rw [e] at x1
  have := bc_all ⟨n.toNat, by omega⟩ ⟨x.toNat, by omega⟩ (show x.toNat < 2 ^ n.toNat by omega)
  rw [show (((⟨n.toNat, by omega⟩ : Fin 5) : Nat) : Int) = n by show ((n.toNat : Nat) : Int) = n; omega, show (((⟨x.toNat, by omega⟩ : Fin 16) : Nat) : Int) = x by show ((x.toNat : Nat) : Int) = x; omega] at this
  exact this
theorem lm_bd (bd : DBd D) (x : Int) {i : Int} (i0 : 0 ≤ i) (i1 : i ≤ D 1) : 0 ≤ sI (fun t => if bAnd (bShr x t) 1 = 1 then D (84 + t) else 0) i ∧ sI (fun t => if bAnd (bShr x t) 1 = 1 then D (84 + t) else 0) i ≤ 36 := by
  have b := bd.2.1
  have := sI_bd (f := fun t => if bAnd (bShr x t) 1 = 1 then D (84 + t) else 0) (lo := 0) (hi := 9) (i := i) (fun j p q => by
    have := (bd.2.2.2.2.2 j p (by omega)).1
    (try dsimp only); split
    · exact this
    · decide) i0
  omega
theorem TD.limitOf {a : Int} (d : TD M a D) (x : Int) : PC (fX7_limitOf M a x) (fun r => r = lmS D x) := by
  have bd := d.bd
  have b := bd.2.1
  obtain ⟨hT, ha, ⟨_, e1⟩, _, _, _, e5⟩ := d
  unfold fX7_limitOf lmS
  rw [e1, tp8_ hT ha]
  refine PC.iter (fun s => (0 ≤ s.2 ∧ s.2 ≤ D 1) ∧ s.1 = sI (fun t => if bAnd (bShr x t) 1 = 1 then D (84 + t) else 0) s.2) ?_ _ _ ⟨⟨by decide, b.1⟩, rfl⟩
  rintro rec ⟨y, i⟩ ⟨⟨i0, i1⟩, hy⟩ hrec
  simp only at i0 i1 hy ⊢
  have lb := lm_bd bd x i0 i1
  rw [← hy] at lb
  refine PC.guard (fun _ => PC.ite (fun c => ?_) (fun c => PC.ok (by rw [hy, show i = D 1 by omega])))
  have wi : w32 (i + 1) = i + 1 := w32_of (by omega) (by omega)
  have lim := (bd.2.2.2.2.2 i i0 (by omega)).1
  have e := (e5 i i0 (by omega)).1
  refine PC.ite (fun z => PC.guard (fun _ => hrec _ ⟨⟨?_, ?_⟩, ?_⟩)) (fun z => hrec _ ⟨⟨?_, ?_⟩, ?_⟩)
  · show 0 ≤ w32 (i + 1)
    omega
  · show w32 (i + 1) ≤ D 1
    omega
  · show w32 (y + M.1 (a + 7) i) = sI _ (w32 (i + 1))
    rw [wi, sI_s i0, ← hy, if_pos z, e, w32_of (by omega) (by omega)]
  · show 0 ≤ w32 (i + 1)
    omega
  · show w32 (i + 1) ≤ D 1
    omega
  · show y = sI _ (w32 (i + 1))
    rw [wi, sI_s i0, ← hy, if_neg z, Int.add_zero]
theorem RD.limits {k : Int} (d : RD N k D) (bd : DBd D) (x : Int) : PC (fX11_limits N 85 x) (fun r => r = lmS D x) := by
  have b := bd.2.1
  have e1 := d.2.2.1.2.2
  unfold fX11_limits lmS
  rw [e1]
  refine PC.iter (fun s => (0 ≤ s.2 ∧ s.2 ≤ D 1) ∧ s.1 = sI (fun t => if bAnd (bShr x t) 1 = 1 then D (84 + t) else 0) s.2) ?_ _ _ ⟨⟨by decide, b.1⟩, rfl⟩
  rintro rec ⟨y, i⟩ ⟨⟨i0, i1⟩, hy⟩ hrec
  simp only at i0 i1 hy ⊢
  have lb := lm_bd bd x i0 i1
  rw [← hy] at lb
  refine PC.guard (fun _ => PC.ite (fun c => ?_) (fun c => PC.ok (by rw [hy, show i = D 1 by omega])))
  have wi : w32 (i + 1) = i + 1 := w32_of (by omega) (by omega)
  have lim := (bd.2.2.2.2.2 i i0 (by omega)).1
  rw [hasV, w32_of (x := 84 + i) (by omega) (by omega), d.of (by omega) (by omega)]
  refine PC.bindE rfl ?_
  by_cases z : bAnd (bShr x i) 1 = 1
  · rw [if_pos z]
    refine PC.neg n10 (PC.bindE rfl (hrec _ ⟨⟨?_, ?_⟩, ?_⟩))
    · show 0 ≤ w32 (i + 1)
      omega
    · show w32 (i + 1) ≤ D 1
      omega
    · show w32 (y + D (84 + i)) = sI _ (w32 (i + 1))
      rw [wi, sI_s i0, ← hy, if_pos z, w32_of (by omega) (by omega)]
  · rw [if_neg z]
    refine PC.pos rfl (hrec _ ⟨⟨?_, ?_⟩, ?_⟩)
    · show 0 ≤ w32 (i + 1)
      omega
    · show w32 (i + 1) ≤ D 1
      omega
    · show w32 (y + 0) = sI _ (w32 (i + 1))
      rw [wi, sI_s i0, ← hy, if_neg z, Int.add_zero, w32_of (by omega) (by omega)]
theorem hd_bd (x : Int) {i : Int} (i0 : 0 ≤ i) : 0 ≤ hdF x i ∧ hdF x i ≤ i := by
  have := sI_bd (f := fun t => if bAnd (bShr x t) 1 = 1 then (1 : Int) else 0) (lo := 0) (hi := 1) (i := i) (fun j p q => by (try dsimp only); split <;> decide) i0
  unfold hdF
  omega
theorem RD.heads {k : Int} (d : RD N k D) (bd : DBd D) (x : Int) : PC (fX11_heads N 85 x) (fun r => r = hdF x (D 1)) := by
  have b := bd.2.1
  have e1 := d.2.2.1.2.2
  unfold fX11_heads
  rw [e1]
  refine PC.iter (fun s => (0 ≤ s.2 ∧ s.2 ≤ D 1) ∧ s.1 = hdF x s.2) ?_ _ _ ⟨⟨by decide, b.1⟩, rfl⟩
  rintro rec ⟨y, i⟩ ⟨⟨i0, i1⟩, hy⟩ hrec
  simp only at i0 i1 hy ⊢
  have lb := hd_bd x i0
  rw [← hy] at lb
  refine PC.guard (fun _ => PC.ite (fun c => ?_) (fun c => PC.ok (by rw [hy, show i = D 1 by omega])))
  have wi : w32 (i + 1) = i + 1 := w32_of (by omega) (by omega)
  rw [hasV]
  refine PC.bindE rfl ?_
  by_cases z : bAnd (bShr x i) 1 = 1
  · rw [if_pos z]
    refine PC.neg n10 (hrec _ ⟨⟨?_, ?_⟩, ?_⟩)
    · show 0 ≤ w32 (i + 1)
      omega
    · show w32 (i + 1) ≤ D 1
      omega
    · show w32 (y + 1) = hdF x (w32 (i + 1))
      rw [wi]; unfold hdF at hy ⊢; rw [sI_s i0, ← hy, if_pos z, w32_of (by omega) (by omega)]
  · rw [if_neg z]
    refine PC.pos rfl (hrec _ ⟨⟨?_, ?_⟩, ?_⟩)
    · show 0 ≤ w32 (i + 1)
      omega
    · show w32 (i + 1) ≤ D 1
      omega
    · show w32 (y + 0) = hdF x (w32 (i + 1))
      rw [wi]; unfold hdF at hy ⊢; rw [sI_s i0, ← hy, if_neg z, Int.add_zero, w32_of (by omega) (by omega)]
theorem RR.lb {α ρ σ : Type} {X : Option α} {f : α → Option ρ} {Y : Option σ} {Q : ρ → σ → Prop} (h : RR X Y (fun r u => PC (f r) (fun v => Q v u))) : RR (X.bind f) Y Q := by
  cases X with
  | none => exact RR.xl
  | some r => exact fun v u e e' => h r u rfl e' v e
theorem RR.stepr {ρ σ T : Type} {X : Option ρ} {b : (T → Option σ) → T → Option σ} {t : T} {Q : ρ → σ → Prop} (h : RR X (b (iterC b 2999999) t) Q) : RR X (iterC b BIG t) Q := h
theorem crew_E (h : INV2 M) (k n u : Int) : TT (fX10_crew M 0 k n u) (fun r => TT (fX11_crew M 85 k n u) (fun v => r = v.1 ∧ Keep M v.2)) := by
  have hT := h.1.1
  refine TT.rr (crewX_T hT k n u) (crewY_T hT k n u) ?_
  unfold fX10_crew fX11_crew
  rw [wp0_0 hT]
  refine RR.gl (fun _ => RR.gl (fun _ => RR.gr (fun _ => RR.mr (RR.town h k (RR.posl rfl (RR.posr rfl (RR.ok rfl))) (fun a N D ne d e bd _ => RR.negl ne (RR.negr n10 ?_))))))
  have b := bd.2.1
  have e0 := d.2.2.1.2
  have e1 := e.2.2.1.2.2
  rw [in_v2]
  by_cases c : 1 ≤ n ∧ n ≤ 36
  rotate_left
  · rw [if_neg c]
    exact RR.br (PC.ok (Q := fun v => v = 0) rfl) (fun r q => RR.posr q (RR.il (fun _ => RR.ok rfl) (fun _ => RR.il (fun _ => RR.ok rfl) (fun _ => by omega))))
  rw [if_pos c]
  refine RR.br (PC.ok (Q := fun v => v = 1) rfl) (fun r q => RR.negr (by rw [q]; decide) (RR.negl (by omega) (RR.negl (by omega) (RR.gl (fun _ => RR.lb ?_)))))
  clear q r
  obtain ⟨w1, w2⟩ := shl_V b.1 b.2
  have w3 : 1 ≤ (2 ^ (D 1).toNat : Nat) := Nat.one_le_two_pow
  unfold fX7_crewFor
  rw [e0, e1]
  have bc : ∀ x, 0 ≤ x → x < bShl 1 (D 1) → PC (fJ6_bitCount_0f7a4 M x) (fun r => r = hdF x (D 1)) := fun x p q => by rw [bc_V b.1 b.2 p q]; exact PC.ok rfl
  refine RR.stepr (RR.gr (fun _ => RR.posr (by (try dsimp only); omega) (RR.br (e.limits bd 0) (fun r q => RR.posr ?_ ?_))))
  · have z : ∀ t : Int, 0 ≤ t → t < D 1 → (if bAnd (bShr 0 t) 1 = 1 then D (84 + t) else 0) = 0 := by
      intro t t0 t1
      have t4 : t = 0 ∨ t = 1 ∨ t = 2 ∨ t = 3 := by omega
      refine if_neg ?_
      rcases t4 with rfl | rfl | rfl | rfl <;> decide +kernel
    have := sI_bd (f := fun t => if bAnd (bShr 0 t) 1 = 1 then D (84 + t) else 0) (lo := 0) (hi := 0) (i := D 1) (fun j p q => by rw [z j p q]; exact ⟨Int.le_refl _, Int.le_refl _⟩) b.1
    rw [q]; unfold lmS; omega
  clear q r
  refine RR.iter (fun s t => s = t ∧ (1 ≤ s.2 ∧ s.2 ≤ bShl 1 (D 1)) ∧ (s.1 = -1 ∨ (0 ≤ s.1 ∧ s.1 < bShl 1 (D 1)))) ?_ _ _ _ _ ⟨rfl, ⟨by decide, by (try dsimp only); omega⟩, Or.inl rfl⟩
  rintro rec rec' ⟨y, i⟩ t ⟨rfl, ⟨i0, i1⟩, hy⟩ hrec
  simp only at i0 i1 hy ⊢
  have wi : w32 (i + 1) = i + 1 := w32_of (by omega) (by omega)
  refine RR.gl (fun _ => RR.gr (fun _ => RR.ii Iff.rfl (fun c1 _ => ?_) (fun c1 _ => ?_)))
  · have s1 : RR (rec (y, w32 (i + 1))) (rec' (y, w32 (i + 1))) _ := hrec _ _ ⟨rfl, ⟨by (try dsimp only); omega, by (try dsimp only); omega⟩, hy⟩
    have s2 : RR (rec (i, w32 (i + 1))) (rec' (i, w32 (i + 1))) _ := hrec _ _ ⟨rfl, ⟨by (try dsimp only); omega, by (try dsimp only); omega⟩, Or.inr ⟨by (try dsimp only); omega, c1⟩⟩
    have bi := bc i (by omega) c1
    refine RR.br (e.limits bd i) (fun L q => ?_)
    subst q
    refine RR.jl (RR.jl (RR.il (fun z => RR.negl n10 (RR.bl (d.limitOf i) (fun r q => ?_))) (fun z => RR.bl bi (fun r q => RR.bl (bc y (by omega) (by omega)) (fun r' q' => RR.il (fun z' => RR.negl n10 (RR.bl (d.limitOf i) (fun r'' q'' => ?_))) (fun z' => RR.posl rfl ?_))))))
    · subst q
      exact RR.ii Iff.rfl (fun _ _ => s1) (fun _ _ => RR.posr z s2)
    · subst q q' q''
      exact RR.ii Iff.rfl (fun _ _ => s1) (fun _ _ => RR.negr z (RR.br (e.heads bd i) (fun r q => RR.br (e.heads bd y) (fun r' q' => RR.posr (by rw [q, q']; exact z') s2))))
    · subst q q'
      exact RR.ir (fun _ => s1) (fun _ => RR.negr z (RR.br (e.heads bd i) (fun r q => RR.br (e.heads bd y) (fun r' q' => RR.negr (by rw [q, q']; exact z') s1))))
  · refine RR.ir (fun z => RR.ok ?_) (fun z => RR.ir (fun z' => RR.br (e.heads bd y) (fun r q => RR.ok ?_)) (fun z' => RR.ok ?_))
    · exact PC.ite (fun _ => PC.pos z (PC.ok rfl)) (fun _ => PC.ok rfl)
    · exact PC.pos z' (PC.neg z (PC.bind (bc y (by omega) (by omega)) (fun r' q' => PC.ok (by rw [q, q']))))
    · exact PC.neg z' (PC.ok rfl)
end Crew
