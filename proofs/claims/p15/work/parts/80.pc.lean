/-! partial correctness; towns, laws, nights, sights as rows; the calls that tell -/
def PC {ρ : Type} (X : Option ρ) (Q : ρ → Prop) : Prop := ∀ r, X = some r → Q r
section PCs
variable {α β ρ σ τ : Type}
theorem PC.ok {r : ρ} {Q : ρ → Prop} (h : Q r) : PC (some r) Q := fun q e => by cases e; exact h
theorem PC.of {X : Option ρ} {Q : ρ → Prop} (h : TT X Q) : PC X Q := fun q e => by obtain ⟨r, e', h⟩ := h; rw [e'] at e; cases e; exact h
theorem PC.mono {X : Option ρ} {Q Q' : ρ → Prop} (h : PC X Q) (hq : ∀ r, Q r → Q' r) : PC X Q' := fun r e => hq r (h r e)
theorem PC.and {X : Option ρ} {P Q : ρ → Prop} (h : PC X P) (g : PC X Q) : PC X (fun r => P r ∧ Q r) := fun r e => ⟨h r e, g r e⟩
theorem PC.guard {c : Prop} [Decidable c] {A : Option ρ} {Q : ρ → Prop} (h : c → PC A Q) : PC (if c then A else none) Q := by
  by_cases hc : c
  · rw [if_pos hc]; exact h hc
  · rw [if_neg hc]; exact fun r e => by cases e
theorem PC.ite {c : Prop} [Decidable c] {A B : Option ρ} {Q : ρ → Prop} (h1 : c → PC A Q) (h2 : ¬ c → PC B Q) : PC (if c then A else B) Q := by
  by_cases hc : c
  · rw [if_pos hc]; exact h1 hc
  · rw [if_neg hc]; exact h2 hc
theorem PC.pos {c : Prop} [Decidable c] {A B : Option ρ} {Q : ρ → Prop} (hc : c) (h : PC A Q) : PC (if c then A else B) Q := by
  rw [if_pos hc]; exact h
theorem PC.neg {c : Prop} [Decidable c] {A B : Option ρ} {Q : ρ → Prop} (hc : ¬ c) (h : PC B Q) : PC (if c then A else B) Q := by
  rw [if_neg hc]; exact h
theorem PC.bind {X : Option α} {f : α → Option β} {P : α → Prop} {Q : β → Prop} (h : PC X P) (hf : ∀ r, P r → PC (f r) Q) : PC (X.bind f) Q := by
  intro q e
  cases X with
  | none => cases e
  | some r => exact hf r (h r rfl) q e
theorem PC.bindE {X : Option α} {f : α → Option β} {r : α} {Q : β → Prop} (e : X = some r) (hf : PC (f r) Q) : PC (X.bind f) Q := by
  rw [e]; exact hf
theorem PC.bindT {X : Option α} {f : α → Option β} {Q : β → Prop} (hf : ∀ r, PC (f r) Q) : PC (X.bind f) Q := by
  intro q e
  cases X with
  | none => cases e
  | some r => exact hf r q e
theorem PC.sM {M : Mem} {f : Mem → Option ρ} {Q : ρ → Prop} (h : PC (f M) Q) : PC (bM M f) Q := h
theorem PC.jI {k : τ → Option ρ} {body : (τ → Option ρ) → Option ρ} {Q : ρ → Prop} (h : PC (body k) Q) : PC (jn k body) Q := h
theorem PC.join {k : τ → Option ρ} {body : (τ → Option ρ) → Option ρ} {Q : ρ → Prop} (P : τ → Prop) (hk : ∀ t, P t → PC (k t) Q) (h : ∀ j : τ → Option ρ, (∀ t, P t → PC (j t) Q) → PC (body j) Q) : PC (jn k body) Q := h k hk
theorem PC.iter {b : (σ → Option ρ) → σ → Option ρ} {Q : ρ → Prop} (I : σ → Prop)
    (hb : ∀ rec s, I s → (∀ s', I s' → PC (rec s') Q) → PC (b rec s) Q) : ∀ n s, I s → PC (iterC b n s) Q
  | 0, s, _ => fun r e => by cases e
  | n + 1, s, hI => hb (iterC b n) s hI (fun s' hI' => PC.iter I hb n s' hI')
theorem TT.pc {X : Option ρ} {P Q : ρ → Prop} (h : TT X P) (g : PC X Q) : TT X (fun r => P r ∧ Q r) := by
  obtain ⟨r, e, h⟩ := h
  exact ⟨r, e, h, g r e⟩
/-- both answer as a spec has it -/
theorem TT.both {X : Option Int} {Y : Option (Int × Mem)} {P : Int → Prop} {Q : Int × Mem → Prop} (v : Int) (hx : TT X P) (hy : TT Y Q) (x : PC X (fun r => r = v)) (y : PC Y (fun u => u.1 = v)) : TT X (fun r => TT Y (fun u => r = u.1 ∧ Q u)) := by
  obtain ⟨r, e, _⟩ := hx
  obtain ⟨u, e', q⟩ := hy
  exact ⟨r, e, u, e', (x r e).trans (y u e').symm, q⟩
end PCs
theorem bd1 {α β : Type} (a : α) (f : α → Option β) : (some a).bind f = f a := rfl
section Views
variable {M N : Mem} {D : Int → Int}
theorem m85 : Keep M (mst M 85 0 0) := Keep.self.st rfl
theorem keep_lo (k : Keep M N) {x : Int} (y : Int) (h : x < 47 ∨ (86 ≤ x ∧ x ≤ 94)) : N.1 x y = M.1 x y := k.2 x y (scr_lo y (by omega) (by omega) (by omega))
theorem townAt_V (hT : WT M) (k : Int) : fX6_townAt M 1 k = some (if 0 ≤ k ∧ k < M.1 3 0 then 8 + 19 * k else -1) := by
  have hc := cn_ hT (i := 0) (by decide) (by decide)
  unfold fX6_townAt
  rw [if_pos (wk1 hT), isThere_V hT k (by decide) (by decide), wp1_5 hT]
  by_cases c : 0 ≤ k ∧ k < M.1 3 0
  · rw [if_pos c, if_pos c]
    rw [bd1, if_neg (by decide), if_pos ⟨by rw [wk4 hT]; decide, c.1, by rw [wl4 hT]; omega⟩]
    rcases (show k = 0 ∨ k = 1 by omega) with e | e <;> subst e
    · rw [wp4_0 hT]; rfl
    · rw [wp4_1 hT]; rfl
  · rw [if_neg c, if_neg c]; rfl
theorem lawAt_V (hT : WT M) (k : Int) : fX6_lawAt M 1 k = some (if 0 ≤ k ∧ k < M.1 3 1 then 17 + 19 * k else -1) := by
  have hc := cn_ hT (i := 1) (by decide) (by decide)
  unfold fX6_lawAt
  rw [if_pos (wk1 hT), isThere_V hT k (by decide) (by decide), wp1_6 hT]
  by_cases c : 0 ≤ k ∧ k < M.1 3 1
  · rw [if_pos c, if_pos c]
    rw [bd1, if_neg (by decide), if_pos ⟨by rw [wk5 hT]; decide, c.1, by rw [wl5 hT]; omega⟩]
    rcases (show k = 0 ∨ k = 1 by omega) with e | e <;> subst e
    · rw [wp5_0 hT]; rfl
    · rw [wp5_1 hT]; rfl
  · rw [if_neg c, if_neg c]; rfl
theorem nightsAt_V (hT : WT M) (k : Int) : fX6_nightsAt M 1 k = some (if 0 ≤ k ∧ k < M.1 3 2 then 18 + 19 * k else -1) := by
  have hc := cn_ hT (i := 2) (by decide) (by decide)
  unfold fX6_nightsAt
  rw [if_pos (wk1 hT), isThere_V hT k (by decide) (by decide), wp1_7 hT]
  by_cases c : 0 ≤ k ∧ k < M.1 3 2
  · rw [if_pos c, if_pos c]
    rw [bd1, if_neg (by decide), if_pos ⟨by rw [wk6 hT]; decide, c.1, by rw [wl6 hT]; omega⟩]
    rcases (show k = 0 ∨ k = 1 by omega) with e | e <;> subst e
    · rw [wp6_0 hT]; rfl
    · rw [wp6_1 hT]; rfl
  · rw [if_neg c, if_neg c]; rfl
theorem sightAt_V (hT : WT M) (k : Int) : fX6_sightAt M 1 k = some (if 0 ≤ k ∧ k < M.1 3 3 then 23 + 19 * k else -1) := by
  have hc := cn_ hT (i := 3) (by decide) (by decide)
  unfold fX6_sightAt
  rw [if_pos (wk1 hT), isThere_V hT k (by decide) (by decide), wp1_8 hT]
  by_cases c : 0 ≤ k ∧ k < M.1 3 3
  · rw [if_pos c, if_pos c]
    rw [bd1, if_neg (by decide), if_pos ⟨by rw [wk7 hT]; decide, c.1, by rw [wl7 hT]; omega⟩]
    rcases (show k = 0 ∨ k = 1 by omega) with e | e <;> subst e
    · rw [wp7_0 hT]; rfl
    · rw [wp7_1 hT]; rfl
  · rw [if_neg c, if_neg c]; rfl
/-- a class's town that is told as D -/
def TD (M : Mem) (a : Int) (D : Int → Int) : Prop := WT M ∧ TA a ∧ (M.1 a 0 = D 0 ∧ M.1 a 1 = D 1) ∧ (∀ y, 0 ≤ y → y < 30 → M.1 (a + 1) y = D (2 + y) ∧ M.1 (a + 2) y = D (32 + y)) ∧ (∀ y, 0 ≤ y → y < 6 → M.1 (a + 3) y = D (62 + y) ∧ M.1 (a + 4) y = D (68 + y)) ∧ (∀ y, 0 ≤ y → y < 5 → M.1 (a + 5) y = D (74 + y) ∧ M.1 (a + 6) y = D (79 + y)) ∧ (∀ y, 0 ≤ y → y < 4 → M.1 (a + 7) y = D (84 + y) ∧ M.1 (a + 8) y = D (88 + y))
/-- a town's row keeps within its ranges -/
def DBd (D : Int → Int) : Prop := (1 ≤ D 0 ∧ D 0 ≤ 6) ∧ (0 ≤ D 1 ∧ D 1 ≤ 4) ∧ (∀ y, 0 ≤ y → y < 30 → (0 ≤ D (2 + y) ∧ D (2 + y) ≤ 9) ∧ (0 ≤ D (32 + y) ∧ D (32 + y) ≤ 9)) ∧ (∀ y, 0 ≤ y → y < 6 → (0 ≤ D (62 + y) ∧ D (62 + y) ≤ 9) ∧ (0 ≤ D (68 + y) ∧ D (68 + y) ≤ 5)) ∧ (∀ y, 0 ≤ y → y < 5 → (1 ≤ D (74 + y) ∧ D (74 + y) ≤ 9) ∧ (0 ≤ D (79 + y) ∧ D (79 + y) ≤ 9)) ∧ (∀ y, 0 ≤ y → y < 4 → (0 ≤ D (84 + y) ∧ D (84 + y) ≤ 9) ∧ (-1 ≤ D (88 + y) ∧ D (88 + y) ≤ 3))
theorem TD.bd {a : Int} (h : TD M a D) : DBd D := by
  obtain ⟨hT, ha, ⟨h0, h1⟩, h2, h3, h4, h5⟩ := h
  refine ⟨by rw [← h0]; exact td0_ hT ha, by rw [← h1]; exact td1_ hT ha, fun y p q => ?_, fun y p q => ?_, fun y p q => ?_, fun y p q => ?_⟩
  · rw [← (h2 y p q).1, ← (h2 y p q).2]; exact ⟨td2_ hT ha p q, td3_ hT ha p q⟩
  · rw [← (h3 y p q).1, ← (h3 y p q).2]; exact ⟨td4_ hT ha p q, td5_ hT ha p q⟩
  · rw [← (h4 y p q).1, ← (h4 y p q).2]; exact ⟨td6_ hT ha p q, td7_ hT ha p q⟩
  · rw [← (h5 y p q).1, ← (h5 y p q).2]; exact ⟨td8_ hT ha p q, td9_ hT ha p q⟩
theorem TD.keep {a : Int} (h : TD M a D) (k : Keep M N) : TD N a D := by
  obtain ⟨hT, ha, h1, h2, h3, h4, h5⟩ := h
  have e : ∀ x y, x < 47 → N.1 x y = M.1 x y := fun x y z => keep_lo k y (Or.inl z)
  have a47 : a + 8 < 47 := by rcases ha with e | e <;> omega
  refine ⟨hT.keep k, ha, by rw [e a _ (by omega), e a _ (by omega)]; exact h1, fun y p q => ?_, fun y p q => ?_, fun y p q => ?_, fun y p q => ?_⟩
  · rw [e _ y (by omega), e _ y (by omega)]; exact h2 y p q
  · rw [e _ y (by omega), e _ y (by omega)]; exact h3 y p q
  · rw [e _ y (by omega), e _ y (by omega)]; exact h4 y p q
  · rw [e _ y (by omega), e _ y (by omega)]; exact h5 y p q
/-- the reference holds town k, which is told as D -/
def RD (N : Mem) (k : Int) (D : Int → Int) : Prop := WT N ∧ (k = 0 ∨ k = 1) ∧ (N.1 85 24 = k ∧ N.1 85 25 = D 0 ∧ N.1 85 26 = D 1) ∧ ∀ y, 0 ≤ y → y < 92 → N.1 91 (92 * k + y) = D y
theorem RD.of {k i : Int} (h : RD N k D) (h0 : 0 ≤ i) (h1 : i ≤ 91) : fX11_of N 85 i = some (D i) := by
  obtain ⟨hT, hk, ⟨e, _⟩, hD⟩ := h
  obtain ⟨r, e1, e2⟩ := ofC_T hT hk e h0 h1
  rw [e1, e2, hD i h0 (by omega)]
theorem cnt90 {s : Int} (h : INV2 M) (s0 : 0 ≤ s) (s4 : s < 4) : M.1 90 s = M.1 3 s := by
  have := (h.2.1.2.2.1 s s0 s4).1
  rw [show 4 * 0 + s = s by omega] at this; exact this.symm
theorem townV_D (h : INV2 M) {k : Int} (k0 : 0 ≤ k) (k1 : k < M.1 3 0) : TD M (8 + 19 * k) (fun y => M.1 91 (92 * k + y)) := by
  have hc := cn_ h.1.1 (i := 0) (by decide) (by decide)
  have g := (h.2.1.2.2.2 0 k (by decide) (by decide) k0 k1).1 rfl
  rw [show 1 + ob 0 + 19 * k = 8 + 19 * k from by show 1 + 7 + 19 * k = _; omega, show (fun y => M.1 (91 + 0) (wd 0 * (2 * 0 + k) + y)) = (fun y => M.1 91 (92 * k + y)) from funext fun y => by show M.1 91 (92 * (2 * 0 + k) + y) = _; rw [show 2 * 0 + k = k by omega]] at g
  exact ⟨h.1.1, (show k = 0 ∨ k = 1 by omega).elim (fun e => Or.inl (by rw [e]; rfl)) (fun e => Or.inr (by rw [e]; rfl)), g⟩
theorem lawV_D (h : INV2 M) {k : Int} (k0 : 0 ≤ k) (k1 : k < M.1 3 1) : M.1 (17 + 19 * k) 0 = M.1 92 (3 * k) ∧ M.1 (17 + 19 * k) 1 = M.1 92 (3 * k + 1) ∧ M.1 (17 + 19 * k) 2 = M.1 92 (3 * k + 2) := by
  have g := (h.2.1.2.2.2 1 k (by decide) (by decide) k0 k1).2.1 rfl
  rw [show 1 + ob 1 + 19 * k = 17 + 19 * k from by show 1 + 16 + 19 * k = _; omega, show (fun y => M.1 (91 + 1) (wd 1 * (2 * 0 + k) + y)) = (fun y => M.1 92 (3 * k + y)) from funext fun y => by show M.1 92 (3 * (2 * 0 + k) + y) = _; rw [show 2 * 0 + k = k by omega]] at g
  have g' : M.1 (17 + 19 * k) 0 = M.1 92 (3 * k + 0) ∧ M.1 (17 + 19 * k) 1 = M.1 92 (3 * k + 1) ∧ M.1 (17 + 19 * k) 2 = M.1 92 (3 * k + 2) := g
  rw [Int.add_zero] at g'; exact g'
theorem nightsV_D (h : INV2 M) {k : Int} (k0 : 0 ≤ k) (k1 : k < M.1 3 2) : (M.1 (18 + 19 * k) 0 = M.1 93 (161 * k) ∧ M.1 93 (161 * k) ≤ 40) ∧ ∀ y, 0 ≤ y → y < M.1 93 (161 * k) → M.1 (18 + 19 * k + 1) y = M.1 93 (161 * k + (1 + 4 * y)) ∧ M.1 (18 + 19 * k + 2) y = M.1 93 (161 * k + (2 + 4 * y)) ∧ M.1 (18 + 19 * k + 3) y = M.1 93 (161 * k + (3 + 4 * y)) ∧ M.1 (18 + 19 * k + 4) y = M.1 93 (161 * k + (4 + 4 * y)) := by
  have g := (h.2.1.2.2.2 2 k (by decide) (by decide) k0 k1).2.2.1 rfl
  rw [show 1 + ob 2 + 19 * k = 18 + 19 * k from by show 1 + 17 + 19 * k = _; omega, show (fun y => M.1 (91 + 2) (wd 2 * (2 * 0 + k) + y)) = (fun y => M.1 93 (161 * k + y)) from funext fun y => by show M.1 93 (161 * (2 * 0 + k) + y) = _; rw [show 2 * 0 + k = k by omega]] at g
  have e : M.1 93 (161 * k + 0) = M.1 93 (161 * k) := by rw [Int.add_zero]
  simp only [e] at g
  exact g
theorem sightV_D (h : INV2 M) {k : Int} (k0 : 0 ≤ k) (k1 : k < M.1 3 3) : (M.1 (23 + 19 * k) 0 = M.1 94 (47 * k) ∧ M.1 94 (47 * k) ≤ 8) ∧ (∀ y, 0 ≤ y → y < M.1 94 (47 * k) → M.1 (23 + 19 * k + 1) y = M.1 94 (47 * k + (1 + 2 * y)) ∧ M.1 (23 + 19 * k + 2) y = M.1 94 (47 * k + (2 + 2 * y))) ∧ ∀ y, 0 ≤ y → y < 30 → M.1 (23 + 19 * k + 3) y = M.1 94 (47 * k + (17 + y)) := by
  have g := (h.2.1.2.2.2 3 k (by decide) (by decide) k0 k1).2.2.2 rfl
  rw [show 1 + ob 3 + 19 * k = 23 + 19 * k from by show 1 + 22 + 19 * k = _; omega, show (fun y => M.1 (91 + 3) (wd 3 * (2 * 0 + k) + y)) = (fun y => M.1 94 (47 * k + y)) from funext fun y => by show M.1 94 (47 * (2 * 0 + k) + y) = _; rw [show 2 * 0 + k = k by omega]] at g
  have e : M.1 94 (47 * k + 0) = M.1 94 (47 * k) := by rw [Int.add_zero]
  simp only [e] at g
  exact g
/-- hand, exact -/
theorem hand_V (hT : WT M) (k : Int) : TT (fX11_hand M 85 k) (fun r => ((0 ≤ k ∧ k < M.1 90 0) ∧ r.1 = 1 ∧ Keep M r.2 ∧ RD r.2 k (fun y => M.1 91 (92 * k + y)) ∧ ∀ y, (y < 24 ∨ 27 ≤ y) → r.2.1 85 y = M.1 85 y) ∨ (¬(0 ≤ k ∧ k < M.1 90 0) ∧ r = (0, M))) := by
  have hc := mn_ hT (i := 0) (by decide) (by decide)
  unfold fX11_hand
  refine TT.guard (wk85 hT) (TT.bindE (is_V hT k (by decide) (by decide)) ?_)
  by_cases c : 0 ≤ k ∧ k < M.1 90 0
  rotate_left
  · rw [if_neg c]; exact TT.pos rfl (TT.ok (Or.inr ⟨c, rfl⟩))
  rw [if_pos c]
  refine TT.neg (by decide) (TT.sM ?_)
  have ht : k = 0 ∨ k = 1 := by omega
  have hK5 : Keep M (mst M 85 24 k) := Keep.self.st rfl
  have hT5 := hT.keep hK5
  refine TT.bind (ofC_T hT5 ht (mst_at _ _ _ _) (by decide) (by decide)) (fun r7 e7 => TT.sM ?_)
  have hK9 : Keep M (mst (mst M 85 24 k) 85 25 r7) := hK5.st rfl
  have hT9 := hT.keep hK9
  refine TT.bind (ofC_T (t := k) hT9 ht (by rw [mst_nf _ _ _ _ _ _ (by decide), mst_at]) (by decide) (by decide)) (fun r11 e11 => TT.sM (TT.ok (Or.inl ⟨c, rfl, hK9.st rfl, ⟨hT.keep (hK9.st rfl), ht, ⟨?_, ?_, ?_⟩, fun y p q => ?_⟩, fun y hy => ?_⟩)))
  · show (mst _ 85 26 r11).1 85 24 = k
    rw [mst_nf _ _ _ _ _ _ (by decide), mst_nf _ _ _ _ _ _ (by decide), mst_at]
  · show (mst _ 85 26 r11).1 85 25 = M.1 91 (92 * k + 0)
    rw [mst_nf _ _ _ _ _ _ (by decide), mst_at, e7, mst_ne _ _ _ _ _ _ (by decide)]
  · show (mst _ 85 26 r11).1 85 26 = M.1 91 (92 * k + 1)
    rw [mst_at, e11, mst_ne _ _ _ _ _ _ (by decide), mst_ne _ _ _ _ _ _ (by decide)]
  · show (mst _ 85 26 r11).1 91 (92 * k + y) = M.1 91 (92 * k + y)
    rw [mst_ne _ _ _ _ _ _ (by decide), mst_ne _ _ _ _ _ _ (by decide), mst_ne _ _ _ _ _ _ (by decide)]
  · show (mst _ 85 26 r11).1 85 y = M.1 85 y
    rw [mst_nf _ _ _ _ _ _ (by omega), mst_nf _ _ _ _ _ _ (by omega), mst_nf _ _ _ _ _ _ (by omega)]
end Views
