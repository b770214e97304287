/-! the tape: four bytes of a number -/
theorem w32_of {x : Int} (h1 : -2147483648 ≤ x) (h2 : x < 2147483648) : w32 x = x := w32_id ⟨h1, h2⟩
theorem put_T {M : Mem} {a t n : Int} (v : Int) (ka : M.2.1 a = 6) (pa : M.1 a 0 = t) (kt : M.2.1 t = 11) (lt : M.2.2.1 t = 600) (hat : t ≠ a) (hn : M.1 a 1 = n) (h0 : 0 ≤ n) (h1 : n ≤ 596) :
    TT (fX6_put M a v) (fun r => r.2 = M.2 ∧ r.1 a 1 = n + 4 ∧ (∀ x y, x ≠ t → ¬(x = a ∧ y = 1) → r.1 x y = M.1 x y) ∧ ∀ y, r.1 t y = if n ≤ y ∧ y < n + 4 then w8 (bUshr v (24 - 8 * (y - n))) else M.1 t y) := by
  unfold fX6_put
  refine TT.iter (fun s : Int × Mem => ∃ j : Int, 0 ≤ j ∧ j ≤ 4 ∧ s.1 = 24 - 8 * j ∧ s.2.2 = M.2 ∧ s.2.1 a 1 = n + j ∧ (∀ x y, x ≠ t → ¬(x = a ∧ y = 1) → s.2.1 x y = M.1 x y) ∧ ∀ y, s.2.1 t y = if n ≤ y ∧ y < n + j then w8 (bUshr v (24 - 8 * (y - n))) else M.1 t y) (fun s => (s.1 + 8).toNat) ?_ BIG (24, M) ⟨0, by omega, by omega, rfl, rfl, by rw [hn]; omega, fun x y _ _ => rfl, fun y => by rw [if_neg (by omega)]⟩ (by unfold BIG; dsimp only; omega)
  rintro rec ⟨i, N⟩ ⟨j, hj0, hj4, hi, hN, hl, hfr, htp⟩ hrec
  simp only at hi hN hl hfr htp ⊢
  have kN : N.2.1 = M.2.1 := by rw [hN]
  have lN : N.2.2.1 = M.2.2.1 := by rw [hN]
  have p0 : N.1 a 0 = t := by rw [hfr a 0 (fun q => hat q.symm) (fun q => absurd q.2 (by decide)), pa]
  refine TT.ite (fun hc => TT.ok ⟨hN, by rw [hl]; omega, hfr, fun y => by rw [htp y, show j = 4 by omega]⟩) (fun hc => ?_)
  refine TT.guard (by rw [kN]; exact ka) (TT.pos (by rw [hl]; omega) (TT.guard (by rw [p0, kN, lN, hl, kt, lt]; exact ⟨rfl, by omega, by omega⟩) (TT.sM (TT.sM ?_))))
  rw [p0, hl]
  refine hrec _ ⟨j + 1, by omega, by omega, ?_, ?_, ?_, ?_, ?_⟩ ?_
  · show w32 (i + -8) = _
    rw [w32_of (by omega) (by omega)]; omega
  · exact hN
  · show (mst _ a 1 _).1 a 1 = _
    rw [mst_at, mst_ne _ _ _ _ _ _ (fun q => hat q.symm), hl, w32_of (by omega) (by omega)]; omega
  · intro x y hx hy
    show (mst _ a 1 _).1 x y = _
    rw [mst_r, if_neg hy, mst_ne _ _ _ _ _ _ hx, hfr x y hx hy]
  · intro y
    show (mst _ a 1 _).1 t y = _
    rw [mst_ne _ _ _ _ _ _ hat, mst_r]
    by_cases hy : y = n + j
    · subst hy
      rw [if_pos ⟨rfl, rfl⟩, if_pos (by omega), hi]
      congr 2; omega
    · rw [if_neg (fun q => hy q.2), htp y]
      by_cases hq : n ≤ y ∧ y < n + j
      · rw [if_pos hq, if_pos (by omega)]
      · rw [if_neg hq, if_neg (by omega)]
  · show (w32 (i + -8) + 8).toNat < (i + 8).toNat
    rw [w32_of (by omega) (by omega)]; omega
theorem four_T {M : Mem} {m t z n : Int} (v : Int) (km : M.2.1 m = 10) (pt : M.1 m 1 = t) (pz : M.1 m 2 = z) (kt : M.2.1 t = 11) (lt : M.2.2.1 t = 2400) (kz : M.2.1 z = 12) (lz : M.2.2.1 z = 4) (htm : t ≠ m) (hzm : z ≠ m) (htz : t ≠ z) (hn : M.1 z 0 = n) (h0 : 0 ≤ n) (h1 : n ≤ 596) :
    TT (fX11_four M m v) (fun r => r.2 = M.2 ∧ r.1 z 0 = n + 4 ∧ (∀ x y, x ≠ t → ¬(x = z ∧ y = 0) → r.1 x y = M.1 x y) ∧ ∀ y, r.1 t y = if n ≤ y ∧ y < n + 4 then w8 (bShr v (24 - 8 * (y - n))) else M.1 t y) := by
  unfold fX11_four
  refine TT.iter (fun s : Int × Mem => ∃ j : Int, 0 ≤ j ∧ j ≤ 4 ∧ s.1 = 24 - 8 * j ∧ s.2.2 = M.2 ∧ s.2.1 z 0 = n + j ∧ (∀ x y, x ≠ t → ¬(x = z ∧ y = 0) → s.2.1 x y = M.1 x y) ∧ ∀ y, s.2.1 t y = if n ≤ y ∧ y < n + j then w8 (bShr v (24 - 8 * (y - n))) else M.1 t y) (fun s => (s.1 + 8).toNat) ?_ BIG (24, M) ⟨0, by omega, by omega, rfl, rfl, by rw [hn]; omega, fun x y _ _ => rfl, fun y => by rw [if_neg (by omega)]⟩ (by unfold BIG; dsimp only; omega)
  rintro rec ⟨i, N⟩ ⟨j, hj0, hj4, hi, hN, hl, hfr, htp⟩ hrec
  simp only at hi hN hl hfr htp ⊢
  have kN : N.2.1 = M.2.1 := by rw [hN]
  have lN : N.2.2.1 = M.2.2.1 := by rw [hN]
  have p1 : N.1 m 1 = t := by rw [hfr m 1 (fun q => htm q.symm) (fun q => hzm q.1.symm), pt]
  have p2 : N.1 m 2 = z := by rw [hfr m 2 (fun q => htm q.symm) (fun q => hzm q.1.symm), pz]
  refine TT.ite (fun hc => TT.ok ⟨hN, by rw [hl]; omega, hfr, fun y => by rw [htp y, show j = 4 by omega]⟩) (fun hc => ?_)
  have q2 : ∀ i v, (mst N t i v).1 m 2 = z := fun i v => by rw [mst_ne _ _ _ _ _ _ (fun q => htm q.symm), p2]
  have gz : N.2.1 z = 12 ∧ (0 : Int) ≤ 0 ∧ 0 < N.2.2.1 z := by rw [kN, lN, kz, lz]; decide
  refine TT.guard (by rw [kN]; exact km) (TT.guard (by rw [p2]; exact gz) (TT.guard (by rw [p1, p2, kN, lN, hl, kt, lt]; exact ⟨rfl, by omega, by omega⟩) (TT.sM ?_)))
  rw [p1, p2, hl]
  refine TT.guard (by rw [q2]; exact gz) (TT.guard (by rw [q2]; exact gz) (TT.sM ?_))
  rw [q2]
  refine hrec _ ⟨j + 1, by omega, by omega, ?_, ?_, ?_, ?_, ?_⟩ ?_
  · show w32 (i + -8) = _
    rw [w32_of (by omega) (by omega)]; omega
  · exact hN
  · show (mst _ z 0 _).1 z 0 = _
    rw [mst_at, mst_ne _ _ _ _ _ _ (fun q => htz q.symm), hl, w32_of (by omega) (by omega)]; omega
  · intro x y hx hy
    show (mst _ z 0 _).1 x y = _
    rw [mst_r, if_neg hy, mst_ne _ _ _ _ _ _ hx, hfr x y hx hy]
  · intro y
    show (mst _ z 0 _).1 t y = _
    rw [mst_ne _ _ _ _ _ _ htz, mst_r]
    by_cases hy : y = n + j
    · subst hy
      rw [if_pos ⟨rfl, rfl⟩, if_pos (by omega), hi]
      congr 2; omega
    · rw [if_neg (fun q => hy q.2), htp y]
      by_cases hq : n ≤ y ∧ y < n + j
      · rw [if_pos hq, if_pos (by omega)]
      · rw [if_neg hq, if_neg (by omega)]
  · show (w32 (i + -8) + 8).toNat < (i + 8).toNat
    rw [w32_of (by omega) (by omega)]; omega
/-! rows of the reference copied within an array -/
theorem copyRow_T {M : Mem} {a n f t : Int} (ka : M.2.1 a = 12) (hn : 0 ≤ n) (hf : 0 ≤ f) (ht : 0 ≤ t) (hf3 : f ≤ 3) (ht3 : t ≤ 3) (hft : f ≠ t) (hn2 : n ≤ 1000) (h1 : 4 * n ≤ M.2.2.1 a) :
    TT (fX11_copyRow M a n f t) (fun r => r.2 = M.2 ∧ (∀ x y, x ≠ a → r.1 x y = M.1 x y) ∧ ∀ y, r.1 a y = if n * t ≤ y ∧ y < n * t + n then M.1 a (y - n * t + n * f) else M.1 a y) := by
  unfold fX11_copyRow
  have bf : 0 ≤ n * f ∧ n * f ≤ 3 * n := by
    refine ⟨Int.mul_nonneg hn hf, ?_⟩
    have := Int.mul_le_mul_of_nonneg_left hf3 hn
    omega
  have bt : 0 ≤ n * t ∧ n * t ≤ 3 * n := by
    refine ⟨Int.mul_nonneg hn ht, ?_⟩
    have := Int.mul_le_mul_of_nonneg_left ht3 hn
    omega
  have ap : n * f + n ≤ n * t ∨ n * t + n ≤ n * f := by
    rcases Int.lt_or_gt_of_ne hft with h | h
    · left
      have := Int.mul_le_mul_of_nonneg_left (show f + 1 ≤ t by omega) hn
      rw [Int.mul_add] at this; omega
    · right
      have := Int.mul_le_mul_of_nonneg_left (show t + 1 ≤ f by omega) hn
      rw [Int.mul_add] at this; omega
  generalize hF : n * f = F at *
  generalize hT : n * t = T at *
  rw [w32_of (x := F) (by omega) (by omega), w32_of (x := T) (by omega) (by omega)]
  refine TT.iter (fun s : Int × Mem => 0 ≤ s.1 ∧ s.1 ≤ n ∧ s.2.2 = M.2 ∧ (∀ x y, x ≠ a → s.2.1 x y = M.1 x y) ∧ ∀ y, s.2.1 a y = if T ≤ y ∧ y < T + s.1 then M.1 a (y - T + F) else M.1 a y) (fun s => (n - s.1).toNat) ?_ BIG (0, M) ⟨Int.le_refl _, hn, rfl, fun x y _ => rfl, fun y => by rw [if_neg (by omega)]⟩ (by unfold BIG; dsimp only; omega)
  rintro rec ⟨i, N⟩ ⟨hi0, hin, hN, hfr, htp⟩ hrec
  simp only at hi0 hin hN hfr htp ⊢
  have kN : N.2.1 = M.2.1 := by rw [hN]
  have lN : N.2.2.1 = M.2.2.1 := by rw [hN]
  refine TT.ite (fun hc => ?_) (fun hc => TT.ok ⟨hN, hfr, fun y => by rw [htp y, show i = n by omega]⟩)
  rw [w32_of (x := F + i) (by omega) (by omega), w32_of (x := T + i) (by omega) (by omega)]
  refine TT.guard ⟨by rw [kN]; exact ka, by omega, by rw [lN]; omega⟩ (TT.guard ⟨by rw [kN]; exact ka, by omega, by rw [lN]; omega⟩ (TT.sM ?_))
  refine hrec _ ⟨?_, ?_, hN, fun x y hx => ?_, fun y => ?_⟩ ?_
  · show 0 ≤ w32 (i + 1)
    rw [w32_of (by omega) (by omega)]; omega
  · show w32 (i + 1) ≤ n
    rw [w32_of (by omega) (by omega)]; omega
  · show (mst _ a _ _).1 x y = _
    rw [mst_ne _ _ _ _ _ _ hx, hfr x y hx]
  · show (mst _ a _ _).1 a y = if T ≤ y ∧ y < T + w32 (i + 1) then _ else _
    rw [mst_r, w32_of (x := i + 1) (by omega) (by omega)]
    by_cases hy : y = T + i
    · subst hy
      rw [if_pos ⟨rfl, rfl⟩, if_pos (by omega), htp, if_neg (by omega), show T + i - T + F = F + i by omega]
    · rw [if_neg (fun q => hy q.2), htp y]
      by_cases hq : T ≤ y ∧ y < T + i
      · rw [if_pos hq, if_pos (by omega)]
      · rw [if_neg hq, if_neg (by omega)]
  · show (n - w32 (i + 1)).toNat < (n - i).toNat
    rw [w32_of (by omega) (by omega)]; omega
