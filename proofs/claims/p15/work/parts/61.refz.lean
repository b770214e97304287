/-! the reference: sight, moved, hands, wealth -/
section RefZ
variable {M N : Mem}
def RSg (M : Mem) : Prop := M.1 85 48 = 0 ∨ M.1 85 48 = 1
theorem RSg.rk (h : RSg M) (k : RK M N) : RSg N := by unfold RSg at *; rw [k.2 48 (Or.inr rfl)]; exact h
theorem gf_ (h : WT M) {s : Int} (hs : s = 0 ∨ s = 1) : 0 ≤ M.1 94 (47 * s) ∧ M.1 94 (47 * s) ≤ 8 := by
  rcases hs with rfl | rfl
  · exact rows_at (p := (94, 0, 0, 0, 8)) h.2.1 48 rfl (i := 47 * 0) (by decide) (by decide)
  · exact rows_at (p := (94, 47, 47, 0, 8)) h.2.1 75 rfl (i := 47 * 1) (by decide) (by decide)
theorem gf1_ (h : WT M) {s k : Int} (hs : s = 0 ∨ s = 1) (k0 : 0 ≤ k) (k8 : k < 8) : 0 ≤ M.1 94 (47 * s + 1 + 2 * k) ∧ M.1 94 (47 * s + 1 + 2 * k) ≤ 5 := by
  rcases (show k = 0 ∨ k = 1 ∨ k = 2 ∨ k = 3 ∨ k = 4 ∨ k = 5 ∨ k = 6 ∨ k = 7 by omega) with e | e | e | e | e | e | e | e <;> rcases hs with e2 | e2 <;> subst e <;> subst e2
  · exact rows_at (p := (94, 1, 1, 0, 5)) h.2.1 49 rfl (i := 47 * 0 + 1 + 2 * 0) (by decide) (by decide)
  · exact rows_at (p := (94, 48, 48, 0, 5)) h.2.1 76 rfl (i := 47 * 1 + 1 + 2 * 0) (by decide) (by decide)
  · exact rows_at (p := (94, 3, 3, 0, 5)) h.2.1 51 rfl (i := 47 * 0 + 1 + 2 * 1) (by decide) (by decide)
  · exact rows_at (p := (94, 50, 50, 0, 5)) h.2.1 78 rfl (i := 47 * 1 + 1 + 2 * 1) (by decide) (by decide)
  · exact rows_at (p := (94, 5, 5, 0, 5)) h.2.1 53 rfl (i := 47 * 0 + 1 + 2 * 2) (by decide) (by decide)
  · exact rows_at (p := (94, 52, 52, 0, 5)) h.2.1 80 rfl (i := 47 * 1 + 1 + 2 * 2) (by decide) (by decide)
  · exact rows_at (p := (94, 7, 7, 0, 5)) h.2.1 55 rfl (i := 47 * 0 + 1 + 2 * 3) (by decide) (by decide)
  · exact rows_at (p := (94, 54, 54, 0, 5)) h.2.1 82 rfl (i := 47 * 1 + 1 + 2 * 3) (by decide) (by decide)
  · exact rows_at (p := (94, 9, 9, 0, 5)) h.2.1 57 rfl (i := 47 * 0 + 1 + 2 * 4) (by decide) (by decide)
  · exact rows_at (p := (94, 56, 56, 0, 5)) h.2.1 84 rfl (i := 47 * 1 + 1 + 2 * 4) (by decide) (by decide)
  · exact rows_at (p := (94, 11, 11, 0, 5)) h.2.1 59 rfl (i := 47 * 0 + 1 + 2 * 5) (by decide) (by decide)
  · exact rows_at (p := (94, 58, 58, 0, 5)) h.2.1 86 rfl (i := 47 * 1 + 1 + 2 * 5) (by decide) (by decide)
  · exact rows_at (p := (94, 13, 13, 0, 5)) h.2.1 61 rfl (i := 47 * 0 + 1 + 2 * 6) (by decide) (by decide)
  · exact rows_at (p := (94, 60, 60, 0, 5)) h.2.1 88 rfl (i := 47 * 1 + 1 + 2 * 6) (by decide) (by decide)
  · exact rows_at (p := (94, 15, 15, 0, 5)) h.2.1 63 rfl (i := 47 * 0 + 1 + 2 * 7) (by decide) (by decide)
  · exact rows_at (p := (94, 62, 62, 0, 5)) h.2.1 90 rfl (i := 47 * 1 + 1 + 2 * 7) (by decide) (by decide)
theorem gf2_ (h : WT M) {s k : Int} (hs : s = 0 ∨ s = 1) (k0 : 0 ≤ k) (k8 : k < 8) : 0 ≤ M.1 94 (47 * s + 2 + 2 * k) ∧ M.1 94 (47 * s + 2 + 2 * k) ≤ 4 := by
  rcases (show k = 0 ∨ k = 1 ∨ k = 2 ∨ k = 3 ∨ k = 4 ∨ k = 5 ∨ k = 6 ∨ k = 7 by omega) with e | e | e | e | e | e | e | e <;> rcases hs with e2 | e2 <;> subst e <;> subst e2
  · exact rows_at (p := (94, 2, 2, 0, 4)) h.2.1 50 rfl (i := 47 * 0 + 2 + 2 * 0) (by decide) (by decide)
  · exact rows_at (p := (94, 49, 49, 0, 4)) h.2.1 77 rfl (i := 47 * 1 + 2 + 2 * 0) (by decide) (by decide)
  · exact rows_at (p := (94, 4, 4, 0, 4)) h.2.1 52 rfl (i := 47 * 0 + 2 + 2 * 1) (by decide) (by decide)
  · exact rows_at (p := (94, 51, 51, 0, 4)) h.2.1 79 rfl (i := 47 * 1 + 2 + 2 * 1) (by decide) (by decide)
  · exact rows_at (p := (94, 6, 6, 0, 4)) h.2.1 54 rfl (i := 47 * 0 + 2 + 2 * 2) (by decide) (by decide)
  · exact rows_at (p := (94, 53, 53, 0, 4)) h.2.1 81 rfl (i := 47 * 1 + 2 + 2 * 2) (by decide) (by decide)
  · exact rows_at (p := (94, 8, 8, 0, 4)) h.2.1 56 rfl (i := 47 * 0 + 2 + 2 * 3) (by decide) (by decide)
  · exact rows_at (p := (94, 55, 55, 0, 4)) h.2.1 83 rfl (i := 47 * 1 + 2 + 2 * 3) (by decide) (by decide)
  · exact rows_at (p := (94, 10, 10, 0, 4)) h.2.1 58 rfl (i := 47 * 0 + 2 + 2 * 4) (by decide) (by decide)
  · exact rows_at (p := (94, 57, 57, 0, 4)) h.2.1 85 rfl (i := 47 * 1 + 2 + 2 * 4) (by decide) (by decide)
  · exact rows_at (p := (94, 12, 12, 0, 4)) h.2.1 60 rfl (i := 47 * 0 + 2 + 2 * 5) (by decide) (by decide)
  · exact rows_at (p := (94, 59, 59, 0, 4)) h.2.1 87 rfl (i := 47 * 1 + 2 + 2 * 5) (by decide) (by decide)
  · exact rows_at (p := (94, 14, 14, 0, 4)) h.2.1 62 rfl (i := 47 * 0 + 2 + 2 * 6) (by decide) (by decide)
  · exact rows_at (p := (94, 61, 61, 0, 4)) h.2.1 89 rfl (i := 47 * 1 + 2 + 2 * 6) (by decide) (by decide)
  · exact rows_at (p := (94, 16, 16, 0, 4)) h.2.1 64 rfl (i := 47 * 0 + 2 + 2 * 7) (by decide) (by decide)
  · exact rows_at (p := (94, 63, 63, 0, 4)) h.2.1 91 rfl (i := 47 * 1 + 2 + 2 * 7) (by decide) (by decide)
theorem giftsR_T (hT : WT M) (hS : RSg M) : TT (fX11_gifts M 85) (fun r => r = M.1 94 (47 * M.1 85 48) ∧ 0 ≤ r ∧ r ≤ 8) := by
  unfold fX11_gifts
  have h : 0 ≤ M.1 85 48 ∧ M.1 85 48 ≤ 1 := by rcases hS with e | e <;> omega
  rw [wp85_9 hT, w32_of (x := 47 * M.1 85 48) (by omega) (by omega)]
  exact TT.guard (wk85 hT) (TT.guard ⟨wk94 hT, by omega, by rw [wl94 hT]; omega⟩ (TT.ok ⟨rfl, gf_ hT hS⟩))
theorem giftOfR_T (hT : WT M) (hS : RSg M) {k a : Int} (k0 : 0 ≤ k) (k8 : k < 8) (ha : a = 0 ∨ a = 1) : TT (fX11_giftOf M 85 k a) (fun r => 0 ≤ r ∧ (a = 0 → r ≤ 5) ∧ (a = 1 → r ≤ 4)) := by
  unfold fX11_giftOf
  have h : 0 ≤ M.1 85 48 ∧ M.1 85 48 ≤ 1 := by rcases hS with e | e <;> omega
  have a1 : 0 ≤ a ∧ a ≤ 1 := by omega
  rw [wp85_9 hT, w32_of (x := 47 * M.1 85 48) (by omega) (by omega), w32_of (x := 47 * M.1 85 48 + 1) (by omega) (by omega), w32_of (x := 2 * k) (by omega) (by omega), w32_of (x := 47 * M.1 85 48 + 1 + 2 * k) (by omega) (by omega), w32_of (x := 47 * M.1 85 48 + 1 + 2 * k + a) (by omega) (by omega)]
  refine TT.guard (wk85 hT) (TT.guard ⟨wk94 hT, by omega, by rw [wl94 hT]; omega⟩ (TT.ok ?_))
  rcases ha with e | e
  · subst e
    rw [Int.add_zero]
    have := gf1_ hT hS k0 k8
    exact ⟨this.1, fun _ => this.2, fun h => absurd h (by decide)⟩
  · subst e
    rw [show 47 * M.1 85 48 + 1 + 2 * k + 1 = 47 * M.1 85 48 + 2 + 2 * k by omega]
    have := gf2_ hT hS k0 k8
    exact ⟨this.1, fun h => absurd h (by decide), fun _ => this.2⟩
theorem leftR_T (hT : WT M) (hS : RSg M) {h g : Int} (h0 : 0 ≤ h) (h6 : h < 6) (g0 : 0 ≤ g) (g5 : g < 5) : TT (fX11_left M 85 h g) (fun r => True) := by
  unfold fX11_left
  have hs : 0 ≤ M.1 85 48 ∧ M.1 85 48 ≤ 1 := by rcases hS with e | e <;> omega
  rw [wp85_9 hT, w32_of (x := 47 * M.1 85 48) (by omega) (by omega), w32_of (x := 47 * M.1 85 48 + 17) (by omega) (by omega), w32_of (x := 5 * h) (by omega) (by omega), w32_of (x := 47 * M.1 85 48 + 17 + 5 * h) (by omega) (by omega), w32_of (x := 47 * M.1 85 48 + 17 + 5 * h + g) (by omega) (by omega)]
  exact TT.guard (wk85 hT) (TT.guard ⟨wk94 hT, by omega, by rw [wl94 hT]; omega⟩ (TT.ok trivial))
theorem sightY_T (hT : WT M) (s x : Int) : TT (fX11_sight M 85 s x) (fun r => Keep M r.2) := by
  unfold fX11_sight
  refine TT.guard (wk85 hT) (TT.sM ?_)
  have hK2 : Keep M (mst M 85 0 0) := Keep.self.st rfl
  generalize mst M 85 0 0 = M2 at *
  have hT2 := hT.keep hK2
  refine TT.bind (hasSight_T hT2 s) (fun r4 q4 => ?_)
  have hK := hK2.trans q4.2.1.1
  have hTr := hT.keep hK
  refine TT.ite (fun _ => TT.ok hK) (fun c => ?_)
  have hS : RSg r4.2 := q4.2.2 c
  refine TT.guard (wk85 hTr) (TT.bind (giftsR_T hTr hS) (fun r7 q7 => ?_))
  rw [w32_of (x := 9 + r7) (by omega) (by omega)]
  refine TT.bind (in_T _ _ _) (fun r10 q10 => TT.ite (fun _ => TT.bind (giftsR_T hTr hS) (fun r13 q13 => ?_)) (fun c10 => ?_))
  · rw [w32_of (x := 19 + r13) (by omega) (by omega)]
    refine TT.bind (in_T _ _ _) (fun r15 q15 => TT.ite (fun _ => TT.ite (fun _ => TT.bind (giftsR_T hTr hS) (fun _ _ => TT.ok hK)) (fun _ => TT.bind (in_T _ _ _) (fun r21 q21 => TT.ite (fun _ => TT.ok hK) (fun c21 => ?_)))) (fun c15 => ?_))
    · have g := q21.use c21
      rw [w32_of (x := x - 30) (by omega) (by omega)]
      have d := dv5 (y := x - 30) (by omega) (by omega)
      exact TT.bind (leftR_T hTr hS d.1.1 d.1.2 d.2.1 d.2.2) (fun _ _ => TT.ok hK)
    · have g := q15.use c15
      rw [w32_of (x := x - 20) (by omega) (by omega)]
      exact TT.bind (giftOfR_T hTr hS (by omega) (by omega) (Or.inr rfl)) (fun _ _ => TT.ok hK)
  · have g := q10.use c10
    rw [w32_of (x := x - 10) (by omega) (by omega)]
    exact TT.bind (giftOfR_T hTr hS (by omega) (by omega) (Or.inl rfl)) (fun _ _ => TT.ok hK)
theorem isToldAllR_T (hT : WT M) (hR : RH M) (hS : RSg M) {g : Int} (g0 : 0 ≤ g) (g5 : g < 5) : TT (fX11_isToldAll M 85 g) (fun r => True) := by
  unfold fX11_isToldAll
  have hh := hR.2.1
  refine TT.iter (fun s : Int => 0 ≤ s ∧ s ≤ 6) (fun s => (6 - s).toNat) ?_ BIG 0 (by omega) (by unfold BIG; omega)
  rintro rec s ⟨s0, s6⟩ hr
  refine TT.guard (wk85 hT) (TT.ite (fun c => TT.bind (leftR_T hT hS s0 (by omega) g0 g5) (fun r _ => TT.ite (fun _ => TT.ok trivial) (fun _ => hr _ ?_ ?_))) (fun _ => TT.ok trivial))
  · rw [w32_of (by omega) (by omega)]; omega
  · rw [w32_of (by omega) (by omega)]; omega
set_option maxHeartbeats 1000000 in
theorem movedY_T (hT : WT M) (t s u : Int) : TT (fX11_moved M 85 t s u) (fun r => Keep M r.2) := by
  unfold fX11_moved
  refine TT.guard (wk85 hT) (TT.sM ?_)
  have hK2 : Keep M (mst M 85 0 0) := Keep.self.st rfl
  generalize mst M 85 0 0 = M2 at *
  have hT2 := hT.keep hK2
  refine TT.bind (hasSight_T hT2 s) (fun r4 q4 => ?_)
  have hK4 := hK2.trans q4.2.1.1
  have hT4 := hT.keep hK4
  refine TT.ite (fun _ => TT.ok hK4) (fun c4 => TT.guard (wk85 hT4) (TT.bind (hand_T hT4 t) (fun r7 q7 => ?_)))
  have hK := hK4.trans q7.2.1.1
  have hTr := hT.keep hK
  refine TT.ite (fun _ => TT.ok hK) (fun c7 => ?_)
  have hR := q7.2.2 c7
  have hS : RSg r7.2 := by
    have := q4.2.2 c4
    unfold RSg
    rw [q7.2.1.2 48 (by decide)]; exact this
  have hh := hR.2.1
  refine TT.iter (fun u : Int × Int × Int => 0 ≤ u.2.2 ∧ u.2.2 ≤ 5) (fun u => (5 - u.2.2).toNat) ?_ BIG (0, 0, 0) ⟨by dsimp only; omega, by dsimp only; omega⟩ (by unfold BIG; dsimp only; omega)
  rintro rec ⟨x1, x2, g⟩ ⟨g0, g5⟩ hr
  simp only at g0 g5 ⊢
  refine TT.ite (fun cg => ?_) (fun _ => TT.ite (fun _ => TT.ok hK) (fun _ => TT.ok hK))
  refine TT.iter (fun v : Int × Int × Int × Int => 0 ≤ v.2.2.2 ∧ v.2.2.2 ≤ 6) (fun v => (6 - v.2.2.2).toNat) ?_ BIG _ ⟨by dsimp only; omega, by dsimp only; omega⟩ (by unfold BIG; dsimp only; omega)
  rintro rec2 ⟨y1, y2, y3, h⟩ ⟨h0, h6⟩ hr2
  simp only at h0 h6 ⊢
  refine TT.guard (wk85 hTr) (TT.join (fun _ => True) (fun _ _ => TT.ite (fun _ => hr _ ⟨?_, ?_⟩ ?_) (fun _ => TT.ok hK)) (fun j hj => TT.ite (fun c => ?_) (fun _ => hj () trivial)))
  · show 0 ≤ w32 (g + 1)
    rw [w32_of (by omega) (by omega)]; omega
  · show w32 (g + 1) ≤ 5
    rw [w32_of (by omega) (by omega)]; omega
  · show (5 - w32 (g + 1)).toNat < (5 - g).toNat
    rw [w32_of (by omega) (by omega)]; omega
  · refine TT.bind (isToldAllR_T hTr hR hS g0 cg) (fun r21 _ => TT.ite (fun _ => hj () trivial) (fun _ => TT.bind (leftR_T hTr hS h0 (by omega) g0 cg) (fun r24 _ => ?_)))
    rw [w32_of (x := 5 * h) (by omega) (by omega), w32_of (x := 2 + 5 * h) (by omega) (by omega), w32_of (x := 2 + 5 * h + g) (by omega) (by omega)]
    refine TT.bind (of_T hTr hR (i := 2 + 5 * h + g) (by omega) (by omega)) (fun r26 _ => TT.bind (size_T _) (fun r28 _ => TT.bind (greater_T _ _) (fun r30 _ => hr2 _ ⟨?_, ?_⟩ ?_)))
    · show 0 ≤ w32 (h + 1)
      rw [w32_of (by omega) (by omega)]; omega
    · show w32 (h + 1) ≤ 6
      rw [w32_of (by omega) (by omega)]; omega
    · show (6 - w32 (h + 1)).toNat < (6 - h).toNat
      rw [w32_of (by omega) (by omega)]; omega
theorem and3 (x : Int) : 0 ≤ bAnd x 3 ∧ bAnd x 3 ≤ 3 := by
  unfold bAnd
  generalize Int32.ofInt x = a
  have e : (a &&& Int32.ofInt 3).toInt = (a.toBitVec &&& (Int32.ofInt 3).toBitVec).toInt := rfl
  have h : (a.toBitVec &&& (Int32.ofInt 3).toBitVec).toNat ≤ 3 := by
    rw [BitVec.toNat_and]
    exact Nat.le_trans Nat.and_le_right (by decide)
  rw [e, BitVec.toInt_eq_toNat_of_lt (by omega)]
  omega
theorem handOf_T (x i : Int) : TT (fX11_handOf M x i) (fun r => 0 ≤ r ∧ r ≤ 3) := by
  unfold fX11_handOf
  exact TT.ok (and3 _)
set_option maxHeartbeats 1000000 in
theorem canBeR_T (hT : WT M) (hR : RH M) (hS : RSg M) (x : Int) : TT (fX11_canBe M 85 x) (fun r => True) := by
  unfold fX11_canBe
  have hv := hR.2.2
  refine TT.iter (fun s : Int => 0 ≤ s ∧ s ≤ 8) (fun s => (8 - s).toNat) ?_ BIG 0 (by omega) (by unfold BIG; omega)
  rintro rec s ⟨s0, s8⟩ hr
  refine TT.guard (wk85 hT) (TT.bind (giftsR_T hT hS) (fun r3 q3 => TT.ite (fun c => TT.bind (handOf_T x s) (fun r7 q7 => ?_)) (fun _ => TT.ok trivial)))
  have gi : ∀ k a, 0 ≤ k → k < 8 → a = 0 ∨ a = 1 → TT (fX11_giftOf M 85 k a) (fun r => 0 ≤ r ∧ (a = 0 → r ≤ 5) ∧ (a = 1 → r ≤ 4)) := fun k a k0 k8 ha => giftOfR_T hT hS k0 k8 ha
  refine TT.iter (fun u : Int × Int => 0 ≤ u.2 ∧ u.2 ≤ 8) (fun u => (8 - u.2).toNat) ?_ BIG (0, 0) ⟨by dsimp only; omega, by dsimp only; omega⟩ (by unfold BIG; dsimp only; omega)
  rintro rec2 ⟨n, k⟩ ⟨k0, k8⟩ hr2
  simp only at k0 k8 ⊢
  refine TT.bind (giftsR_T hT hS) (fun r11 q11 => TT.ite (fun ck => ?_) (fun _ => TT.ite (fun c7 => ?_) (fun _ => TT.ok trivial)))
  · have go : ∀ z, TT (rec2 (z, w32 (k + 1))) (fun _ => True) := fun z => hr2 _ ⟨by show 0 ≤ w32 (k + 1); rw [w32_of (by omega) (by omega)]; omega, by show w32 (k + 1) ≤ 8; rw [w32_of (by omega) (by omega)]; omega⟩ (by show (8 - w32 (k + 1)).toNat < (8 - k).toNat; rw [w32_of (by omega) (by omega)]; omega)
    refine TT.bind (gi k 0 k0 (by omega) (Or.inl rfl)) (fun r14 _ => TT.bind (gi s 0 s0 (by omega) (Or.inl rfl)) (fun r16 _ => ?_))
    refine TT.join (fun _ => True) (fun t _ => TT.ite (fun _ => go _) (fun _ => TT.bind (handOf_T x k) (fun r21 _ => TT.ite (fun _ => go _) (fun _ => go _)))) (fun j hj => TT.join (fun _ => True) (fun _ _ => hj _ trivial) (fun j2 hj2 => TT.ite (fun _ => TT.bind (gi k 1 k0 (by omega) (Or.inr rfl)) (fun r27 _ => TT.bind (gi s 1 s0 (by omega) (Or.inr rfl)) (fun r29 _ => TT.ite (fun _ => hj _ trivial) (fun _ => hj2 () trivial)))) (fun _ => hj2 () trivial)))
  · refine TT.bind (gi s 0 s0 (by omega) (Or.inl rfl)) (fun r33 q33 => TT.bind (gi s 1 s0 (by omega) (Or.inr rfl)) (fun r35 q35 => ?_))
    have h5 := q33.2.1 rfl
    have h4 := q35.2.2 rfl
    rw [wp85_32 hT]
    refine TT.bind (place_T q7.1 (by omega) q33.1 (by omega) q35.1 (by omega)) (fun r37 q37 => TT.guard ⟨wk100 hT, q37.2.1, by rw [wl100 hT]; exact q37.2.2⟩ (TT.ite (fun _ => TT.ok trivial) (fun _ => hr _ ?_ ?_)))
    · rw [w32_of (by omega) (by omega)]; omega
    · rw [w32_of (by omega) (by omega)]; omega
theorem shl2 {g : Int} (g0 : 0 ≤ g) (g8 : g ≤ 8) : bShl 1 (w32 (2 * g)) ≤ 65536 := by
  rcases (show g = 0 ∨ g = 1 ∨ g = 2 ∨ g = 3 ∨ g = 4 ∨ g = 5 ∨ g = 6 ∨ g = 7 ∨ g = 8 by omega) with e | e | e | e | e | e | e | e | e <;> subst e <;> decide
set_option maxHeartbeats 1000000 in
theorem handsY_T (hT : WT M) (t l n s x : Int) : TT (fX11_hands M 85 t l n s x) (fun r => Keep M r.2) := by
  unfold fX11_hands
  refine TT.guard (wk85 hT) (TT.sM ?_)
  have hK2 : Keep M (mst M 85 0 0) := Keep.self.st rfl
  generalize mst M 85 0 0 = M2 at *
  have hT2 := hT.keep hK2
  refine TT.bind (hasSight_T hT2 s) (fun r4 q4 => ?_)
  have hK4 := hK2.trans q4.2.1.1
  have hT4 := hT.keep hK4
  refine TT.ite (fun _ => TT.ok hK4) (fun c4 => TT.guard (wk85 hT4) (TT.bind (layAllR_T hT4 t l n) (fun r7 q7 => ?_)))
  have hK7 := hK4.trans q7.2.1.1
  have hT7 := hT.keep hK7
  refine TT.ite (fun _ => TT.ok hK7) (fun c7 => ?_)
  obtain ⟨hR7, hQ7, hN7⟩ := q7.2.2 c7
  have hS7 : RSg r7.2 := by
    have := q4.2.2 c4
    unfold RSg
    rw [q7.2.1.2]; exact this
  refine TT.join (fun _ => x = -1 ∨ (0 ≤ x ∧ x < 8)) (fun _ hx => ?_) (fun j hj => TT.ite (fun e => hj () (Or.inl e)) (fun e => TT.guard (wk85 hT7) (TT.bind (giftsR_T hT7 hS7) (fun r41 q41 => ?_))))
  · refine TT.guard (wk85 hT7) (TT.bind (deedsR_T hT7 hN7) (fun r13 q13 => TT.bind (playR_T hT7 hR7 hQ7 hN7 r13 q13.2) (fun r16 q16 => ?_)))
    have hK := hK7.trans q16.2.1
    have hTr := hT.keep hK
    have hR := hR7.rk q16.2
    have hS := hS7.rk q16.2
    have hv := hR.2.2
    refine TT.iter (fun u : Int × Int => 0 ≤ u.2 ∧ u.2 ≤ 65536) (fun u => (65536 - u.2).toNat) ?_ BIG (0, 0) ⟨by dsimp only; omega, by dsimp only; omega⟩ (by unfold BIG; dsimp only; omega)
    rintro rec ⟨c, y⟩ ⟨y0, y1⟩ hr
    simp only at y0 y1 ⊢
    refine TT.guard (wk85 hTr) (TT.bind (giftsR_T hTr hS) (fun r20 q20 => ?_))
    have hb := shl2 q20.2.1 q20.2.2
    refine TT.ite (fun cy => ?_) (fun _ => TT.ite (fun _ => TT.ok hK) (fun ne => TT.ite (fun _ => TT.ok hK) (fun _ => ?_)))
    · have go : ∀ z, TT (rec (z, w32 (y + 1))) (fun r => Keep M r.2) := fun z => hr _ ⟨by show 0 ≤ w32 (y + 1); rw [w32_of (by omega) (by omega)]; omega, by show w32 (y + 1) ≤ 65536; rw [w32_of (by omega) (by omega)]; omega⟩ (by show (65536 - w32 (y + 1)).toNat < (65536 - y).toNat; rw [w32_of (by omega) (by omega)]; omega)
      exact TT.bind (canBeR_T hTr hR hS y) (fun r24 _ => TT.ite (fun _ => go _) (fun _ => go _))
    · have hx8 := hx.resolve_left ne
      refine TT.iter (fun u : Int × Int => 0 ≤ u.2 ∧ u.2 ≤ 4) (fun u => (4 - u.2).toNat) ?_ BIG (0, 0) ⟨by dsimp only; omega, by dsimp only; omega⟩ (by unfold BIG; dsimp only; omega)
      rintro rec2 ⟨m, k⟩ ⟨k0, k4⟩ hr2
      simp only at k0 k4 ⊢
      refine TT.ite (fun ck => ?_) (fun _ => TT.ok hK)
      have go : ∀ z, TT (rec2 (z, w32 (k + 1))) (fun r => Keep M r.2) := fun z => hr2 _ ⟨by show 0 ≤ w32 (k + 1); rw [w32_of (by omega) (by omega)]; omega, by show w32 (k + 1) ≤ 4; rw [w32_of (by omega) (by omega)]; omega⟩ (by show (4 - w32 (k + 1)).toNat < (4 - k).toNat; rw [w32_of (by omega) (by omega)]; omega)
      refine TT.bind (giftOfR_T hTr hS hx8.1 hx8.2 (Or.inl rfl)) (fun r32 q32 => TT.bind (giftOfR_T hTr hS hx8.1 hx8.2 (Or.inr rfl)) (fun r34 q34 => ?_))
      have h5 := q32.2.1 rfl
      have h4 := q34.2.2 rfl
      rw [wp85_32 hTr]
      exact TT.bind (place_T k0 (by omega) q32.1 (by omega) q34.1 (by omega)) (fun r36 q36 => TT.guard ⟨wk100 hTr, q36.2.1, by rw [wl100 hTr]; exact q36.2.2⟩ (TT.ite (fun _ => go _) (fun _ => go _)))
  · rw [w32_of (x := r41 - 1) (by omega) (by omega)]
    exact TT.bind (in_T _ _ _) (fun r44 q44 => TT.ite (fun _ => TT.ok hK7) (fun c => hj () (Or.inr (by have := q44.use c; omega))))
/-! who is first and last by wealth -/
def bv (W : Int → Int) (g h : Int) : Int := if W h < W g then 1 else if W g = W h then (if g < h then 1 else 0) else 0
def cnt (W : Int → Int) (h : Int) : Nat → Int
  | 0 => 0
  | m + 1 => cnt W h m + bv W (m : Int) h
theorem cnt_b (W : Int → Int) (h : Int) : ∀ m : Nat, 0 ≤ cnt W h m ∧ cnt W h m ≤ m
  | 0 => by unfold cnt; omega
  | m + 1 => by
    have := cnt_b W h m
    have b : 0 ≤ bv W (m : Int) h ∧ bv W (m : Int) h ≤ 1 := by
      unfold bv
      split
      · omega
      · split
        · split <;> omega
        · omega
    unfold cnt; omega
theorem top_ex (W : Int → Int) : ∀ n : Nat, ∃ h : Int, 0 ≤ h ∧ h < (n : Int) + 1 ∧ ∀ g : Int, 0 ≤ g → g < (n : Int) + 1 → ¬(W h < W g ∨ (W g = W h ∧ g < h))
  | 0 => ⟨0, by omega, by omega, fun g g0 g1 q => by
      have : g = 0 := by omega
      subst this; omega⟩
  | n + 1 => by
    obtain ⟨h, h0, h1, hh⟩ := top_ex W n
    by_cases c : W h < W ((n : Int) + 1)
    · refine ⟨(n : Int) + 1, by omega, by omega, fun g g0 g1 q => ?_⟩
      by_cases e : g = (n : Int) + 1
      · subst e; omega
      · exact hh g g0 (by omega) (Or.inl (by omega))
    · refine ⟨h, h0, by omega, fun g g0 g1 q => ?_⟩
      by_cases e : g = (n : Int) + 1
      · subst e; omega
      · exact hh g g0 (by omega) q
theorem bot_ex (W : Int → Int) : ∀ n : Nat, ∃ h : Int, 0 ≤ h ∧ h < (n : Int) + 1 ∧ ∀ g : Int, 0 ≤ g → g < (n : Int) + 1 → g ≠ h → (W h < W g ∨ (W g = W h ∧ g < h))
  | 0 => ⟨0, by omega, by omega, fun g g0 g1 q => by omega⟩
  | n + 1 => by
    obtain ⟨h, h0, h1, hh⟩ := bot_ex W n
    by_cases c : W h < W ((n : Int) + 1)
    · refine ⟨h, h0, by omega, fun g g0 g1 q => ?_⟩
      by_cases e : g = (n : Int) + 1
      · subst e; exact Or.inl c
      · exact hh g g0 (by omega) q
    · refine ⟨(n : Int) + 1, by omega, by omega, fun g g0 g1 q => ?_⟩
      by_cases e : g = h
      · subst e; omega
      · have := hh g g0 (by omega) e
        omega
theorem cnt_top {W : Int → Int} {h : Int} : ∀ m : Nat, (∀ g : Int, 0 ≤ g → g < m → ¬(W h < W g ∨ (W g = W h ∧ g < h))) → cnt W h m = 0
  | 0, _ => rfl
  | m + 1, q => by
    have i := cnt_top m (fun g a b => q g a (by omega))
    have z := q (m : Int) (by omega) (by omega)
    unfold cnt bv
    rw [i, if_neg (fun e => z (Or.inl e))]
    by_cases e : W (m : Int) = W h
    · rw [if_pos e, if_neg (fun f => z (Or.inr ⟨e, f⟩))]; omega
    · rw [if_neg e]; omega
theorem cnt_bot {W : Int → Int} {h : Int} : ∀ m : Nat, (∀ g : Int, 0 ≤ g → g < m → g ≠ h → (W h < W g ∨ (W g = W h ∧ g < h))) → cnt W h m = if 0 ≤ h ∧ h < m then (m : Int) - 1 else m
  | 0, _ => by
    unfold cnt
    rw [if_neg (by omega)]; rfl
  | m + 1, q => by
    have i := cnt_bot m (fun g a b => q g a (by omega))
    unfold cnt
    rw [i]
    by_cases e : (m : Int) = h
    · have : bv W (m : Int) h = 0 := by
        unfold bv
        rw [e, if_neg (by omega), if_pos rfl, if_neg (by omega)]
      rw [this, if_neg (by omega), if_pos (by omega)]; omega
    · have z := q (m : Int) (by omega) (by omega) e
      have : bv W (m : Int) h = 1 := by
        unfold bv
        rcases z with z | z
        · rw [if_pos z]
        · by_cases y : W h < W (m : Int)
          · rw [if_pos y]
          · rw [if_neg y, if_pos z.1, if_pos z.2]
      rw [this]
      by_cases y : 0 ≤ h ∧ h < (m : Int)
      · rw [if_pos y, if_pos (by omega)]; omega
      · rw [if_neg y, if_neg (by omega)]; omega
def WV (M : Mem) (h : Int) : Int := (fX11_wealthOf M 85 h).getD 0
theorem wv (hT : WT M) (hR : RH M) {h : Int} (h0 : 0 ≤ h) (h6 : h < 6) : fX11_wealthOf M 85 h = some (WV M h) := by
  obtain ⟨r, e, _⟩ := wealthOfR_T hT hR h ⟨h0, h6⟩
  unfold WV
  rw [e]; rfl
set_option maxHeartbeats 1000000 in
theorem rankedV_T (hT : WT M) (hR : RH M) (k : Int) : TT (fX11_ranked M 85 k) (fun r => (0 ≤ r ∧ r < M.1 85 25) ∨ ∀ j, 0 ≤ j → j < M.1 85 25 → cnt (WV M) j (M.1 85 25).toNat ≠ k) := by
  unfold fX11_ranked
  have hh := hR.2.1
  refine TT.iter (fun s : Int => (0 ≤ s ∧ s ≤ M.1 85 25) ∧ ∀ j, 0 ≤ j → j < s → cnt (WV M) j (M.1 85 25).toNat ≠ k) (fun s => (6 - s).toNat) ?_ BIG 0 ⟨by omega, fun j a b => by omega⟩ (by unfold BIG; omega)
  rintro rec s ⟨⟨s0, s1⟩, hs⟩ hr
  refine TT.guard (wk85 hT) (TT.ite (fun c => ?_) (fun c => TT.ok (Or.inr (fun j a b => hs j a (by omega)))))
  refine TT.iter (fun u : Int × Int => (0 ≤ u.2 ∧ u.2 ≤ M.1 85 25) ∧ u.1 = cnt (WV M) s u.2.toNat) (fun u => (6 - u.2).toNat) ?_ BIG (0, 0) ⟨⟨by dsimp only; omega, by dsimp only; omega⟩, rfl⟩ (by unfold BIG; dsimp only; omega)
  rintro rec2 ⟨n, g⟩ ⟨⟨g0, g1⟩, hn⟩ hr2
  simp only at g0 g1 hn ⊢
  have hb := cnt_b (WV M) s g.toNat
  refine TT.ite (fun cg => ?_) (fun cg => TT.ite (fun e => TT.ok (Or.inl ⟨s0, c⟩)) (fun e => hr _ ⟨?_, fun j a b => ?_⟩ ?_))
  · have e1 : w32 (g + 1) = g + 1 := w32_of (by omega) (by omega)
    have st : cnt (WV M) s (g + 1).toNat = cnt (WV M) s g.toNat + bv (WV M) g s := by
      rw [show (g + 1).toNat = g.toNat + 1 by omega]
      show cnt (WV M) s g.toNat + bv (WV M) ((g.toNat : Nat) : Int) s = _
      rw [show ((g.toNat : Nat) : Int) = g by omega]
    have go : ∀ d, bv (WV M) g s = d → d = 0 ∨ d = 1 → TT (rec2 (w32 (n + d), w32 (g + 1))) (fun r => (0 ≤ r ∧ r < M.1 85 25) ∨ ∀ j, 0 ≤ j → j < M.1 85 25 → cnt (WV M) j (M.1 85 25).toNat ≠ k) := by
      intro d hd d1
      refine hr2 _ ⟨⟨?_, ?_⟩, ?_⟩ ?_
      · show 0 ≤ w32 (g + 1)
        rw [e1]; omega
      · show w32 (g + 1) ≤ M.1 85 25
        rw [e1]; omega
      · show w32 (n + d) = cnt (WV M) s (w32 (g + 1)).toNat
        rw [e1, st, hd, hn, w32_of (by omega) (by omega)]
      · show (6 - w32 (g + 1)).toNat < (6 - g).toNat
        rw [e1]; omega
    refine TT.bindE (wv hT hR g0 (by omega)) (TT.bindE (wv hT hR s0 (by omega)) (TT.ite (fun a => go 1 (by unfold bv; rw [if_pos a]) (Or.inr rfl)) (fun a => TT.bindE (wv hT hR g0 (by omega)) (TT.bindE (wv hT hR s0 (by omega)) ?_))))
    refine TT.ite (fun b => TT.ite (fun d => go 1 (by unfold bv; rw [if_neg a, if_pos b, if_pos d]) (Or.inr rfl)) (fun d => go 0 (by unfold bv; rw [if_neg a, if_pos b, if_neg d]) (Or.inl rfl))) (fun b => go 0 (by unfold bv; rw [if_neg a, if_neg b]) (Or.inl rfl))
  · rw [w32_of (by omega) (by omega)]; omega
  · rw [w32_of (by omega) (by omega)] at b
    by_cases q : j = s
    · rw [q]
      rw [show (M.1 85 25).toNat = g.toNat by omega, ← hn]; exact e
    · exact hs j a (by omega)
  · rw [w32_of (by omega) (by omega)]; omega
theorem gapR_T (hT : WT M) (hR : RH M) : TT (fX11_gap M 85) (fun r => True) := by
  unfold fX11_gap
  have hh := hR.2.1
  rw [w32_of (x := M.1 85 25 - 1) (by omega) (by omega)]
  refine TT.guard (wk85 hT) (TT.bind (rankedV_T hT hR 0) (fun r1 q1 => ?_))
  have h1 : 0 ≤ r1 ∧ r1 < M.1 85 25 := by
    rcases q1 with q | q
    · exact q
    · exfalso
      obtain ⟨h, a, b, c⟩ := top_ex (WV M) ((M.1 85 25).toNat - 1)
      exact q h a (by omega) (cnt_top _ (fun g g0 g1 => c g g0 (by omega)))
  refine TT.bindE (wv hT hR h1.1 (by omega)) (TT.bind (rankedV_T hT hR _) (fun r6 q6 => ?_))
  have h6 : 0 ≤ r6 ∧ r6 < M.1 85 25 := by
    rcases q6 with q | q
    · exact q
    · exfalso
      obtain ⟨h, a, b, c⟩ := bot_ex (WV M) ((M.1 85 25).toNat - 1)
      refine q h a (by omega) ?_
      rw [cnt_bot _ (fun g g0 g1 => c g g0 (by omega)), if_pos (by omega)]; omega
  exact TT.bindE (wv hT hR h6.1 (by omega)) (TT.ok trivial)
set_option maxHeartbeats 1000000 in
theorem unlikeR_T (hT : WT M) (hR : RH M) (x : Int) : TT (fX11_unlike M 85 x) (fun r => True) := by
  unfold fX11_unlike
  have hh := hR.2.1
  refine TT.iter (fun s : Int × Int × Int => (0 ≤ s.2.2 ∧ s.2.2 ≤ 6) ∧ r32 s.1) (fun s => (6 - s.2.2).toNat) ?_ BIG (0, 0, 0) ⟨⟨by dsimp only; omega, by dsimp only; omega⟩, r32_0⟩ (by unfold BIG; dsimp only; omega)
  rintro rec ⟨a, b, h⟩ ⟨⟨h0, h6⟩, ha⟩ hr
  simp only at h0 h6 ha ⊢
  refine TT.guard (wk85 hT) (TT.ite (fun c => TT.bindE (wv hT hR h0 (by omega)) ?_) (fun _ => TT.bind (leastR_T ha) (fun _ _ => TT.ok trivial)))
  refine TT.iter (fun s : Int × Int => (0 ≤ s.2 ∧ s.2 ≤ 6) ∧ r32 s.1) (fun s => (6 - s.2).toNat) ?_ BIG (a, 0) ⟨⟨by dsimp only; omega, by dsimp only; omega⟩, ha⟩ (by unfold BIG; dsimp only; omega)
  rintro rec2 ⟨d, g⟩ ⟨⟨g0, g6⟩, hd⟩ hr2
  simp only at g0 g6 hd ⊢
  refine TT.ite (fun cg => TT.bindE (wv hT hR h0 (by omega)) (TT.bindE (wv hT hR g0 (by omega)) (TT.bind (size_T _) (fun r14 _ => hr2 _ ⟨⟨?_, ?_⟩, w32_r _⟩ ?_)))) (fun _ => hr _ ⟨⟨?_, ?_⟩, hd⟩ ?_)
  · show 0 ≤ w32 (g + 1)
    rw [w32_of (by omega) (by omega)]; omega
  · show w32 (g + 1) ≤ 6
    rw [w32_of (by omega) (by omega)]; omega
  · show (6 - w32 (g + 1)).toNat < (6 - g).toNat
    rw [w32_of (by omega) (by omega)]; omega
  · show 0 ≤ w32 (h + 1)
    rw [w32_of (by omega) (by omega)]; omega
  · show w32 (h + 1) ≤ 6
    rw [w32_of (by omega) (by omega)]; omega
  · show (6 - w32 (h + 1)).toNat < (6 - h).toNat
    rw [w32_of (by omega) (by omega)]; omega
set_option maxHeartbeats 1000000 in
theorem wealthY_T (hT : WT M) (t l n k x : Int) : TT (fX11_wealth M 85 t l n k x) (fun r => Keep M r.2) := by
  unfold fX11_wealth
  refine TT.guard (wk85 hT) (TT.sM ?_)
  have hK2 : Keep M (mst M 85 0 0) := Keep.self.st rfl
  generalize mst M 85 0 0 = M2 at *
  have hT2 := hT.keep hK2
  refine TT.bind (layStateR_T hT2 t l n k) (fun r q => TT.ite (fun _ => TT.ok (hK2.trans q.2.1)) (fun c => ?_))
  have hK := hK2.trans q.2.1
  have hTr := hT.keep hK
  obtain ⟨hR, hQ⟩ := q.2.2 c
  have hh := hR.2.1
  have hv := hR.2.2
  rw [w32_of (x := 9 + r.2.1 85 26) (by omega) (by omega), w32_of (x := 19 + r.2.1 85 25) (by omega) (by omega), w32_of (x := 29 + r.2.1 85 25) (by omega) (by omega)]
  refine TT.guard (wk85 hTr) (TT.bind (in_T _ _ _) (fun r8 q8 => TT.ite (fun _ => TT.bind (in_T _ _ _) (fun r11 q11 => TT.ite (fun _ => TT.bind (in_T _ _ _) (fun r14 q14 => TT.ite (fun _ => ?_) (fun _ => TT.bind (rankedR_T hTr hR _) (fun _ _ => TT.ok hK)))) (fun c11 => ?_))) (fun c8 => ?_)))
  · refine TT.ite (fun _ => TT.bind (settleR_T hTr hR hQ) (fun _ _ => TT.ok hK)) (fun _ => TT.ite (fun _ => TT.bind (gapR_T hTr hR) (fun _ _ => TT.ok hK)) (fun _ => TT.ite (fun _ => TT.join (fun _ => True) (fun z _ => TT.bind (unlikeR_T hTr hR z) (fun _ _ => TT.ok hK)) (fun j hj => TT.ite (fun _ => hj _ trivial) (fun _ => hj _ trivial))) (fun _ => TT.ite (fun _ => TT.join (fun _ => True) (fun z _ => TT.bind (unlikeR_T hTr hR z) (fun _ _ => TT.ok hK)) (fun j hj => TT.ite (fun _ => hj _ trivial) (fun _ => hj _ trivial))) (fun _ => TT.ite (fun _ => TT.bind (robbedR_T hTr hR) (fun _ _ => TT.ok hK)) (fun _ => TT.ok hK)))))
  · have g := q11.use c11
    rw [w32_of (x := x - 20) (by omega) (by omega)]
    exact TT.bindE (wv hTr hR (by omega) (by omega)) (TT.ok hK)
  · have g := q8.use c8
    rw [w32_of (x := x - 10) (by omega) (by omega)]
    exact TT.bind (canR_T hTr hR (x - 10) (by omega)) (fun _ _ => TT.ok hK)
theorem almsY_T (hT : WT M) (n v : Int) : TT (fX11_alms M 85 n v) (fun r => r.1 = ansA n v ∧ Keep M r.2) := by
  refine (y_alms (wk85 hT) n v).mono (fun r q => ⟨q.1, ?_⟩)
  rw [q.2]; exact Keep.self.st rfl
end RefZ
