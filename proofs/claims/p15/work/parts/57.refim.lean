/-! the reference: feed, end, alms, image, again -/
section RefI
variable {M : Mem}
def CBk (M N : Mem) (c n a b : Int) : Prop := ∀ y, N.1 c y = if n * b ≤ y ∧ y < n * b + n then M.1 c (y - n * b + n * a) else M.1 c y
def CPA (M N : Mem) (a b : Int) : Prop := N.2 = M.2 ∧ (∀ x y, (x < 86 ∨ 95 ≤ x) → N.1 x y = M.1 x y) ∧ CBk M N 86 600 a b ∧ CBk M N 87 1 a b ∧ CBk M N 88 1 a b ∧ CBk M N 89 1 a b ∧ CBk M N 90 4 a b ∧ CBk M N 91 184 a b ∧ CBk M N 92 6 a b ∧ CBk M N 93 322 a b ∧ CBk M N 94 94 a b
set_option maxHeartbeats 1000000 in
theorem copyAllY_T (h : WT M) {a b : Int} (ha : 0 ≤ a) (hb : 0 ≤ b) (ha3 : a ≤ 3) (hb3 : b ≤ 3) (hab : a ≠ b) : TT (fX11_copyAll M 85 a b) (fun r => CPA M r a b) := by
  unfold fX11_copyAll
  refine TT.iter (fun s : Int × Mem => (0 ≤ s.1 ∧ s.1 ≤ 600) ∧ s.2.2 = M.2 ∧ (∀ x y, x ≠ 86 → s.2.1 x y = M.1 x y) ∧ ∀ y, s.2.1 86 y = if 600 * b ≤ y ∧ y < 600 * b + s.1 then M.1 86 (y - 600 * b + 600 * a) else M.1 86 y) (fun s => (600 - s.1).toNat) ?_ BIG (0, M) ⟨⟨Int.le_refl _, by dsimp only; omega⟩, rfl, fun _ _ _ => rfl, fun y => by rw [if_neg (by dsimp only; omega)]⟩ (by unfold BIG; dsimp only; omega)
  rintro rec ⟨i, N⟩ ⟨⟨hi0, hin⟩, hN, hfr, hc⟩ hrec
  simp only at hi0 hin hN hfr hc ⊢
  have p : ∀ j v, M.1 85 j = v → N.1 85 j = v := fun j v q => by rw [hfr 85 j (by decide), q]
  refine TT.ite (fun c => ?_) (fun c => ?_)
  · rw [p 1 86 (wp85_1 h)]
    rw [w32_of (x := 600 * a) (by omega) (by omega), w32_of (x := 600 * b) (by omega) (by omega), w32_of (x := 600 * a + i) (by omega) (by omega), w32_of (x := 600 * b + i) (by omega) (by omega)]
    refine TT.guard (by rw [hN]; exact wk85 h) (TT.guard (by rw [hN, wk86 h, wl86 h]; exact ⟨Or.inl rfl, by omega, by omega⟩) (TT.guard (by rw [hN, wk86 h, wl86 h]; exact ⟨rfl, by omega, by omega⟩) (TT.sM (hrec _ ⟨⟨?_, ?_⟩, hN, fun x y hx => ?_, fun y => ?_⟩ ?_))))
    · show 0 ≤ w32 (i + 1)
      rw [w32_of (by omega) (by omega)]; omega
    · show w32 (i + 1) ≤ 600
      rw [w32_of (by omega) (by omega)]; omega
    · show (mst _ 86 _ _).1 x y = _
      rw [mst_ne _ _ _ _ _ _ hx, hfr x y hx]
    · show (mst _ 86 _ _).1 86 y = if 600 * b ≤ y ∧ y < 600 * b + w32 (i + 1) then _ else _
      rw [mst_r, w32_of (x := i + 1) (by omega) (by omega)]
      by_cases hy : y = 600 * b + i
      · subst hy
        rw [if_pos ⟨rfl, rfl⟩, if_pos (by omega), hc, if_neg (by omega), show 600 * b + i - 600 * b + 600 * a = 600 * a + i by omega]
      · rw [if_neg (fun q => hy q.2), hc y]
        by_cases hq : 600 * b ≤ y ∧ y < 600 * b + i
        · rw [if_pos hq, if_pos (by omega)]
        · rw [if_neg hq, if_neg (by omega)]
    · show (600 - w32 (i + 1)).toNat < (600 - i).toNat
      rw [w32_of (by omega) (by omega)]; omega
  · have hi : i = 600 := by omega
    subst hi
    have key : ∀ (O : Mem) (j c n : Int), M.1 85 j = c → c ≠ 85 → M.2.1 c = 12 → 0 ≤ n → n ≤ 1000 → 4 * n ≤ M.2.2.1 c → O.2 = M.2 → O.1 85 j = M.1 85 j → TT (fX11_copyRow O (O.1 85 j) n a b) (fun r => r.2 = M.2 ∧ (∀ x y, x ≠ c → r.1 x y = O.1 x y) ∧ CBk O r c n a b) := by
      intro O j c n e1 e0 e2 n0 n1 n2 g1 g2
      rw [g2, e1]
      refine (copyRow_T (by rw [g1]; exact e2) n0 ha hb ha3 hb3 hab n1 (by rw [g1]; exact n2)).mono ?_
      rintro r ⟨q1, q2, q3⟩
      exact ⟨q1.trans g1, q2, q3⟩
    have g : ∀ O : Mem, O.2 = M.2 → O.2.1 85 = 10 := fun O e => by rw [e]; exact wk85 h
    refine TT.guard (g _ hN) (TT.bind (key N 2 87 1 (wp85_2 h) (by decide) (wk87 h) (by decide) (by decide) (by rw [wl87 h]; decide) hN (by rw [hfr 85 2 (by decide)])) (fun r1 q1 => ?_))
    refine TT.guard (g _ q1.1) (TT.bind (key r1 3 88 1 (wp85_3 h) (by decide) (wk88 h) (by decide) (by decide) (by rw [wl88 h]; decide) q1.1 (by rw [q1.2.1 85 3 (by decide), hfr 85 3 (by decide)])) (fun r2 q2 => ?_))
    refine TT.guard (g _ q2.1) (TT.bind (key r2 4 89 1 (wp85_4 h) (by decide) (wk89 h) (by decide) (by decide) (by rw [wl89 h]; decide) q2.1 (by rw [q2.2.1 85 4 (by decide), q1.2.1 85 4 (by decide), hfr 85 4 (by decide)])) (fun r3 q3 => ?_))
    refine TT.guard (g _ q3.1) (TT.bind (key r3 5 90 4 (wp85_5 h) (by decide) (wk90 h) (by decide) (by decide) (by rw [wl90 h]; decide) q3.1 (by rw [q3.2.1 85 5 (by decide), q2.2.1 85 5 (by decide), q1.2.1 85 5 (by decide), hfr 85 5 (by decide)])) (fun r4 q4 => ?_))
    refine TT.guard (g _ q4.1) (TT.bind (key r4 6 91 184 (wp85_6 h) (by decide) (wk91 h) (by decide) (by decide) (by rw [wl91 h]; decide) q4.1 (by rw [q4.2.1 85 6 (by decide), q3.2.1 85 6 (by decide), q2.2.1 85 6 (by decide), q1.2.1 85 6 (by decide), hfr 85 6 (by decide)])) (fun r5 q5 => ?_))
    refine TT.guard (g _ q5.1) (TT.bind (key r5 7 92 6 (wp85_7 h) (by decide) (wk92 h) (by decide) (by decide) (by rw [wl92 h]; decide) q5.1 (by rw [q5.2.1 85 7 (by decide), q4.2.1 85 7 (by decide), q3.2.1 85 7 (by decide), q2.2.1 85 7 (by decide), q1.2.1 85 7 (by decide), hfr 85 7 (by decide)])) (fun r6 q6 => ?_))
    refine TT.guard (g _ q6.1) (TT.bind (key r6 8 93 322 (wp85_8 h) (by decide) (wk93 h) (by decide) (by decide) (by rw [wl93 h]; decide) q6.1 (by rw [q6.2.1 85 8 (by decide), q5.2.1 85 8 (by decide), q4.2.1 85 8 (by decide), q3.2.1 85 8 (by decide), q2.2.1 85 8 (by decide), q1.2.1 85 8 (by decide), hfr 85 8 (by decide)])) (fun r7 q7 => ?_))
    refine TT.guard (g _ q7.1) (TT.bind (key r7 9 94 94 (wp85_9 h) (by decide) (wk94 h) (by decide) (by decide) (by rw [wl94 h]; decide) q7.1 (by rw [q7.2.1 85 9 (by decide), q6.2.1 85 9 (by decide), q5.2.1 85 9 (by decide), q4.2.1 85 9 (by decide), q3.2.1 85 9 (by decide), q2.2.1 85 9 (by decide), q1.2.1 85 9 (by decide), hfr 85 9 (by decide)])) (fun r8 q8 => ?_))
    refine TT.ok ⟨q8.1, fun x y hx => ?_, fun y => ?_, fun y => ?_, fun y => ?_, fun y => ?_, fun y => ?_, fun y => ?_, fun y => ?_, fun y => ?_, fun y => ?_⟩
    · rw [q8.2.1 x y (by omega), q7.2.1 x y (by omega), q6.2.1 x y (by omega), q5.2.1 x y (by omega), q4.2.1 x y (by omega), q3.2.1 x y (by omega), q2.2.1 x y (by omega), q1.2.1 x y (by omega), hfr x y (by omega)]
    · rw [q8.2.1 86 _ (by decide), q7.2.1 86 _ (by decide), q6.2.1 86 _ (by decide), q5.2.1 86 _ (by decide), q4.2.1 86 _ (by decide), q3.2.1 86 _ (by decide), q2.2.1 86 _ (by decide), q1.2.1 86 _ (by decide), hc y]
    · have e : ∀ y, N.1 87 y = M.1 87 y := fun y => by rw [hfr 87 _ (by decide)]
      rw [q8.2.1 87 _ (by decide), q7.2.1 87 _ (by decide), q6.2.1 87 _ (by decide), q5.2.1 87 _ (by decide), q4.2.1 87 _ (by decide), q3.2.1 87 _ (by decide), q2.2.1 87 _ (by decide), q1.2.2 y, e, e]
    · have e : ∀ y, r1.1 88 y = M.1 88 y := fun y => by rw [q1.2.1 88 _ (by decide), hfr 88 _ (by decide)]
      rw [q8.2.1 88 _ (by decide), q7.2.1 88 _ (by decide), q6.2.1 88 _ (by decide), q5.2.1 88 _ (by decide), q4.2.1 88 _ (by decide), q3.2.1 88 _ (by decide), q2.2.2 y, e, e]
    · have e : ∀ y, r2.1 89 y = M.1 89 y := fun y => by rw [q2.2.1 89 _ (by decide), q1.2.1 89 _ (by decide), hfr 89 _ (by decide)]
      rw [q8.2.1 89 _ (by decide), q7.2.1 89 _ (by decide), q6.2.1 89 _ (by decide), q5.2.1 89 _ (by decide), q4.2.1 89 _ (by decide), q3.2.2 y, e, e]
    · have e : ∀ y, r3.1 90 y = M.1 90 y := fun y => by rw [q3.2.1 90 _ (by decide), q2.2.1 90 _ (by decide), q1.2.1 90 _ (by decide), hfr 90 _ (by decide)]
      rw [q8.2.1 90 _ (by decide), q7.2.1 90 _ (by decide), q6.2.1 90 _ (by decide), q5.2.1 90 _ (by decide), q4.2.2 y, e, e]
    · have e : ∀ y, r4.1 91 y = M.1 91 y := fun y => by rw [q4.2.1 91 _ (by decide), q3.2.1 91 _ (by decide), q2.2.1 91 _ (by decide), q1.2.1 91 _ (by decide), hfr 91 _ (by decide)]
      rw [q8.2.1 91 _ (by decide), q7.2.1 91 _ (by decide), q6.2.1 91 _ (by decide), q5.2.2 y, e, e]
    · have e : ∀ y, r5.1 92 y = M.1 92 y := fun y => by rw [q5.2.1 92 _ (by decide), q4.2.1 92 _ (by decide), q3.2.1 92 _ (by decide), q2.2.1 92 _ (by decide), q1.2.1 92 _ (by decide), hfr 92 _ (by decide)]
      rw [q8.2.1 92 _ (by decide), q7.2.1 92 _ (by decide), q6.2.2 y, e, e]
    · have e : ∀ y, r6.1 93 y = M.1 93 y := fun y => by rw [q6.2.1 93 _ (by decide), q5.2.1 93 _ (by decide), q4.2.1 93 _ (by decide), q3.2.1 93 _ (by decide), q2.2.1 93 _ (by decide), q1.2.1 93 _ (by decide), hfr 93 _ (by decide)]
      rw [q8.2.1 93 _ (by decide), q7.2.2 y, e, e]
    · have e : ∀ y, r7.1 94 y = M.1 94 y := fun y => by rw [q7.2.1 94 _ (by decide), q6.2.1 94 _ (by decide), q5.2.1 94 _ (by decide), q4.2.1 94 _ (by decide), q3.2.1 94 _ (by decide), q2.2.1 94 _ (by decide), q1.2.1 94 _ (by decide), hfr 94 _ (by decide)]
      rw [q8.2.2 y, e, e]
theorem bc91_01 : blkB RGL RGL 91 91 (184 * 1) 184 (184 * 0) = true := by decide +kernel
theorem bc93_01 : blkB RGL RGL 93 93 (322 * 1) 322 (322 * 0) = true := by decide +kernel
theorem bc94_01 : blkB RGL RGL 94 94 (94 * 1) 94 (94 * 0) = true := by decide +kernel
theorem bc91_02 : blkB RGL RGL 91 91 (184 * 2) 184 (184 * 0) = true := by decide +kernel
theorem bc93_02 : blkB RGL RGL 93 93 (322 * 2) 322 (322 * 0) = true := by decide +kernel
theorem bc94_02 : blkB RGL RGL 94 94 (94 * 2) 94 (94 * 0) = true := by decide +kernel
theorem bc91_03 : blkB RGL RGL 91 91 (184 * 3) 184 (184 * 0) = true := by decide +kernel
theorem bc93_03 : blkB RGL RGL 93 93 (322 * 3) 322 (322 * 0) = true := by decide +kernel
theorem bc94_03 : blkB RGL RGL 94 94 (94 * 3) 94 (94 * 0) = true := by decide +kernel
theorem bc91_10 : blkB RGL RGL 91 91 (184 * 0) 184 (184 * 1) = true := by decide +kernel
theorem bc93_10 : blkB RGL RGL 93 93 (322 * 0) 322 (322 * 1) = true := by decide +kernel
theorem bc94_10 : blkB RGL RGL 94 94 (94 * 0) 94 (94 * 1) = true := by decide +kernel
theorem bc91_20 : blkB RGL RGL 91 91 (184 * 0) 184 (184 * 2) = true := by decide +kernel
theorem bc93_20 : blkB RGL RGL 93 93 (322 * 0) 322 (322 * 2) = true := by decide +kernel
theorem bc94_20 : blkB RGL RGL 94 94 (94 * 0) 94 (94 * 2) = true := by decide +kernel
theorem bc91_30 : blkB RGL RGL 91 91 (184 * 0) 184 (184 * 3) = true := by decide +kernel
theorem bc93_30 : blkB RGL RGL 93 93 (322 * 0) 322 (322 * 3) = true := by decide +kernel
theorem bc94_30 : blkB RGL RGL 94 94 (94 * 0) 94 (94 * 3) = true := by decide +kernel
theorem g87 : (RGL.all fun p => decide (p.1 ≠ 87) || decide (p.2 = (0, 3, 0, 600))) = true := by decide +kernel
theorem g90 : (RGL.all fun p => decide (p.1 ≠ 90) || decide (p.2 = (0, 15, 0, 2))) = true := by decide +kernel
theorem g88 : (RGL.all fun p => decide (p.1 < 87 ∨ p.1 = 87 ∨ p.1 = 90 ∨ p.1 = 91 ∨ p.1 = 93 ∨ p.1 = 94) && decide (p.1 < 47 ∨ 87 ≤ p.1)) = true := by decide +kernel
theorem CPA.wt {M N : Mem} {a b : Int} (h : WT M) (q : CPA M N a b) (hab : (a = 0 ∧ (b = 1 ∨ b = 2 ∨ b = 3)) ∨ (b = 0 ∧ (a = 1 ∨ a = 2 ∨ a = 3))) : WT N := by
  obtain ⟨q0, qf, q86, q87, q88, q89, q90, q91, q92, q93, q94⟩ := q
  have hr : 0 ≤ a ∧ a ≤ 3 ∧ 0 ≤ b ∧ b ≤ 3 := by omega
  refine h.refU q0 (fun x y z _ => qf x y z) (fun p hp p1 p2 => ?_) ⟨fun l k l0 l4 k0 k2 => ⟨fun e => ?_, fun e => ?_⟩, fun u j u0 u8 j0 j4 => ?_⟩
  · have z := List.all_eq_true.mp g88 p hp
    simp only [Bool.and_eq_true, decide_eq_true_eq] at z
    rcases z.1 with z1 | z1 | z1 | z1 | z1 | z1
    · omega
    · intro i i1 i2
      have y := List.all_eq_true.mp g87 p hp
      simp only [Bool.or_eq_true, decide_eq_true_eq] at y
      have y2 := y.resolve_left (fun t => t z1)
      rw [y2] at i1 i2
      rw [z1, y2, q87]
      by_cases c : 1 * b ≤ i ∧ i < 1 * b + 1
      · rw [if_pos c]; dsimp only at i1 i2; exact len_ h (by omega) (by omega)
      · rw [if_neg c]; dsimp only at i1 i2; exact len_ h (by omega) (by omega)
    · intro i i1 i2
      have y := List.all_eq_true.mp g90 p hp
      simp only [Bool.or_eq_true, decide_eq_true_eq] at y
      have y2 := y.resolve_left (fun t => t z1)
      rw [y2] at i1 i2
      rw [z1, y2, q90]
      by_cases c : 4 * b ≤ i ∧ i < 4 * b + 4
      · rw [if_pos c]; dsimp only at i1 i2; exact mn_ h (by omega) (by omega)
      · rw [if_neg c]; dsimp only at i1 i2; exact mn_ h (by omega) (by omega)
    · have chk : blkB RGL RGL 91 91 (184 * b) 184 (184 * a) = true := by
        rcases hab with ⟨rfl, rfl | rfl | rfl⟩ | ⟨rfl, rfl | rfl | rfl⟩
        · exact bc91_01
        · exact bc91_02
        · exact bc91_03
        · exact bc91_10
        · exact bc91_20
        · exact bc91_30
      exact rows_blk h.2.1 h.2.1 q91 chk hp z1
    · have chk : blkB RGL RGL 93 93 (322 * b) 322 (322 * a) = true := by
        rcases hab with ⟨rfl, rfl | rfl | rfl⟩ | ⟨rfl, rfl | rfl | rfl⟩
        · exact bc93_01
        · exact bc93_02
        · exact bc93_03
        · exact bc93_10
        · exact bc93_20
        · exact bc93_30
      exact rows_blk h.2.1 h.2.1 q93 chk hp z1
    · have chk : blkB RGL RGL 94 94 (94 * b) 94 (94 * a) = true := by
        rcases hab with ⟨rfl, rfl | rfl | rfl⟩ | ⟨rfl, rfl | rfl | rfl⟩
        · exact bc94_01
        · exact bc94_02
        · exact bc94_03
        · exact bc94_10
        · exact bc94_20
        · exact bc94_30
      exact rows_blk h.2.1 h.2.1 q94 chk hp z1
  · rw [q90] at e
    rw [q91]
    by_cases c : l = b
    · rw [if_pos (by omega), show 4 * l - 4 * b + 4 * a = 4 * a by omega] at e
      rw [if_pos (by omega), show 184 * l + 92 * k - 184 * b + 184 * a = 184 * a + 92 * k by omega]
      exact (h.2.2.1 a k (by omega) (by omega) k0 k2).1 e
    · rw [if_neg (by omega)] at e
      rw [if_neg (by omega)]; exact (h.2.2.1 l k l0 l4 k0 k2).1 e
  · rw [q90] at e
    rw [q92]
    by_cases c : l = b
    · rw [if_pos (by omega), show 4 * l + 1 - 4 * b + 4 * a = 4 * a + 1 by omega] at e
      rw [if_pos (by omega), show 6 * l + 3 * k - 6 * b + 6 * a = 6 * a + 3 * k by omega]
      exact (h.2.2.1 a k (by omega) (by omega) k0 k2).2 e
    · rw [if_neg (by omega)] at e
      rw [if_neg (by omega)]; exact (h.2.2.1 l k l0 l4 k0 k2).2 e
  · rw [q93, q93]
    by_cases c : u = 2 * b ∨ u = 2 * b + 1
    · rw [if_pos (by omega), if_pos (by omega), show 161 * u + 1 + 4 * j - 322 * b + 322 * a = 161 * (u - 2 * b + 2 * a) + 1 + 4 * j by omega, show 161 * u + 4 + 4 * j - 322 * b + 322 * a = 161 * (u - 2 * b + 2 * a) + 4 + 4 * j by omega]
      exact h.2.2.2 (u - 2 * b + 2 * a) j (by omega) (by omega) j0 j4
    · rw [if_neg (by omega), if_neg (by omega)]; exact h.2.2.2 u j u0 u8 j0 j4
theorem g111 : (RGL.all fun p => decide (p.1 ≠ 111)) = true := by decide +kernel
theorem WT.m111 {M : Mem} (h : WT M) (k v : Int) : WT (mst M 111 k v) := by
  refine h.mst' ?_ ?_ (by decide)
  · rw [freeOf, List.all_eq_true]
    intro p hp
    have g3 := List.all_eq_true.mp PL_lo p hp
    simp only [decide_eq_true_eq] at g3
    rw [decide_eq_false (show ¬ p.1 = 111 by omega)]; rfl
  · rw [List.all_eq_true]
    intro p hp
    rw [List.all_eq_true.mp g111 p hp]; rfl
def RXi (M N : Mem) : Prop := N.2 = M.2 ∧ ∀ x y, scr x y = false → (x < 86 ∨ (95 ≤ x ∧ x ≠ 111)) → N.1 x y = M.1 x y
theorem imageY_T (hT : WT M) (k : Int) : TT (fX11_image M 85 k) (fun r => (¬(0 ≤ k ∧ k ≤ 2) ∧ r = (0, mst M 85 0 0)) ∨ ((0 ≤ k ∧ k ≤ 2) ∧ r.1 = 1 ∧ ∃ N, CPA (mst M 85 0 0) N 0 (k + 1) ∧ r.2 = mst N 111 k 1)) := by
  have h2 : WT (mst M 85 0 0) := hT.keep (Keep.self.st rfl)
  unfold fX11_image
  refine TT.guard (wk85 hT) (TT.sM (TT.bindE (in_v2 _ _ _ _) ?_))
  generalize mst M 85 0 0 = M2 at *
  by_cases h1 : 0 ≤ k ∧ k ≤ 2
  · rw [if_pos h1]
    refine TT.neg (by decide) ?_
    rw [w32_of (x := k + 1) (by omega) (by omega)]
    refine TT.bind (copyAllY_T h2 (by decide) (by omega) (by decide) (by omega) (by omega)) (fun r q => ?_)
    have hTr : WT r := CPA.wt h2 q (by omega)
    rw [wp85_50 hTr]
    exact TT.guard (wk85 hTr) (TT.guard ⟨wk111 hTr, h1.1, by rw [wl111 hTr]; omega⟩ (TT.sM (TT.ok (Or.inr ⟨h1, rfl, r, q, rfl⟩))))
  · rw [if_neg h1]
    exact TT.pos rfl (TT.ok (Or.inl ⟨h1, rfl⟩))
theorem againY_T (hT : WT M) (k : Int) : TT (fX11_again M 85 k) (fun r => (¬((0 ≤ k ∧ k ≤ 2) ∧ M.1 111 k ≠ 0) ∧ r = (0, mst M 85 0 0)) ∨ (((0 ≤ k ∧ k ≤ 2) ∧ M.1 111 k ≠ 0) ∧ r.1 = 1 ∧ CPA (mst M 85 0 0) r.2 (k + 1) 0)) := by
  have h2 : WT (mst M 85 0 0) := hT.keep (Keep.self.st rfl)
  have e111 : (mst M 85 0 0).1 111 k = M.1 111 k := mst_ne _ _ _ _ _ _ (by decide)
  unfold fX11_again
  refine TT.guard (wk85 hT) (TT.sM (TT.bindE (in_v2 _ _ _ _) ?_))
  generalize mst M 85 0 0 = M2 at *
  by_cases h1 : 0 ≤ k ∧ k ≤ 2
  · rw [if_pos h1, wp85_50 h2, e111]
    refine TT.neg (by decide) (TT.guard ⟨Or.inr (wk111 h2), h1.1, by rw [wl111 h2]; omega⟩ (TT.ite (fun e => TT.ok (Or.inl ⟨fun q => q.2 e, rfl⟩)) (fun e => ?_)))
    rw [w32_of (x := k + 1) (by omega) (by omega)]
    exact TT.bind (copyAllY_T h2 (by omega) (by decide) (by omega) (by decide) (by omega)) (fun r q => TT.ok (Or.inr ⟨⟨h1, e⟩, rfl, q⟩))
  · rw [if_neg h1]
    exact TT.pos rfl (TT.ok (Or.inl ⟨fun q => h1 q.1, rfl⟩))
theorem WT.len {M N : Mem} (h : WT M) (e2 : N.2 = M.2) (hfr : ∀ x y, x ≠ 86 → ¬(x = 87 ∧ y = 0) → N.1 x y = M.1 x y) (hn : 0 ≤ N.1 87 0 ∧ N.1 87 0 ≤ 600) : WT N := by
  refine h.refU e2 (fun x y z _ => hfr x y (by omega) (by omega)) (fun p hp p1 p2 => ?_) ⟨fun l k l0 l4 k0 k2 => ?_, fun u j u0 u8 j0 j4 => ?_⟩
  · intro i i1 i2
    have z := List.all_eq_true.mp g88 p hp
    simp only [Bool.and_eq_true, decide_eq_true_eq] at z
    by_cases c : p.1 = 87
    · have y := List.all_eq_true.mp g87 p hp
      simp only [Bool.or_eq_true, decide_eq_true_eq] at y
      have y2 := y.resolve_left (fun t => t c)
      rw [y2] at i1 i2
      rw [c, y2]
      dsimp only at i1 i2
      by_cases d : i = 0
      · rw [d]; exact hn
      · rw [hfr 87 i (by decide) (fun q => d q.2)]; exact len_ h (by omega) (by omega)
    · rw [hfr p.1 i (by omega) (fun q => c q.1)]; exact h.2.1 p hp i i1 i2
  · rw [hfr 90 _ (by decide) (by omega), hfr 90 _ (by decide) (by omega), hfr 91 _ (by decide) (by omega), hfr 92 _ (by decide) (by omega)]; exact h.2.2.1 l k l0 l4 k0 k2
  · rw [hfr 93 _ (by decide) (by omega), hfr 93 _ (by decide) (by omega)]; exact h.2.2.2 u j u0 u8 j0 j4
def LX (n : Int) (M N : Mem) : Prop := N.2 = M.2 ∧ N.1 87 0 = n ∧ ∀ x y, x ≠ 86 → ¬(x = 87 ∧ y = 0) → N.1 x y = M.1 x y
theorem endY_T (hT : WT M) (n : Int) : TT (fX11_end M 85 n) (fun r => r.1 = (if 0 ≤ n ∧ n ≤ M.1 87 0 then n else -1) ∧ LX (if 0 ≤ n ∧ n ≤ M.1 87 0 then n else M.1 87 0) (mst M 85 0 0) r.2) := by
  have h2 : WT (mst M 85 0 0) := hT.keep (Keep.self.st rfl)
  have e87 : (mst M 85 0 0).1 87 0 = M.1 87 0 := mst_ne _ _ _ _ _ _ (by decide)
  unfold fX11_end
  refine TT.guard (wk85 hT) (TT.sM ?_)
  generalize mst M 85 0 0 = M2 at *
  rw [wp85_2 h2, e87]
  have g : M2.2.1 87 = 12 ∧ (0 : Int) ≤ 0 ∧ 0 < M2.2.2.1 87 := ⟨wk87 h2, by decide, by rw [wl87 h2]; decide⟩
  refine TT.guard g (TT.bindE (in_v2 _ _ _ _) ?_)
  by_cases c : 0 ≤ n ∧ n ≤ M.1 87 0
  · rw [if_pos c, if_pos c, if_pos c]
    refine TT.neg (by decide) (TT.guard g (TT.sM (TT.ok ⟨rfl, rfl, mst_at _ _ _ _, fun x y _ q => by rw [mst_r, if_neg q]⟩)))
  · rw [if_neg c, if_neg c, if_neg c]
    exact TT.pos rfl (TT.ok ⟨rfl, rfl, e87, fun _ _ _ _ => rfl⟩)
theorem feedY_T (hT : WT M) (b0 b1 b2 b3 b4 : Int) : TT (fX11_feed M 85 b0 b1 b2 b3 b4) (fun r => r.1 = (if 580 < M.1 87 0 then -1 else M.1 87 0 + 20) ∧ LX (if 580 < M.1 87 0 then M.1 87 0 else M.1 87 0 + 20) (mst M 85 0 0) r.2) := by
  have h2 : WT (mst M 85 0 0) := hT.keep (Keep.self.st rfl)
  have e87 : (mst M 85 0 0).1 87 0 = M.1 87 0 := mst_ne _ _ _ _ _ _ (by decide)
  have hl := len_ hT (i := 0) (by decide) (by decide)
  unfold fX11_feed
  refine TT.guard (wk85 hT) (TT.sM ?_)
  generalize mst M 85 0 0 = M2 at *
  generalize M.1 87 0 = n at *
  rw [wp85_2 h2, e87, w32_of (x := n + 20) (by omega) (by omega)]
  refine TT.guard ⟨wk87 h2, by decide, by rw [wl87 h2]; decide⟩ (TT.ite (fun c => TT.ok ⟨by rw [if_pos (by omega)], rfl, by rw [if_pos (by omega)]; exact e87, fun _ _ _ _ => rfl⟩) (fun c => ?_))
  rw [if_neg (by omega), if_neg (by omega)]
  have key : ∀ (N : Mem) (n v : Int), LX n M2 N → 0 ≤ n → n ≤ 596 → TT (fX11_four N 85 v) (fun r => LX (n + 4) M2 r) := by
    rintro N n v ⟨e1, e2, e3⟩ n0 n1
    refine (four_T (t := 86) (z := 87) (n := n) v (by rw [e1]; exact wk85 h2) (by rw [e3 85 1 (by decide) (fun q => absurd q.2 (by decide))]; exact wp85_1 h2) (by rw [e3 85 2 (by decide) (fun q => absurd q.2 (by decide))]; exact wp85_2 h2) (by rw [e1]; exact wk86 h2) (by rw [e1]; exact wl86 h2) (by rw [e1]; exact wk87 h2) (by rw [e1]; exact wl87 h2) (by decide) (by decide) (by decide) e2 n0 n1).mono ?_
    rintro r ⟨g1, g2, g3, -⟩
    exact ⟨g1.trans e1, g2, fun x y hx hy => (g3 x y hx hy).trans (e3 x y hx hy)⟩
  have g9 : ∀ N : Mem, N.2 = M2.2 → N.2.1 85 = 10 := fun N e => by rw [e]; exact wk85 h2
  refine TT.bind (key M2 n b0 ⟨rfl, e87, fun _ _ _ _ => rfl⟩ (by omega) (by omega)) (fun r1 q1 => ?_)
  refine TT.guard (g9 _ q1.1) (TT.bind (key r1 _ b1 q1 (by omega) (by omega)) (fun r2 q2 => ?_))
  refine TT.guard (g9 _ q2.1) (TT.bind (key r2 _ b2 q2 (by omega) (by omega)) (fun r3 q3 => ?_))
  refine TT.guard (g9 _ q3.1) (TT.bind (key r3 _ b3 q3 (by omega) (by omega)) (fun r4 q4 => ?_))
  refine TT.guard (g9 _ q4.1) (TT.bind (key r4 _ b4 q4 (by omega) (by omega)) (fun r5 q5 => ?_))
  refine TT.guard (g9 _ q5.1) ?_
  have e : r5.1 85 2 = 87 := by rw [q5.2.2 85 2 (by decide) (fun q => absurd q.2 (by decide)), wp85_2 h2]
  rw [e]
  have e20 : n + 4 + 4 + 4 + 4 + 4 = n + 20 := by omega
  rw [e20] at q5
  exact TT.guard (by rw [q5.1]; exact ⟨wk87 h2, by decide, by rw [wl87 h2]; decide⟩) (TT.ok ⟨q5.2.1, q5⟩)
theorem LX.wt {M N : Mem} {n : Int} (h : WT M) (q : LX n (mst M 85 0 0) N) (hn : 0 ≤ n ∧ n ≤ 600) : WT N := by
  have h2 : WT (mst M 85 0 0) := h.keep (Keep.self.st rfl)
  exact h2.len q.1 q.2.2 (by rw [q.2.1]; exact hn)
theorem LX.rx {M N : Mem} {n : Int} (q : LX n (mst M 85 0 0) N) : RX M N ∧ LenQ n M N := by
  have hK : Keep M (mst M 85 0 0) := Keep.self.st rfl
  refine ⟨⟨q.1.trans hK.1, fun x y s z => (q.2.2 x y (by omega) (by omega)).trans (hK.2 x y s)⟩, q.2.1, fun y hy => ?_⟩
  rw [q.2.2 87 y (by decide) (fun z => hy z.2)]; exact mst_ne _ _ _ _ _ _ (by decide)

end RefI
