/-! deed, sight -/
section Calls3
variable {M N : Mem} {D : Int → Int}
theorem deeds_V (hT : WT N) {k : Int} (hk : k = 0 ∨ k = 1) (e : N.1 85 28 = k) : fX11_deeds N 85 = some (N.1 93 (161 * k)) := by
  unfold fX11_deeds
  rw [if_pos (wk85 hT), wp85_8 hT, e, w32_of (by omega) (by omega), if_pos ⟨wk93 hT, by omega, by rw [wl93 hT]; omega⟩]
theorem deedOf_V (hT : WT N) {k i x : Int} (hk : k = 0 ∨ k = 1) (e : N.1 85 28 = k) (i0 : 0 ≤ i) (i1 : i < 40) (x0 : 0 ≤ x) (x1 : x < 4) : fX11_deedOf N 85 i x = some (N.1 93 (161 * k + (1 + 4 * i + x))) := by
  unfold fX11_deedOf
  rw [if_pos (wk85 hT), wp85_8 hT, e, w32_of (x := 161 * k) (by omega) (by omega), w32_of (x := 161 * k + 1) (by omega) (by omega), w32_of (x := 4 * i) (by omega) (by omega), w32_of (x := 161 * k + 1 + 4 * i) (by omega) (by omega), w32_of (x := 161 * k + 1 + 4 * i + x) (by omega) (by omega), if_pos ⟨wk93 hT, by omega, by rw [wl93 hT]; omega⟩, show 161 * k + 1 + 4 * i + x = 161 * k + (1 + 4 * i + x) by omega]
def ddS (i x : Int) (L : Int → Int) : Int := if i = -1 then (if x = 0 then L 0 else -2) else if (0 ≤ i ∧ i < L 0) ∧ (0 ≤ x ∧ x ≤ 3) then L (1 + 4 * i + x) else -2
theorem NTA.of {k : Int} (hk : k = 0 ∨ k = 1) : NTA (18 + 19 * k) := hk.elim (fun e => Or.inl (by rw [e]; rfl)) (fun e => Or.inr (by rw [e]; rfl))
theorem SGA.of {k : Int} (hk : k = 0 ∨ k = 1) : SGA (23 + 19 * k) := hk.elim (fun e => Or.inl (by rw [e]; rfl)) (fun e => Or.inr (by rw [e]; rfl))
set_option maxHeartbeats 1000000 in
theorem deed_E (h : INV2 M) (k i x : Int) : TT (fX10_deed M 0 k i x) (fun r => TT (fX11_deed M 85 k i x) (fun u => r = u.1 ∧ Keep M u.2)) := by
  have hT := h.1.1
  have hc := cn_ hT (i := 2) (by decide) (by decide)
  refine TT.both (if 0 ≤ k ∧ k < M.1 3 2 then ddS i x (fun y => M.1 93 (161 * k + y)) else -2) (deedX_T hT k i x) (deedY_T hT k i x) ?_ ?_
  · unfold fX10_deed
    rw [wp0_0 hT]
    refine PC.guard (fun _ => PC.guard (fun _ => ?_))
    rw [nightsAt_V hT k]
    by_cases c : 0 ≤ k ∧ k < M.1 3 2
    rotate_left
    · rw [if_neg c, if_neg c]
      exact PC.bindE rfl (PC.pos rfl (PC.ok rfl))
    rw [if_pos c, if_pos c]
    obtain ⟨⟨e0, l0⟩, e1⟩ := nightsV_D h c.1 c.2
    have ha : NTA (18 + 19 * k) := NTA.of (by omega)
    refine PC.bindE rfl (PC.neg (by omega) ?_)
    rw [np1_ hT ha, np2_ hT ha, np3_ hT ha, np4_ hT ha, e0]
    unfold ddS
    simp only [Int.add_zero]
    refine PC.ite (fun z => ?_) (fun z => ?_)
    · rw [if_pos z]
      exact PC.ite (fun y => PC.guard (fun _ => PC.ok (by rw [if_pos y]))) (fun y => PC.ok (by rw [if_neg y]))
    rw [if_neg z]
    refine PC.ite (fun z1 => PC.ok (by rw [if_neg (by omega)])) (fun z1 => PC.guard (fun _ => PC.ite (fun z2 => ?_) (fun z2 => PC.ok (by rw [if_neg (by omega)]))))
    obtain ⟨a1, a2, a3, a4⟩ := e1 i (by omega) z2
    refine PC.ite (fun y => PC.guard (fun _ => PC.ok ?_)) (fun y0 => PC.ite (fun y => PC.guard (fun _ => PC.ok ?_)) (fun y1 => PC.ite (fun y => PC.guard (fun _ => PC.ok ?_)) (fun y2 => PC.ite (fun y => PC.guard (fun _ => PC.ok ?_)) (fun y3 => PC.ok (by rw [if_neg (by omega)])))))
    · rw [if_pos (by omega), a1, y, show 1 + 4 * i + 0 = 1 + 4 * i by omega]
    · rw [if_pos (by omega), a2, y, show 1 + 4 * i + 1 = 2 + 4 * i by omega]
    · rw [if_pos (by omega), a3, y, show 1 + 4 * i + 2 = 3 + 4 * i by omega]
    · rw [if_pos (by omega), a4, y, show 1 + 4 * i + 3 = 4 + 4 * i by omega]
  · unfold fX11_deed
    refine PC.guard (fun _ => PC.sM ?_)
    have hT2 : WT (mst M 85 0 0) := hT.keep m85
    have e90 : (mst M 85 0 0).1 90 2 = M.1 3 2 := by rw [mst_ne _ _ _ _ _ _ (by decide)]; exact cnt90 h (by decide) (by decide)
    refine PC.bindE (hasNights_V hT2 k) ?_
    rw [e90]
    by_cases c : 0 ≤ k ∧ k < M.1 3 2
    rotate_left
    · rw [if_neg c, if_neg c]
      exact PC.pos rfl (PC.ok rfl)
    rw [if_pos c, if_pos c]
    refine PC.neg n10 ?_
    have hT3 : WT (mst (mst M 85 0 0) 85 28 k) := hT2.keep (Keep.self.st rfl)
    have f3 : ∀ y, (mst (mst M 85 0 0) 85 28 k).1 93 y = M.1 93 y := fun y => by rw [mst_ne _ _ _ _ _ _ (by decide), mst_ne _ _ _ _ _ _ (by decide)]
    have hk : k = 0 ∨ k = 1 := by omega
    obtain ⟨⟨e0, l0⟩, _⟩ := nightsV_D h c.1 c.2
    have n0 : 0 ≤ M.1 93 (161 * k) := by
      rw [← e0]; exact (nd0_ hT (NTA.of hk)).1
    have e28 : (mst (mst M 85 0 0) 85 28 k).1 85 28 = k := mst_at _ _ _ _
    show PC (if i = -1 then (if x = 0 then (if (mst (mst M 85 0 0) 85 28 k).2.1 85 = 10 then (fX11_deeds (mst (mst M 85 0 0) 85 28 k) 85).bind _ else none) else (some ((-2), mst (mst M 85 0 0) 85 28 k))) else (if (mst (mst M 85 0 0) 85 28 k).2.1 85 = 10 then (fX11_deeds (mst (mst M 85 0 0) 85 28 k) 85).bind _ else none)) _
    generalize mst (mst M 85 0 0) 85 28 k = A at *
    unfold ddS
    simp only [Int.add_zero]
    refine PC.ite (fun z => ?_) (fun z => ?_)
    · rw [if_pos z]
      exact PC.ite (fun y => PC.guard (fun _ => PC.bindE (deeds_V hT3 hk e28) (PC.ok (by rw [if_pos y]; exact f3 _)))) (fun y => PC.ok (by rw [if_neg y]))
    rw [if_neg z]
    refine PC.guard (fun _ => PC.bindE (deeds_V hT3 hk e28) ?_)
    rw [f3]
    show PC ((fX11_in A i 0 _).bind _) _
    rw [in_v2, w32_of (by omega) (by omega)]
    by_cases c1 : 0 ≤ i ∧ i ≤ M.1 93 (161 * k) - 1
    rotate_left
    · rw [if_neg c1, if_neg (by omega)]
      exact PC.bindE rfl (PC.pos rfl (PC.ok rfl))
    rw [if_pos c1]
    refine PC.bindE rfl (PC.neg n10 ?_)
    show PC ((fX11_in A x 0 3).bind _) _
    rw [in_v2]
    by_cases c2 : 0 ≤ x ∧ x ≤ 3
    rotate_left
    · rw [if_neg c2, if_neg (by omega)]
      exact PC.bindE rfl (PC.pos rfl (PC.ok rfl))
    rw [if_pos c2, if_pos ⟨by omega, c2⟩]
    exact PC.bindE rfl (PC.neg n10 (PC.bindE (deedOf_V hT3 hk e28 c1.1 (by omega) c2.1 (by omega)) (PC.ok (f3 _))))
theorem gifts_V (hT : WT N) {k : Int} (hk : k = 0 ∨ k = 1) (e : N.1 85 48 = k) : fX11_gifts N 85 = some (N.1 94 (47 * k)) := by
  unfold fX11_gifts
  rw [if_pos (wk85 hT), wp85_9 hT, e, w32_of (by omega) (by omega), if_pos ⟨wk94 hT, by omega, by rw [wl94 hT]; omega⟩]
theorem giftOf_V (hT : WT N) {k i x : Int} (hk : k = 0 ∨ k = 1) (e : N.1 85 48 = k) (i0 : 0 ≤ i) (i1 : i < 8) (x0 : 0 ≤ x) (x1 : x < 2) : fX11_giftOf N 85 i x = some (N.1 94 (47 * k + (1 + 2 * i + x))) := by
  unfold fX11_giftOf
  rw [if_pos (wk85 hT), wp85_9 hT, e, w32_of (x := 47 * k) (by omega) (by omega), w32_of (x := 47 * k + 1) (by omega) (by omega), w32_of (x := 2 * i) (by omega) (by omega), w32_of (x := 47 * k + 1 + 2 * i) (by omega) (by omega), w32_of (x := 47 * k + 1 + 2 * i + x) (by omega) (by omega), if_pos ⟨wk94 hT, by omega, by rw [wl94 hT]; omega⟩, show 47 * k + 1 + 2 * i + x = 47 * k + (1 + 2 * i + x) by omega]
theorem left_V (hT : WT N) {k h g : Int} (hk : k = 0 ∨ k = 1) (e : N.1 85 48 = k) (h0 : 0 ≤ h) (h1 : h < 6) (g0 : 0 ≤ g) (g1 : g < 5) : fX11_left N 85 h g = some (N.1 94 (47 * k + (17 + (5 * h + g)))) := by
  unfold fX11_left
  rw [if_pos (wk85 hT), wp85_9 hT, e, w32_of (x := 47 * k) (by omega) (by omega), w32_of (x := 47 * k + 17) (by omega) (by omega), w32_of (x := 5 * h) (by omega) (by omega), w32_of (x := 47 * k + 17 + 5 * h) (by omega) (by omega), w32_of (x := 47 * k + 17 + 5 * h + g) (by omega) (by omega), if_pos ⟨wk94 hT, by omega, by rw [wl94 hT]; omega⟩, show 47 * k + 17 + 5 * h + g = 47 * k + (17 + (5 * h + g)) by omega]
def sgS (w : Int) (L : Int → Int) : Int := if w = 0 then L 0 else if 10 ≤ w ∧ w < 10 + L 0 then L (1 + 2 * (w - 10)) else if 20 ≤ w ∧ w < 20 + L 0 then L (2 + 2 * (w - 20)) else if 30 ≤ w ∧ w < 60 then L (17 + (w - 30)) else -2
set_option maxHeartbeats 1000000 in
theorem sight_E (h : INV2 M) (k w : Int) : TT (fX10_sight M 0 k w) (fun r => TT (fX11_sight M 85 k w) (fun u => r = u.1 ∧ Keep M u.2)) := by
  have hT := h.1.1
  have hc := cn_ hT (i := 3) (by decide) (by decide)
  refine TT.both (if 0 ≤ k ∧ k < M.1 3 3 then sgS w (fun y => M.1 94 (47 * k + y)) else -2) (sightX_T hT k w) (sightY_T hT k w) ?_ ?_
  · unfold fX10_sight
    rw [wp0_0 hT]
    refine PC.guard (fun _ => PC.guard (fun _ => ?_))
    rw [sightAt_V hT k]
    by_cases c : 0 ≤ k ∧ k < M.1 3 3
    rotate_left
    · rw [if_neg c, if_neg c]
      exact PC.bindE rfl (PC.pos rfl (PC.ok rfl))
    rw [if_pos c, if_pos c]
    obtain ⟨⟨e0, l0⟩, e1, e2⟩ := sightV_D h c.1 c.2
    have ha : SGA (23 + 19 * k) := SGA.of (by omega)
    have g0 := (gd0_ hT ha).1
    rw [e0] at g0
    refine PC.bindE rfl (PC.neg (by omega) ?_)
    rw [gp1_ hT ha, gp2_ hT ha, gp3_ hT ha, e0]
    unfold sgS
    simp only [Int.add_zero]
    refine PC.ite (fun z => PC.guard (fun _ => PC.ok (by rw [if_pos z]))) (fun z0 => ?_)
    rw [if_neg z0, w32_of (x := 10 + M.1 94 (47 * k)) (by omega) (by omega), w32_of (x := 20 + M.1 94 (47 * k)) (by omega) (by omega)]
    refine PC.join (fun _ => ¬(10 ≤ w ∧ w < 10 + M.1 94 (47 * k))) (fun _ n1 => ?_) (fun j hj => PC.ite (fun z => hj () (by omega)) (fun z => PC.guard (fun _ => PC.ite (fun z1 => PC.guard (fun _ => PC.ok ?_)) (fun z1 => hj () (by omega)))))
    rotate_left
    · rw [if_pos (by omega), w32_of (x := w - 10) (by omega) (by omega)]
      exact (e1 (w - 10) (by omega) (by omega)).1
    rw [if_neg n1]
    refine PC.join (fun _ => ¬(20 ≤ w ∧ w < 20 + M.1 94 (47 * k))) (fun _ n2 => ?_) (fun j hj => PC.ite (fun z => hj () (by omega)) (fun z => PC.guard (fun _ => PC.ite (fun z1 => PC.guard (fun _ => PC.ok ?_)) (fun z1 => hj () (by omega)))))
    rotate_left
    · rw [if_pos (by omega), w32_of (x := w - 20) (by omega) (by omega)]
      exact (e1 (w - 20) (by omega) (by omega)).2
    rw [if_neg n2]
    refine PC.ite (fun z => PC.ok (by rw [if_neg (by omega)])) (fun z => PC.ite (fun z1 => PC.guard (fun _ => PC.guard (fun _ => PC.ok ?_))) (fun z1 => PC.ok (by rw [if_neg (by omega)])))
    rw [if_pos (by omega), w32_of (x := w - 30) (by omega) (by omega)]
    exact e2 (w - 30) (by omega) (by omega)
  · unfold fX11_sight
    refine PC.guard (fun _ => PC.sM ?_)
    have hT2 : WT (mst M 85 0 0) := hT.keep m85
    have e90 : (mst M 85 0 0).1 90 3 = M.1 3 3 := by rw [mst_ne _ _ _ _ _ _ (by decide)]; exact cnt90 h (by decide) (by decide)
    refine PC.bindE (hasSight_V hT2 k) ?_
    rw [e90]
    by_cases c : 0 ≤ k ∧ k < M.1 3 3
    rotate_left
    · rw [if_neg c, if_neg c]
      exact PC.pos rfl (PC.ok rfl)
    rw [if_pos c, if_pos c]
    refine PC.neg n10 (PC.guard (fun _ => ?_))
    have hT3 : WT (mst (mst M 85 0 0) 85 48 k) := hT2.keep (Keep.self.st rfl)
    have f3 : ∀ y, (mst (mst M 85 0 0) 85 48 k).1 94 y = M.1 94 y := fun y => by rw [mst_ne _ _ _ _ _ _ (by decide), mst_ne _ _ _ _ _ _ (by decide)]
    have hk : k = 0 ∨ k = 1 := by omega
    have g0 := gf_ hT hk
    have e48 : (mst (mst M 85 0 0) 85 48 k).1 85 48 = k := mst_at _ _ _ _
    show PC ((fX11_gifts (mst (mst M 85 0 0) 85 48 k) 85).bind fun r7 => (fX11_in (mst (mst M 85 0 0) 85 48 k) w 10 (w32 (9 + r7))).bind _) _
    dsimp only
    generalize mst (mst M 85 0 0) 85 48 k = A at *
    have gv := gifts_V hT3 hk e48
    rw [f3] at gv
    rw [gv]
    unfold sgS
    simp only [Int.add_zero]
    refine PC.bindE rfl ?_
    rw [in_v2, w32_of (x := 9 + M.1 94 (47 * k)) (by omega) (by omega)]
    by_cases c1 : 10 ≤ w ∧ w ≤ 9 + M.1 94 (47 * k)
    · rw [if_pos c1, if_neg (show ¬ w = 0 by omega), if_pos (show 10 ≤ w ∧ w < 10 + M.1 94 (47 * k) by omega), w32_of (x := w - 10) (by omega) (by omega)]
      refine PC.bindE rfl (PC.neg n10 (PC.bindE (giftOf_V hT3 hk e48 (by omega) (by omega) (by decide) (by decide)) (PC.ok ?_)))
      rw [f3, show 1 + 2 * (w - 10) + 0 = 1 + 2 * (w - 10) by omega, if_neg (show ¬ w = 0 by omega)]
    rw [if_neg c1]
    refine PC.bindE rfl (PC.pos rfl (PC.bindE rfl ?_))
    rw [in_v2, w32_of (x := 19 + M.1 94 (47 * k)) (by omega) (by omega)]
    by_cases c2 : 20 ≤ w ∧ w ≤ 19 + M.1 94 (47 * k)
    · rw [if_pos c2, if_neg (show ¬ w = 0 by omega), if_neg (show ¬(10 ≤ w ∧ w < 10 + M.1 94 (47 * k)) by omega), if_pos (show 20 ≤ w ∧ w < 20 + M.1 94 (47 * k) by omega), w32_of (x := w - 20) (by omega) (by omega)]
      refine PC.bindE rfl (PC.neg n10 (PC.bindE (giftOf_V hT3 hk e48 (by omega) (by omega) (by decide) (by decide)) (PC.ok ?_)))
      rw [f3, show 1 + 2 * (w - 20) + 1 = 2 + 2 * (w - 20) by omega, if_neg (show ¬ w = 0 by omega)]
    rw [if_neg c2]
    refine PC.bindE rfl (PC.pos rfl (PC.ite (fun z => PC.bindE rfl (PC.ok (by rw [if_pos z]))) (fun z => ?_)))
    rw [in_v2, if_neg z, if_neg (show ¬(10 ≤ w ∧ w < 10 + M.1 94 (47 * k)) by omega), if_neg (show ¬(20 ≤ w ∧ w < 20 + M.1 94 (47 * k)) by omega)]
    by_cases c3 : 30 ≤ w ∧ w ≤ 59
    · rw [if_pos c3, if_pos (show 30 ≤ w ∧ w < 60 by omega), w32_of (x := w - 30) (by omega) (by omega), Int.tdiv_eq_ediv_of_nonneg (show 0 ≤ w - 30 by omega), Int.tmod_eq_emod_of_nonneg (show 0 ≤ w - 30 by omega), w32_of (x := (w - 30) / 5) (by omega) (by omega)]
      refine PC.bindE rfl (PC.neg n10 (PC.bindE (left_V hT3 hk e48 (by omega) (by omega) (by omega) (by omega)) (PC.ok ?_)))
      rw [f3, show 17 + (5 * ((w - 30) / 5) + (w - 30) % 5) = 17 + (w - 30) by omega]
    · rw [if_neg c3, if_neg (show ¬(30 ≤ w ∧ w < 60) by omega)]
      exact PC.bindE rfl (PC.pos rfl (PC.ok rfl))
end Calls3
