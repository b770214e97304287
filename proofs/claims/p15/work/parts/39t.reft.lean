/-! the reference's calls from the top -/
section RefT
variable {M : Mem}
set_option maxHeartbeats 1000000 in
theorem houseY_T (hT_M : WT M) (x0 x1 x2 x3 : Int) : TT (fX11_house M 85 x0 x1 x2 x3) (fun r => Keep M r.2) := by
  unfold fX11_house
  refine TT.guard (wk85 hT_M) ?_
  refine TT.sM ?_
  have hK_M2 : Keep M (mst M 85 0 0) := Keep.self.st rfl
  generalize mst M 85 0 0 = M2 at *
  have hT_M2 := hT_M.keep hK_M2
  refine TT.bind (hand_T hT_M2 _) (fun r4 q_r4 => ?_)
  have hK_r4 := hK_M2.trans q_r4.2.1.1
  have hT_r4 := hT_M.keep hK_r4
  refine TT.ite (fun c1 => ?_) (fun c1 => ?_)
  · exact TT.ok hK_r4
  · have hR_r4 := q_r4.2.2 c1
    have hh_r4 := hR_r4.2.1
    have hv_r4 := hR_r4.2.2
    refine TT.guard (wk85 hT_r4) ?_
    refine TT.bind (isHouseR_T hT_r4 hR_r4 _) (fun r7 h_r7 => ?_)
    refine TT.ite (fun c2 => ?_) (fun c2 => ?_)
    · exact TT.ok hK_r4
    · have g_r7 := h_r7.use c2
      refine TT.bind (isGoodR_T _) (fun r11 h_r11 => ?_)
      refine TT.ite (fun c3 => ?_) (fun c3 => ?_)
      · exact TT.ok hK_r4
      · have g_r11 := h_r11.use c3
        refine TT.bind (in_T _ _ _) (fun r14 h_r14 => ?_)
        refine TT.ite (fun c4 => ?_) (fun c4 => ?_)
        · exact TT.ok hK_r4
        · have g_r14 := h_r14.use c4
          refine TT.ite (fun c5 => ?_) (fun c5 => ?_)
          · refine TT.bind (spareR_T hT_r4 hR_r4 _ _ (by omega) (by omega)) (fun r18 h_r18 => ?_)
            exact TT.ok hK_r4
          · refine TT.ite (fun c6 => ?_) (fun c6 => ?_)
            · refine TT.bind (lacksR_T hT_r4 hR_r4 _ _ (by omega) (by omega)) (fun r21 h_r21 => ?_)
              exact TT.ok hK_r4
            · refine TT.jI ?_
              refine TT.ite (fun c7 => ?_) (fun c7 => ?_)
              · refine TT.bind (of2_T hT_r4 hR_r4 (by rw [w32_of (x := 5 * x1) (by omega) (by omega), w32_of (x := 2 + ((5 * x1))) (by omega) (by omega), w32_of (x := ((2 + ((5 * x1)))) + x2) (by omega) (by omega)]; omega) (by rw [w32_of (x := 5 * x1) (by omega) (by omega), w32_of (x := 2 + ((5 * x1))) (by omega) (by omega), w32_of (x := ((2 + ((5 * x1)))) + x2) (by omega) (by omega)]; omega)) (fun r25 h_r25 => ?_)
                exact TT.ok hK_r4
              · refine TT.bind (of2_T hT_r4 hR_r4 (by rw [w32_of (x := 5 * x1) (by omega) (by omega), w32_of (x := 32 + ((5 * x1))) (by omega) (by omega), w32_of (x := ((32 + ((5 * x1)))) + x2) (by omega) (by omega)]; omega) (by rw [w32_of (x := 5 * x1) (by omega) (by omega), w32_of (x := 32 + ((5 * x1))) (by omega) (by omega), w32_of (x := ((32 + ((5 * x1)))) + x2) (by omega) (by omega)]; omega)) (fun r25 h_r25 => ?_)
                exact TT.ok hK_r4
set_option maxHeartbeats 1000000 in
theorem prizeY_T (hT_M : WT M) (x0 x1 x2 : Int) : TT (fX11_prize M 85 x0 x1 x2) (fun r => Keep M r.2) := by
  unfold fX11_prize
  refine TT.guard (wk85 hT_M) ?_
  refine TT.sM ?_
  have hK_M2 : Keep M (mst M 85 0 0) := Keep.self.st rfl
  generalize mst M 85 0 0 = M2 at *
  have hT_M2 := hT_M.keep hK_M2
  refine TT.bind (hand_T hT_M2 _) (fun r4 q_r4 => ?_)
  have hK_r4 := hK_M2.trans q_r4.2.1.1
  have hT_r4 := hT_M.keep hK_r4
  refine TT.ite (fun c1 => ?_) (fun c1 => ?_)
  · exact TT.ok hK_r4
  · have hR_r4 := q_r4.2.2 c1
    have hh_r4 := hR_r4.2.1
    have hv_r4 := hR_r4.2.2
    refine TT.guard (wk85 hT_r4) ?_
    refine TT.bind (isHouseR_T hT_r4 hR_r4 _) (fun r7 h_r7 => ?_)
    refine TT.ite (fun c2 => ?_) (fun c2 => ?_)
    · exact TT.ok hK_r4
    · have g_r7 := h_r7.use c2
      refine TT.bind (isHouseR_T hT_r4 hR_r4 _) (fun r11 h_r11 => ?_)
      refine TT.ite (fun c3 => ?_) (fun c3 => ?_)
      · exact TT.ok hK_r4
      · have g_r11 := h_r11.use c3
        refine TT.bind (prizeOfR_T hT_r4 hR_r4 _ _ (by omega)) (fun r14 h_r14 => ?_)
        exact TT.ok hK_r4
set_option maxHeartbeats 1000000 in
theorem evenY_T (hT_M : WT M) (x0 x1 : Int) : TT (fX11_even M 85 x0 x1) (fun r => Keep M r.2) := by
  unfold fX11_even
  refine TT.guard (wk85 hT_M) ?_
  refine TT.sM ?_
  have hK_M2 : Keep M (mst M 85 0 0) := Keep.self.st rfl
  generalize mst M 85 0 0 = M2 at *
  have hT_M2 := hT_M.keep hK_M2
  refine TT.bind (hand_T hT_M2 _) (fun r4 q_r4 => ?_)
  have hK_r4 := hK_M2.trans q_r4.2.1.1
  have hT_r4 := hT_M.keep hK_r4
  refine TT.ite (fun c1 => ?_) (fun c1 => ?_)
  · exact TT.ok hK_r4
  · have hR_r4 := q_r4.2.2 c1
    have hh_r4 := hR_r4.2.1
    have hv_r4 := hR_r4.2.2
    refine TT.bind (isGoodR_T _) (fun r7 h_r7 => ?_)
    refine TT.ite (fun c2 => ?_) (fun c2 => ?_)
    · exact TT.ok hK_r4
    · have g_r7 := h_r7.use c2
      refine TT.iter (fun (s : Int × Int) => 0 ≤ s.2 ∧ s.2 ≤ 6) (fun s => (6 - s.2).toNat) ?_ _ _ ⟨by (try dsimp only [w32]); omega, by (try dsimp only [w32]); omega⟩ (by unfold BIG; (try dsimp only [w32]); omega)
      rintro rec10 s11 ⟨hl_s11, hu_s11⟩ hr_rec10
      refine TT.guard (wk85 hT_r4) ?_
      refine TT.ite (fun c3 => ?_) (fun c3 => ?_)
      · refine TT.bind (of2_T hT_r4 hR_r4 (by rw [w32_of (x := 5 * s11.2) (by omega) (by omega), w32_of (x := 2 + ((5 * s11.2))) (by omega) (by omega), w32_of (x := ((2 + ((5 * s11.2)))) + x1) (by omega) (by omega)]; omega) (by rw [w32_of (x := 5 * s11.2) (by omega) (by omega), w32_of (x := 2 + ((5 * s11.2))) (by omega) (by omega), w32_of (x := ((2 + ((5 * s11.2)))) + x1) (by omega) (by omega)]; omega)) (fun r14 h_r14 => ?_)
        exact hr_rec10 _ ⟨by (try dsimp only [w32]); omega, by (try dsimp only [w32]); omega⟩ (by (try dsimp only [w32]); omega)
      · refine TT.guard (by first | omega | (simp only [w32]; omega)) ?_
        refine TT.guard (by first | omega | (simp only [w32]; omega)) ?_
        refine TT.iter (fun (s : Int × Int × Int) => 0 ≤ s.2.2 ∧ s.2.2 ≤ 6) (fun s => (6 - s.2.2).toNat) ?_ _ _ ⟨by (try dsimp only [w32]); omega, by (try dsimp only [w32]); omega⟩ (by unfold BIG; (try dsimp only [w32]); omega)
        rintro rec18 s19 ⟨hl_s19, hu_s19⟩ hr_rec18
        refine TT.ite (fun c4 => ?_) (fun c4 => ?_)
        · refine TT.bind (of2_T hT_r4 hR_r4 (by rw [w32_of (x := 5 * s19.2.2) (by omega) (by omega), w32_of (x := 2 + ((5 * s19.2.2))) (by omega) (by omega), w32_of (x := ((2 + ((5 * s19.2.2)))) + x1) (by omega) (by omega)]; omega) (by rw [w32_of (x := 5 * s19.2.2) (by omega) (by omega), w32_of (x := 2 + ((5 * s19.2.2))) (by omega) (by omega), w32_of (x := ((2 + ((5 * s19.2.2)))) + x1) (by omega) (by omega)]; omega)) (fun r21 h_r21 => ?_)
          refine TT.bind (greater_T _ _) (fun r23 h_r23 => ?_)
          refine TT.ite (fun c5 => ?_) (fun c5 => ?_)
          · exact hr_rec18 _ ⟨by (try dsimp only [w32]); omega, by (try dsimp only [w32]); omega⟩ (by (try dsimp only [w32]); omega)
          · exact hr_rec18 _ ⟨by (try dsimp only [w32]); omega, by (try dsimp only [w32]); omega⟩ (by (try dsimp only [w32]); omega)
        · refine TT.bind (lesser_T _ _) (fun r26 h_r26 => ?_)
          exact TT.ok hK_r4
set_option maxHeartbeats 1000000 in
theorem shareY_T (hT_M : WT M) (x0 x1 x2 : Int) : TT (fX11_share M 85 x0 x1 x2) (fun r => Keep M r.2) := by
  unfold fX11_share
  refine TT.guard (wk85 hT_M) ?_
  refine TT.sM ?_
  have hK_M2 : Keep M (mst M 85 0 0) := Keep.self.st rfl
  generalize mst M 85 0 0 = M2 at *
  have hT_M2 := hT_M.keep hK_M2
  refine TT.bind (hand_T hT_M2 _) (fun r4 q_r4 => ?_)
  have hK_r4 := hK_M2.trans q_r4.2.1.1
  have hT_r4 := hT_M.keep hK_r4
  refine TT.ite (fun c1 => ?_) (fun c1 => ?_)
  · exact TT.ok hK_r4
  · have hR_r4 := q_r4.2.2 c1
    have hh_r4 := hR_r4.2.1
    have hv_r4 := hR_r4.2.2
    refine TT.guard (wk85 hT_r4) ?_
    refine TT.bind (isHouseR_T hT_r4 hR_r4 _) (fun r7 h_r7 => ?_)
    refine TT.ite (fun c2 => ?_) (fun c2 => ?_)
    · exact TT.ok hK_r4
    · have g_r7 := h_r7.use c2
      refine TT.iter (fun (s : Int × Int) => 0 ≤ s.2 ∧ s.2 ≤ 6) (fun s => (6 - s.2).toNat) ?_ _ _ ⟨by (try dsimp only [w32]); omega, by (try dsimp only [w32]); omega⟩ (by unfold BIG; (try dsimp only [w32]); omega)
      rintro rec11 s12 ⟨hl_s12, hu_s12⟩ hr_rec11
      refine TT.ite (fun c3 => ?_) (fun c3 => ?_)
      · refine TT.bind (worthOfR_T hT_r4 hR_r4 _ (by omega)) (fun r14 h_r14 => ?_)
        exact hr_rec11 _ ⟨by (try dsimp only [w32]); omega, by (try dsimp only [w32]); omega⟩ (by (try dsimp only [w32]); omega)
      · refine TT.bind (worthOfR_T hT_r4 hR_r4 _ (by omega)) (fun r16 h_r16 => ?_)
        refine TT.bind (leastR_T (by assumption)) (fun r18 h_r18 => ?_)
        exact TT.ok hK_r4
set_option maxHeartbeats 1000000 in
theorem meetsY_T (hT_M : WT M) (x0 x1 x2 : Int) : TT (fX11_meets M 85 x0 x1 x2) (fun r => Keep M r.2) := by
  unfold fX11_meets
  refine TT.guard (wk85 hT_M) ?_
  refine TT.sM ?_
  have hK_M2 : Keep M (mst M 85 0 0) := Keep.self.st rfl
  generalize mst M 85 0 0 = M2 at *
  have hT_M2 := hT_M.keep hK_M2
  refine TT.bind (hand_T hT_M2 _) (fun r4 q_r4 => ?_)
  have hK_r4 := hK_M2.trans q_r4.2.1.1
  have hT_r4 := hT_M.keep hK_r4
  refine TT.ite (fun c1 => ?_) (fun c1 => ?_)
  · exact TT.ok hK_r4
  · have hR_r4 := q_r4.2.2 c1
    have hh_r4 := hR_r4.2.1
    have hv_r4 := hR_r4.2.2
    refine TT.guard (wk85 hT_r4) ?_
    refine TT.bind (isHouseR_T hT_r4 hR_r4 _) (fun r7 h_r7 => ?_)
    refine TT.ite (fun c2 => ?_) (fun c2 => ?_)
    · exact TT.ok hK_r4
    · have g_r7 := h_r7.use c2
      refine TT.bind (isHouseR_T hT_r4 hR_r4 _) (fun r11 h_r11 => ?_)
      refine TT.ite (fun c3 => ?_) (fun c3 => ?_)
      · exact TT.ok hK_r4
      · have g_r11 := h_r11.use c3
        refine TT.iter (fun (s : Int × Int × Int) => (0 ≤ s.2.2 ∧ s.2.2 ≤ 41) ∧ (0 ≤ s.1 ∧ s.1 < 6) ∧ 0 ≤ s.2.1 ∧ s.2.1 < 6) (fun s => (41 - s.2.2).toNat) ?_ _ _ (by (try dsimp only [w32]); omega) (by unfold BIG; (try dsimp only [w32]); omega)
        rintro rec14 s15 ⟨⟨hl1, hu1⟩, ⟨hl2, hu2⟩, hl3, hu3⟩ hr_rec14
        refine TT.ite (fun c4 => ?_) (fun c4 => ?_)
        · exact TT.ok hK_r4
        · refine TT.ite (fun c5 => ?_) (fun c5 => ?_)
          · exact TT.ok hK_r4
          · refine TT.bind (of68_T hT_r4 hR_r4 (by rw [w32_of (x := 68 + s15.1) (by omega) (by omega)]; omega) (by rw [w32_of (x := 68 + s15.1) (by omega) (by omega)]; omega)) (fun r18 h_r18 => ?_)
            refine TT.bind (of68_T hT_r4 hR_r4 (by rw [w32_of (x := 68 + s15.2.1) (by omega) (by omega)]; omega) (by rw [w32_of (x := 68 + s15.2.1) (by omega) (by omega)]; omega)) (fun r20 h_r20 => ?_)
            exact hr_rec14 _ (by (try dsimp only [w32]); omega) (by (try dsimp only [w32]); omega)
theorem dv6 {y : Int} (h0 : 0 ≤ y) (h1 : y ≤ 36) : 0 ≤ w32 (y.tdiv 6) ∧ 0 ≤ y.tmod 6 := by
  rw [Int.tdiv_eq_ediv_of_nonneg h0, Int.tmod_eq_emod_of_nonneg h0, w32_of (by omega) (by omega)]; omega
set_option maxHeartbeats 1000000 in
theorem townY_T (hT_M : WT M) (x0 x1 : Int) : TT (fX11_town M 85 x0 x1) (fun r => Keep M r.2) := by
  unfold fX11_town
  refine TT.guard (wk85 hT_M) ?_
  refine TT.sM ?_
  have hK_M2 : Keep M (mst M 85 0 0) := Keep.self.st rfl
  generalize mst M 85 0 0 = M2 at *
  have hT_M2 := hT_M.keep hK_M2
  refine TT.bind (hand_T hT_M2 _) (fun r4 q_r4 => ?_)
  have hK_r4 := hK_M2.trans q_r4.2.1.1
  have hT_r4 := hT_M.keep hK_r4
  refine TT.ite (fun c1 => ?_) (fun c1 => ?_)
  · exact TT.ok hK_r4
  · have hR_r4 := q_r4.2.2 c1
    have hh_r4 := hR_r4.2.1
    have hv_r4 := hR_r4.2.2
    refine TT.ite (fun c2 => ?_) (fun c2 => ?_)
    · try rw [w32_of (x := x1.tdiv 10) (by omega) (by omega)] at c2
      refine TT.guard (wk85 hT_r4) ?_
      refine TT.bind (isHouseR_T hT_r4 hR_r4 _) (fun r8 h_r8 => ?_)
      refine TT.ite (fun c3 => ?_) (fun c3 => ?_)
      · exact TT.ok hK_r4
      · have g_r8 := h_r8.use c3
        refine TT.bind (of2_T hT_r4 hR_r4 (by rw [w32_of (x := 62 + (x1.tmod 10)) (by omega) (by omega)]; omega) (by rw [w32_of (x := 62 + (x1.tmod 10)) (by omega) (by omega)]; omega)) (fun r12 h_r12 => ?_)
        exact TT.ok hK_r4
    · try rw [w32_of (x := x1.tdiv 10) (by omega) (by omega)] at c2
      refine TT.ite (fun c4 => ?_) (fun c4 => ?_)
      · try rw [w32_of (x := x1.tdiv 10) (by omega) (by omega)] at c4
        refine TT.guard (wk85 hT_r4) ?_
        refine TT.bind (isHouseR_T hT_r4 hR_r4 _) (fun r15 h_r15 => ?_)
        refine TT.ite (fun c5 => ?_) (fun c5 => ?_)
        · exact TT.ok hK_r4
        · have g_r15 := h_r15.use c5
          refine TT.bind (of68_T hT_r4 hR_r4 (by rw [w32_of (x := 68 + (x1.tmod 10)) (by omega) (by omega)]; omega) (by rw [w32_of (x := 68 + (x1.tmod 10)) (by omega) (by omega)]; omega)) (fun r19 h_r19 => ?_)
          exact TT.ok hK_r4
      · try rw [w32_of (x := x1.tdiv 10) (by omega) (by omega)] at c4
        refine TT.ite (fun c6 => ?_) (fun c6 => ?_)
        · try rw [w32_of (x := x1.tdiv 10) (by omega) (by omega)] at c6
          refine TT.bind (isGoodR_T _) (fun r22 h_r22 => ?_)
          refine TT.ite (fun c7 => ?_) (fun c7 => ?_)
          · exact TT.ok hK_r4
          · have g_r22 := h_r22.use c7
            refine TT.guard (wk85 hT_r4) ?_
            refine TT.bind (of74_T hT_r4 hR_r4 (by rw [w32_of (x := 74 + (x1.tmod 10)) (by omega) (by omega)]; omega) (by rw [w32_of (x := 74 + (x1.tmod 10)) (by omega) (by omega)]; omega)) (fun r25 h_r25 => ?_)
            exact TT.ok hK_r4
        · try rw [w32_of (x := x1.tdiv 10) (by omega) (by omega)] at c6
          refine TT.ite (fun c8 => ?_) (fun c8 => ?_)
          · try rw [w32_of (x := x1.tdiv 10) (by omega) (by omega)] at c8
            refine TT.bind (isGoodR_T _) (fun r29 h_r29 => ?_)
            refine TT.ite (fun c9 => ?_) (fun c9 => ?_)
            · exact TT.ok hK_r4
            · have g_r29 := h_r29.use c9
              refine TT.guard (wk85 hT_r4) ?_
              refine TT.bind (of74_T hT_r4 hR_r4 (by rw [w32_of (x := 79 + (x1.tmod 10)) (by omega) (by omega)]; omega) (by rw [w32_of (x := 79 + (x1.tmod 10)) (by omega) (by omega)]; omega)) (fun r32 h_r32 => ?_)
              exact TT.ok hK_r4
          · try rw [w32_of (x := x1.tdiv 10) (by omega) (by omega)] at c8
            refine TT.ite (fun c10 => ?_) (fun c10 => ?_)
            · try rw [w32_of (x := x1.tdiv 10) (by omega) (by omega)] at c10
              refine TT.guard (wk85 hT_r4) ?_
              refine TT.bind (isThiefR_T hT_r4 hR_r4 _) (fun r36 h_r36 => ?_)
              refine TT.ite (fun c11 => ?_) (fun c11 => ?_)
              · exact TT.ok hK_r4
              · have g_r36 := h_r36.use c11
                refine TT.bind (of84_T hT_r4 hR_r4 (by rw [w32_of (x := 84 + (x1.tmod 10)) (by omega) (by omega)]; omega) (by rw [w32_of (x := 84 + (x1.tmod 10)) (by omega) (by omega)]; omega)) (fun r40 h_r40 => ?_)
                exact TT.ok hK_r4
            · try rw [w32_of (x := x1.tdiv 10) (by omega) (by omega)] at c10
              refine TT.ite (fun c12 => ?_) (fun c12 => ?_)
              · try rw [w32_of (x := x1.tdiv 10) (by omega) (by omega)] at c12
                refine TT.guard (wk85 hT_r4) ?_
                refine TT.bind (isThiefR_T hT_r4 hR_r4 _) (fun r43 h_r43 => ?_)
                refine TT.ite (fun c13 => ?_) (fun c13 => ?_)
                · exact TT.ok hK_r4
                · have g_r43 := h_r43.use c13
                  refine TT.bind (ofA_T hT_r4 hR_r4 (by rw [w32_of (x := 88 + (x1.tmod 10)) (by omega) (by omega)]; omega) (by rw [w32_of (x := 88 + (x1.tmod 10)) (by omega) (by omega)]; omega)) (fun r47 h_r47 => ?_)
                  exact TT.ok hK_r4
              · try rw [w32_of (x := x1.tdiv 10) (by omega) (by omega)] at c12
                refine TT.bind (in_T _ _ _) (fun r49 h_r49 => ?_)
                refine TT.ite (fun c14 => ?_) (fun c14 => ?_)
                · exact TT.ok hK_r4
                · have g_r49 := h_r49.use c14
                  refine TT.guard (wk85 hT_r4) ?_
                  refine TT.bind (ofA_T hT_r4 hR_r4 (by omega) (by omega)) (fun r52 h_r52 => ?_)
                  exact TT.ok hK_r4
set_option maxHeartbeats 1000000 in
theorem faultY_T (hT_M : WT M) (x0 : Int) : TT (fX11_fault M 85 x0) (fun r => Keep M r.2) := by
  unfold fX11_fault
  refine TT.guard (wk85 hT_M) ?_
  refine TT.sM ?_
  have hK_M2 : Keep M (mst M 85 0 0) := Keep.self.st rfl
  generalize mst M 85 0 0 = M2 at *
  have hT_M2 := hT_M.keep hK_M2
  refine TT.ite (fun c1 => ?_) (fun c1 => ?_)
  · refine TT.guard ⟨(by rw [wp85_3 hT_M2]; exact wk88 hT_M2), by omega, by rw [wp85_3 hT_M2, wl88 hT_M2]; omega⟩ ?_
    exact TT.ok hK_M2
  · refine TT.ite (fun c2 => ?_) (fun c2 => ?_)
    · refine TT.guard ⟨(by rw [wp85_4 hT_M2]; exact wk89 hT_M2), by omega, by rw [wp85_4 hT_M2, wl89 hT_M2]; omega⟩ ?_
      exact TT.ok hK_M2
    · exact TT.ok hK_M2
set_option maxHeartbeats 1000000 in
theorem countY_T (hT_M : WT M) (x0 : Int) : TT (fX11_count M 85 x0) (fun r => Keep M r.2) := by
  unfold fX11_count
  refine TT.guard (wk85 hT_M) ?_
  refine TT.sM ?_
  have hK_M2 : Keep M (mst M 85 0 0) := Keep.self.st rfl
  generalize mst M 85 0 0 = M2 at *
  have hT_M2 := hT_M.keep hK_M2
  refine TT.bind (in_T _ _ _) (fun r4 h_r4 => ?_)
  refine TT.ite (fun c1 => ?_) (fun c1 => ?_)
  · exact TT.ok hK_M2
  · have g_r4 := h_r4.use c1
    refine TT.guard ⟨(by rw [wp85_5 hT_M2]; exact wk90 hT_M2), by omega, by rw [wp85_5 hT_M2, wl90 hT_M2]; omega⟩ ?_
    exact TT.ok hK_M2
set_option maxHeartbeats 1000000 in
theorem crewY_T (hT_M : WT M) (x0 x1 x2 : Int) : TT (fX11_crew M 85 x0 x1 x2) (fun r => Keep M r.2) := by
  unfold fX11_crew
  refine TT.guard (wk85 hT_M) ?_
  refine TT.sM ?_
  have hK_M2 : Keep M (mst M 85 0 0) := Keep.self.st rfl
  generalize mst M 85 0 0 = M2 at *
  have hT_M2 := hT_M.keep hK_M2
  refine TT.bind (hand_T hT_M2 _) (fun r4 q_r4 => ?_)
  have hK_r4 := hK_M2.trans q_r4.2.1.1
  have hT_r4 := hT_M.keep hK_r4
  refine TT.ite (fun c1 => ?_) (fun c1 => ?_)
  · exact TT.ok hK_r4
  · have hR_r4 := q_r4.2.2 c1
    have hh_r4 := hR_r4.2.1
    have hv_r4 := hR_r4.2.2
    refine TT.bind (in_T _ _ _) (fun r7 h_r7 => ?_)
    refine TT.ite (fun c2 => ?_) (fun c2 => ?_)
    · exact TT.ok hK_r4
    · have g_r7 := h_r7.use c2
      refine TT.iter (fun (s : Int × Int) => 0 ≤ s.2 ∧ s.2 ≤ 16) (fun s => (16 - s.2).toNat) ?_ _ _ ⟨by (try dsimp only [w32]); omega, by (try dsimp only [w32]); omega⟩ (by unfold BIG; (try dsimp only [w32]); omega)
      rintro rec10 s11 ⟨hl_s11, hu_s11⟩ hr_rec10
      have hb := shl1 hv_r4.1 hv_r4.2
      refine TT.guard (wk85 hT_r4) ?_
      refine TT.ite (fun c3 => ?_) (fun c3 => ?_)
      · refine TT.bind (limitsR_T hT_r4 hR_r4 _ ) (fun r14 h_r14 => ?_)
        refine TT.ite (fun c4 => ?_) (fun c4 => ?_)
        · exact hr_rec10 _ ⟨by (try dsimp only [w32]); omega, by (try dsimp only [w32]); omega⟩ (by (try dsimp only [w32]); omega)
        · refine TT.ite (fun c5 => ?_) (fun c5 => ?_)
          · exact hr_rec10 _ ⟨by (try dsimp only [w32]); omega, by (try dsimp only [w32]); omega⟩ (by (try dsimp only [w32]); omega)
          · refine TT.bind (headsR_T hT_r4 hR_r4 _ ) (fun r18 h_r18 => ?_)
            refine TT.bind (headsR_T hT_r4 hR_r4 _ ) (fun r20 h_r20 => ?_)
            refine TT.ite (fun c6 => ?_) (fun c6 => ?_)
            · exact hr_rec10 _ ⟨by (try dsimp only [w32]); omega, by (try dsimp only [w32]); omega⟩ (by (try dsimp only [w32]); omega)
            · exact hr_rec10 _ ⟨by (try dsimp only [w32]); omega, by (try dsimp only [w32]); omega⟩ (by (try dsimp only [w32]); omega)
      · refine TT.ite (fun c7 => ?_) (fun c7 => ?_)
        · exact TT.ok hK_r4
        · refine TT.ite (fun c8 => ?_) (fun c8 => ?_)
          · refine TT.bind (headsR_T hT_r4 hR_r4 _ ) (fun r25 h_r25 => ?_)
            exact TT.ok hK_r4
          · exact TT.ok hK_r4
set_option maxHeartbeats 1000000 in
theorem restY_T (hT_M : WT M) (x0 x1 : Int) : TT (fX11_rest M 85 x0 x1) (fun r => Keep M r.2) := by
  unfold fX11_rest
  refine TT.guard (wk85 hT_M) ?_
  refine TT.sM ?_
  have hK_M2 : Keep M (mst M 85 0 0) := Keep.self.st rfl
  generalize mst M 85 0 0 = M2 at *
  have hT_M2 := hT_M.keep hK_M2
  refine TT.bind (hand_T hT_M2 _) (fun r4 q_r4 => ?_)
  have hK_r4 := hK_M2.trans q_r4.2.1.1
  have hT_r4 := hT_M.keep hK_r4
  refine TT.ite (fun c1 => ?_) (fun c1 => ?_)
  · exact TT.ok hK_r4
  · have hR_r4 := q_r4.2.2 c1
    have hh_r4 := hR_r4.2.1
    have hv_r4 := hR_r4.2.2
    refine TT.iter (fun (s : Int × Int) => 0 ≤ s.2 ∧ s.2 ≤ 36) (fun s => (36 - s.2).toNat) ?_ _ _ ⟨by (try dsimp only [w32]); omega, by (try dsimp only [w32]); omega⟩ (by unfold BIG; (try dsimp only [w32]); omega)
    rintro rec7 s8 ⟨hl_s8, hu_s8⟩ hr_rec7
    refine TT.ite (fun c2 => ?_) (fun c2 => ?_)
    · refine TT.guard (wk85 hT_r4) ?_
      refine TT.bind (isHouseR_T hT_r4 hR_r4 _) (fun r10 h_r10 => ?_)
      refine TT.ite (fun c3 => ?_) (fun c3 => ?_)
      · exact hr_rec7 _ ⟨by (try dsimp only [w32]); omega, by (try dsimp only [w32]); omega⟩ (by (try dsimp only [w32]); omega)
      · have g_r10 := h_r10.use c3
        refine TT.bind (isHouseR_T hT_r4 hR_r4 _) (fun r14 h_r14 => ?_)
        refine TT.ite (fun c4 => ?_) (fun c4 => ?_)
        · exact hr_rec7 _ ⟨by (try dsimp only [w32]); omega, by (try dsimp only [w32]); omega⟩ (by (try dsimp only [w32]); omega)
        · have g_r14 := h_r14.use c4
          refine TT.bind (isRestR_T hT_r4 hR_r4 _ _ (by omega) (by omega)) (fun r17 h_r17 => ?_)
          refine TT.ite (fun c5 => ?_) (fun c5 => ?_)
          · exact hr_rec7 _ ⟨by (try dsimp only [w32]); omega, by (try dsimp only [w32]); omega⟩ (by (try dsimp only [w32]); omega)
          · refine TT.ite (fun c6 => ?_) (fun c6 => ?_)
            · exact TT.ok hK_r4
            · exact hr_rec7 _ ⟨by (try dsimp only [w32]); omega, by (try dsimp only [w32]); omega⟩ (by (try dsimp only [w32]); omega)
    · refine TT.ite (fun c7 => ?_) (fun c7 => ?_)
      · exact TT.ok hK_r4
      · exact TT.ok hK_r4
set_option maxHeartbeats 1000000 in
theorem pairsY_T (hT_M : WT M) (x0 x1 : Int) : TT (fX11_pairs M 85 x0 x1) (fun r => Keep M r.2) := by
  unfold fX11_pairs
  refine TT.guard (wk85 hT_M) ?_
  refine TT.sM ?_
  have hK_M2 : Keep M (mst M 85 0 0) := Keep.self.st rfl
  generalize mst M 85 0 0 = M2 at *
  have hT_M2 := hT_M.keep hK_M2
  refine TT.bind (hand_T hT_M2 _) (fun r4 q_r4 => ?_)
  have hK_r4 := hK_M2.trans q_r4.2.1.1
  have hT_r4 := hT_M.keep hK_r4
  refine TT.ite (fun c1 => ?_) (fun c1 => ?_)
  · exact TT.ok hK_r4
  · have hR_r4 := q_r4.2.2 c1
    have hh_r4 := hR_r4.2.1
    have hv_r4 := hR_r4.2.2
    refine TT.iter (fun (s : Int × Int) => 0 ≤ s.2 ∧ s.2 ≤ 36) (fun s => (36 - s.2).toNat) ?_ _ _ ⟨by (try dsimp only [w32]); omega, by (try dsimp only [w32]); omega⟩ (by unfold BIG; (try dsimp only [w32]); omega)
    rintro rec7 s8 ⟨hl_s8, hu_s8⟩ hr_rec7
    have hv6 := dv6 hl_s8 hu_s8
    refine TT.ite (fun c2 => ?_) (fun c2 => ?_)
    · refine TT.ite (fun c3 => ?_) (fun c3 => ?_)
      · try rw [w32_of (x := s8.2.tdiv 6) (by omega) (by omega)] at c3
        refine TT.guard (wk85 hT_r4) ?_
        refine TT.ite (fun c4 => ?_) (fun c4 => ?_)
        · refine TT.bind (helpsR_T hT_r4 hR_r4 _ _ (by omega) (by omega)) (fun r13 h_r13 => ?_)
          refine TT.ite (fun c5 => ?_) (fun c5 => ?_)
          · exact hr_rec7 _ ⟨by (try dsimp only [w32]); omega, by (try dsimp only [w32]); omega⟩ (by (try dsimp only [w32]); omega)
          · refine TT.bind (helpsR_T hT_r4 hR_r4 _ _ (by omega) (by omega)) (fun r16 h_r16 => ?_)
            refine TT.ite (fun c6 => ?_) (fun c6 => ?_)
            · exact hr_rec7 _ ⟨by (try dsimp only [w32]); omega, by (try dsimp only [w32]); omega⟩ (by (try dsimp only [w32]); omega)
            · refine TT.ite (fun c7 => ?_) (fun c7 => ?_)
              · exact TT.ok hK_r4
              · exact hr_rec7 _ ⟨by (try dsimp only [w32]); omega, by (try dsimp only [w32]); omega⟩ (by (try dsimp only [w32]); omega)
        · exact hr_rec7 _ ⟨by (try dsimp only [w32]); omega, by (try dsimp only [w32]); omega⟩ (by (try dsimp only [w32]); omega)
      · try rw [w32_of (x := s8.2.tdiv 6) (by omega) (by omega)] at c3
        exact hr_rec7 _ ⟨by (try dsimp only [w32]); omega, by (try dsimp only [w32]); omega⟩ (by (try dsimp only [w32]); omega)
    · refine TT.ite (fun c8 => ?_) (fun c8 => ?_)
      · exact TT.ok hK_r4
      · exact TT.ok hK_r4
set_option maxHeartbeats 1000000 in
theorem haulY_T (hT_M : WT M) (x0 x1 x2 x3 x4 : Int) : TT (fX11_haul M 85 x0 x1 x2 x3 x4) (fun r => Keep M r.2) := by
  unfold fX11_haul
  refine TT.guard (wk85 hT_M) ?_
  refine TT.sM ?_
  have hK_M2 : Keep M (mst M 85 0 0) := Keep.self.st rfl
  generalize mst M 85 0 0 = M2 at *
  have hT_M2 := hT_M.keep hK_M2
  refine TT.bind (hand_T hT_M2 _) (fun r4 q_r4 => ?_)
  have hK_r4 := hK_M2.trans q_r4.2.1.1
  have hT_r4 := hT_M.keep hK_r4
  refine TT.ite (fun c1 => ?_) (fun c1 => ?_)
  · exact TT.ok hK_r4
  · have hR_r4 := q_r4.2.2 c1
    have hh_r4 := hR_r4.2.1
    have hv_r4 := hR_r4.2.2
    refine TT.guard (wk85 hT_r4) ?_
    refine TT.bind (isHouseR_T hT_r4 hR_r4 _) (fun r7 h_r7 => ?_)
    refine TT.ite (fun c2 => ?_) (fun c2 => ?_)
    · exact TT.ok hK_r4
    · have g_r7 := h_r7.use c2
      refine TT.bind (in_T _ _ _) (fun r11 h_r11 => ?_)
      refine TT.ite (fun c3 => ?_) (fun c3 => ?_)
      · exact TT.ok hK_r4
      · have g_r11 := h_r11.use c3
        refine TT.bind (in_T _ _ _) (fun r14 h_r14 => ?_)
        refine TT.ite (fun c4 => ?_) (fun c4 => ?_)
        · exact TT.ok hK_r4
        · have g_r14 := h_r14.use c4
          refine TT.jI ?_
          refine TT.ite (fun c5 => ?_) (fun c5 => ?_)
          · refine TT.iter (fun (s : Int × Int × Int) => -1 ≤ s.2.2 ∧ s.2.2 ≤ 99999) (fun s => (s.2.2 + 1).toNat) ?_ _ _ ⟨by (try dsimp only [w32]); omega, by (try dsimp only [w32]); omega⟩ (by unfold BIG; (try dsimp only [w32]); omega)
            rintro rec19 s20 ⟨hl_s20, hu_s20⟩ hr_rec19
            refine TT.ite (fun c6 => ?_) (fun c6 => ?_)
            · refine TT.ite (fun c7 => ?_) (fun c7 => ?_)
              · exact TT.ok hK_r4
              · refine TT.bind (figureR_T _ _ (by rw [w32_of (x := x4 - 10) (by omega) (by omega)]; omega)) (fun r23 h_r23 => ?_)
                exact TT.ok hK_r4
            · refine TT.bind (haulWorthR_T hT_r4 hR_r4 _ _ _ _ (by omega)) (fun r25 h_r25 => ?_)
              refine TT.jI ?_
              refine TT.ite (fun c8 => ?_) (fun c8 => ?_)
              · refine TT.bind (greater_T _ _) (fun r29 h_r29 => ?_)
                exact hr_rec19 _ ⟨by (try dsimp only [w32]); omega, by (try dsimp only [w32]); omega⟩ (by (try dsimp only [w32]); omega)
              · refine TT.bind (greater_T _ _) (fun r29 h_r29 => ?_)
                exact hr_rec19 _ ⟨by (try dsimp only [w32]); omega, by (try dsimp only [w32]); omega⟩ (by (try dsimp only [w32]); omega)
          · refine TT.bind (in_T _ _ _) (fun r33 h_r33 => ?_)
            refine TT.ite (fun c9 => ?_) (fun c9 => ?_)
            · exact TT.ok hK_r4
            · have g_r33 := h_r33.use c9
              refine TT.iter (fun (s : Int × Int × Int) => -1 ≤ s.2.2 ∧ s.2.2 ≤ 99999) (fun s => (s.2.2 + 1).toNat) ?_ _ _ ⟨by (try dsimp only [w32]); omega, by (try dsimp only [w32]); omega⟩ (by unfold BIG; (try dsimp only [w32]); omega)
              rintro rec19 s20 ⟨hl_s20, hu_s20⟩ hr_rec19
              refine TT.ite (fun c10 => ?_) (fun c10 => ?_)
              · refine TT.ite (fun c11 => ?_) (fun c11 => ?_)
                · exact TT.ok hK_r4
                · refine TT.bind (figureR_T _ _ (by rw [w32_of (x := x4 - 10) (by omega) (by omega)]; omega)) (fun r23 h_r23 => ?_)
                  exact TT.ok hK_r4
              · refine TT.bind (haulWorthR_T hT_r4 hR_r4 _ _ _ _ (by omega)) (fun r25 h_r25 => ?_)
                refine TT.jI ?_
                refine TT.ite (fun c12 => ?_) (fun c12 => ?_)
                · refine TT.bind (greater_T _ _) (fun r29 h_r29 => ?_)
                  exact hr_rec19 _ ⟨by (try dsimp only [w32]); omega, by (try dsimp only [w32]); omega⟩ (by (try dsimp only [w32]); omega)
                · refine TT.bind (greater_T _ _) (fun r29 h_r29 => ?_)
                  exact hr_rec19 _ ⟨by (try dsimp only [w32]); omega, by (try dsimp only [w32]); omega⟩ (by (try dsimp only [w32]); omega)
theorem RLw.same {M N : Mem} (h : RLw M) (k : Keep M N) (e : N.1 85 27 = M.1 85 27) : RLw N := by
  unfold RLw at *
  rw [e, k.2 92 _ (scr_lo _ (by decide) (by decide) (by decide))]; exact h
theorem layAllR_T (hT : WT M) (t l n : Int) : TT (fX11_layAll M 85 t l n) (fun r => B01 r.1 ∧ (Keep M r.2 ∧ r.2.1 85 48 = M.1 85 48) ∧ (r.1 ≠ 0 → RH r.2 ∧ RLw r.2 ∧ RN r.2)) := by
  unfold fX11_layAll
  refine TT.guard (wk85 hT) (TT.bind (hasLaw_T hT l) (fun r1 q1 => ?_))
  have hK1 := q1.2.1.1
  have hT1 := hT.keep hK1
  have f1 := q1.2.1.2 48 (by decide)
  refine TT.ite (fun _ => TT.ok ⟨Or.inl rfl, ⟨hK1, f1⟩, fun h => absurd rfl h⟩) (fun c1 => TT.guard (wk85 hT1) (TT.bind (hasNights_T hT1 n) (fun r5 q5 => ?_)))
  have hK5 := hK1.trans q5.2.1.1
  have hT5 := hT.keep hK5
  have f5 : r5.2.1 85 48 = M.1 85 48 := (q5.2.1.2 48 (by decide)).trans f1
  have hQ5 := (q1.2.2 c1).same q5.2.1.1 (q5.2.1.2 27 (by decide))
  refine TT.ite (fun _ => TT.ok ⟨Or.inl rfl, ⟨hK5, f5⟩, fun h => absurd rfl h⟩) (fun c5 => TT.guard (wk85 hT5) (TT.bind (hand_T hT5 t) (fun r9 q9 => ?_)))
  have hK9 := hK5.trans q9.2.1.1
  have f9 : r9.2.1 85 48 = M.1 85 48 := (q9.2.1.2 48 (by decide)).trans f5
  refine TT.ite (fun _ => TT.ok ⟨Or.inl rfl, ⟨hK9, f9⟩, fun h => absurd rfl h⟩) (fun c9 => TT.ok ⟨Or.inr rfl, ⟨hK9, f9⟩, fun _ => ⟨q9.2.2 c9, hQ5.same q9.2.1.1 (q9.2.1.2 27 (by decide)), ?_⟩⟩)
  show r9.2.1 85 28 = 0 ∨ r9.2.1 85 28 = 1
  rw [q9.2.1.2 28 (by decide)]; exact q5.2.2 c5
theorem deedsR_T (hT : WT M) (hN : RN M) : TT (fX11_deeds M 85) (fun r => 0 ≤ r ∧ r ≤ 40) := by
  unfold fX11_deeds
  have h : 0 ≤ M.1 85 28 ∧ M.1 85 28 ≤ 1 := by rcases hN with e | e <;> omega
  rw [wp85_8 hT, w32_of (x := 161 * M.1 85 28) (by omega) (by omega)]
  refine TT.guard (wk85 hT) (TT.guard ⟨wk93 hT, by omega, by rw [wl93 hT]; omega⟩ (TT.ok ?_))
  rcases hN with e | e
  · rw [e]; exact rows_at (p := (93, 0, 0, 0, 40)) hT.2.1 47 rfl (i := 161 * 0) (by decide) (by decide)
  · rw [e]; exact rows_at (p := (93, 161, 161, 0, 40)) hT.2.1 74 rfl (i := 161 * 1) (by decide) (by decide)
theorem layStateR_T (hT : WT M) (t l n k : Int) : TT (fX11_layState M 85 t l n k) (fun r => B01 r.1 ∧ Keep M r.2 ∧ (r.1 ≠ 0 → RH r.2 ∧ RLw r.2)) := by
  unfold fX11_layState
  refine TT.guard (wk85 hT) (TT.bind (layAllR_T hT t l n) (fun r1 q1 => ?_))
  have hK1 := q1.2.1.1
  have hT1 := hT.keep hK1
  refine TT.ite (fun _ => TT.ok ⟨Or.inl rfl, hK1, fun h => absurd rfl h⟩) (fun c1 => ?_)
  obtain ⟨hR, hQ, hN⟩ := q1.2.2 c1
  refine TT.guard (wk85 hT1) (TT.bind (deedsR_T hT1 hN) (fun r5 q5 => TT.bind (in_T _ _ _) (fun r8 q8 => TT.ite (fun _ => TT.ok ⟨Or.inl rfl, hK1, fun h => absurd rfl h⟩) (fun c8 => ?_))))
  have g8 := q8.use c8
  refine TT.bind (playR_T hT1 hR hQ hN k (by omega)) (fun r11 q => TT.ite (fun _ => TT.ok ⟨Or.inr rfl, hK1.trans q.2.1, fun _ => ⟨hR.rk q.2, hQ.rk q.2⟩⟩) (fun _ => TT.ok ⟨Or.inl rfl, hK1.trans q.2.1, fun h => absurd rfl h⟩))
theorem stopY_T (hT : WT M) (t l n : Int) : TT (fX11_stop M 85 t l n) (fun r => Keep M r.2) := by
  unfold fX11_stop
  refine TT.guard (wk85 hT) (TT.sM ?_)
  have hK2 : Keep M (mst M 85 0 0) := Keep.self.st rfl
  generalize mst M 85 0 0 = M2 at *
  have hT2 := hT.keep hK2
  refine TT.bind (layAllR_T hT2 t l n) (fun r q => TT.ite (fun _ => TT.ok (hK2.trans q.2.1.1)) (fun c => ?_))
  have hK := hK2.trans q.2.1.1
  have hTr := hT.keep hK
  obtain ⟨hR, hQ, hN⟩ := q.2.2 c
  exact TT.guard (wk85 hTr) (TT.bind (deedsR_T hTr hN) (fun r7 q7 => TT.bind (playR_T hTr hR hQ hN r7 q7.2) (fun r10 q10 => TT.ok (hK.trans q10.2.1))))
theorem stateY_T (hT : WT M) (t l n k x : Int) : TT (fX11_state M 85 t l n k x) (fun r => Keep M r.2) := by
  unfold fX11_state
  refine TT.guard (wk85 hT) (TT.sM ?_)
  have hK2 : Keep M (mst M 85 0 0) := Keep.self.st rfl
  generalize mst M 85 0 0 = M2 at *
  have hT2 := hT.keep hK2
  refine TT.bind (layStateR_T hT2 t l n k) (fun r q => TT.ite (fun _ => TT.ok (hK2.trans q.2.1)) (fun c => ?_))
  have hK := hK2.trans q.2.1
  have hTr := hT.keep hK
  obtain ⟨hR, hQ⟩ := q.2.2 c
  exact TT.ite (fun _ => TT.guard (wk85 hTr) (TT.ok hK)) (fun _ => TT.bind (in_T _ _ _) (fun r9 _ => TT.ite (fun _ => TT.guard (wk85 hTr) (TT.bind (ofStateR_T hTr hR hQ x) (fun _ _ => TT.ok hK))) (fun _ => TT.guard (wk85 hTr) (TT.bind (queuedR_T hTr hR hQ _) (fun _ _ => TT.ok hK)))))
theorem goodsY_T (hT : WT M) (t l n k x y z : Int) : TT (fX11_goods M 85 t l n k x y z) (fun r => Keep M r.2) := by
  unfold fX11_goods
  refine TT.guard (wk85 hT) (TT.sM ?_)
  have hK2 : Keep M (mst M 85 0 0) := Keep.self.st rfl
  generalize mst M 85 0 0 = M2 at *
  have hT2 := hT.keep hK2
  refine TT.bind (layStateR_T hT2 t l n k) (fun r q => TT.ite (fun _ => TT.ok (hK2.trans q.2.1)) (fun c => ?_))
  have hK := hK2.trans q.2.1
  have hTr := hT.keep hK
  obtain ⟨hR, hQ⟩ := q.2.2 c
  refine TT.bind (isGoodR_T z) (fun r7 q7 => TT.ite (fun _ => TT.ok hK) (fun c7 => ?_))
  have g7 := q7.use c7
  rw [wp85_29 hTr, wp85_30 hTr, wp85_31 hTr]
  refine TT.join (fun _ => ¬ (x = -1 ∧ y = -1)) (fun _ hxy => ?_) (fun j hj => TT.ite (fun e1 => TT.ite (fun _ => TT.ok hK) (fun e2 => hj () (fun h => e2 h.2))) (fun e1 => hj () (fun h => e1 h.1)))
  refine TT.join (fun _ => x = -1 ∨ (0 ≤ x ∧ x < 4)) (fun _ hx => ?_) (fun j hj => TT.ite (fun e1 => hj () (Or.inl e1)) (fun e1 => TT.guard (wk85 hTr) (TT.bind (isThiefR_T hTr hR x) (fun r32 q32 => TT.ite (fun _ => TT.ok hK) (fun c32 => hj () (Or.inr (by have := q32.use c32; omega)))))))
  refine TT.join (fun _ => y = -1 ∨ (0 ≤ y ∧ y < 6)) (fun _ hy => ?_) (fun j hj => TT.ite (fun e1 => hj () (Or.inl e1)) (fun e1 => TT.guard (wk85 hTr) (TT.bind (isHouseR_T hTr hR y) (fun r27 q27 => TT.ite (fun _ => TT.ok hK) (fun c27 => hj () (Or.inr (by have := q27.use c27; omega)))))))
  refine TT.ite (fun e1 => ?_) (fun e1 => TT.ite (fun e2 => ?_) (fun e2 => ?_))
  · have h6 := hy.resolve_left (fun e => hxy ⟨e1, e⟩)
    rw [w32_of (x := 5 * y) (by omega) (by omega), w32_of (x := 5 * y + z) (by omega) (by omega)]
    exact TT.guard (wk85 hTr) (TT.guard ⟨wk97 hTr, by omega, by rw [wl97 hTr]; omega⟩ (TT.ok hK))
  · have h4 := hx.resolve_left e1
    rw [w32_of (x := 5 * x) (by omega) (by omega), w32_of (x := 5 * x + z) (by omega) (by omega)]
    exact TT.guard (wk85 hTr) (TT.guard ⟨wk98 hTr, by omega, by rw [wl98 hTr]; omega⟩ (TT.ok hK))
  · have h4 := hx.resolve_left e1
    have h6 := hy.resolve_left e2
    exact TT.guard (wk85 hTr) (TT.bind (place_T (by omega) (by omega) (by omega) (by omega) (by omega) (by omega)) (fun r23 q23 => TT.guard ⟨wk99 hTr, by omega, by rw [wl99 hTr]; omega⟩ (TT.ok hK)))
set_option maxHeartbeats 1000000 in
theorem drawnY_T (hT : WT M) (t l sd n x : Int) : TT (fX11_drawn M 85 t l sd n x) (fun r => Keep M r.2) := by
  unfold fX11_drawn
  refine TT.guard (wk85 hT) (TT.sM ?_)
  have hK2 : Keep M (mst M 85 0 0) := Keep.self.st rfl
  generalize mst M 85 0 0 = M2 at *
  have hT2 := hT.keep hK2
  refine TT.bind (in_T _ _ _) (fun r4 q4 => TT.ite (fun _ => TT.ok hK2) (fun c4 => TT.bind (hasLaw_T hT2 l) (fun r7 q7 => ?_)))
  have g4 := q4.use c4
  have hK7 := hK2.trans q7.2.1.1
  have hT7 := hT.keep hK7
  refine TT.ite (fun _ => TT.ok hK7) (fun c7 => TT.guard (wk85 hT7) (TT.bind (hand_T hT7 t) (fun r10 q10 => ?_)))
  have hK10 := hK7.trans q10.2.1.1
  have hT10 := hT.keep hK10
  have hQ10 := (q7.2.2 c7).same q10.2.1.1 (q10.2.1.2 27 (by decide))
  refine TT.ite (fun _ => TT.ok hK10) (fun c10 => TT.guard (wk85 hT10) (TT.sM ?_))
  have hR10 := q10.2.2 c10
  have hW15 : RK r10.2 (mst r10.2 85 49 sd) := (RK.self _).st rfl (Or.inr (by decide))
  generalize mst r10.2 85 49 sd = M15 at *
  have hT15 := hT10.keep hW15.1
  have hK15 := hK10.trans hW15.1
  have hR15 := hR10.rk hW15
  have hQ15 := hQ10.rk hW15
  refine TT.bind (beginR_T hT15 hR15) (fun r17 q17 => ?_)
  refine TT.iter (fun (s : Int × Mem) => (0 ≤ s.1 ∧ s.1 ≤ 30) ∧ RK M15 s.2 ∧ BagB (36 * s.1) s.2) (fun s => (30 - s.1).toNat) ?_ _ _ ⟨⟨by dsimp only; omega, by dsimp only; omega⟩, q17.1, q17.2⟩ (by unfold BIG; dsimp only; omega)
  rintro rec s ⟨⟨hl, hu⟩, hW, hB⟩ hr
  have hTs := hT15.keep hW.1
  have hKs := hK15.trans hW.1
  have hRs := hR15.rk hW
  have hQs := hQ15.rk hW
  have hh := hRs.2.1
  refine TT.ite (fun c => ?_) (fun _ => ?_)
  · refine TT.iter (fun (u : Int × Mem) => (0 ≤ u.1 ∧ u.1 ≤ 4) ∧ RK M15 u.2 ∧ BagB (36 * s.1 + 9 * u.1) u.2) (fun u => (4 - u.1).toNat) ?_ _ _ ⟨⟨by dsimp only; omega, by dsimp only; omega⟩, hW, by dsimp only; rw [Int.mul_zero, Int.add_zero]; exact hB⟩ (by unfold BIG; dsimp only; omega)
    rintro rec2 u ⟨⟨hl2, hu2⟩, hW2, hB2⟩ hr2
    have hTu := hT15.keep hW2.1
    have hRu := hR15.rk hW2
    have hQu := hQ15.rk hW2
    have hv := hRu.2.2
    have e9 : w32 (u.1 + 1) = u.1 + 1 := w32_of (by omega) (by omega)
    refine TT.guard (wk85 hTu) (TT.ite (fun c2 => TT.bind (has_T _ _) (fun r26 _ => TT.ite (fun _ => ?_) (fun _ => ?_))) (fun _ => ?_))
    · refine TT.bind (drawThiefR_T hTu hRu hQu hB2 (by omega) (by omega) u.1 hl2 (by omega)) (fun r29 q29 => hr2 _ ⟨⟨by dsimp only [w32]; omega, by dsimp only [w32]; omega⟩, hW2.trans q29.1, ?_⟩ (by dsimp only [w32]; omega))
      show BagB (36 * s.1 + 9 * w32 (u.1 + 1)) r29
      rw [e9]; exact q29.2.up (by omega)
    · refine hr2 _ ⟨⟨by dsimp only [w32]; omega, by dsimp only [w32]; omega⟩, hW2, ?_⟩ (by dsimp only [w32]; omega)
      show BagB (36 * s.1 + 9 * w32 (u.1 + 1)) u.2
      rw [e9]; exact hB2.up (by omega)
    · refine TT.bind (endsR_T hTu hRu hQu) (fun r31 q31 => hr _ ⟨⟨by dsimp only [w32]; omega, by dsimp only [w32]; omega⟩, hW2.trans q31.1, ?_⟩ (by dsimp only [w32]; omega))
      show BagB (36 * w32 (s.1 + 1)) r31
      rw [w32_of (x := s.1 + 1) (by omega) (by omega)]; exact (hB2.rb q31).up (by omega)
  · rw [w32_of (x := 5 * s.2.1 85 25) (by omega) (by omega), w32_of (x := 69 + 5 * s.2.1 85 25) (by omega) (by omega), wp85_29 hTs]
    refine TT.guard (wk85 hTs) (TT.bind (in_T _ _ _) (fun r34 q34 => TT.ite (fun _ => TT.bind (ofStateR_T hTs hRs hQs x) (fun _ _ => TT.ok hKs)) (fun c34 => ?_)))
    have g := q34.use c34
    rw [w32_of (x := x - 70) (by omega) (by omega)]
    exact TT.guard ⟨wk97 hTs, by omega, by rw [wl97 hTs]; omega⟩ (TT.ok hKs)
set_option maxHeartbeats 1000000 in
theorem isDoubleL_T (hT_M : WT M) (hQ_M : RLw M) (n : Int) : TT (fX11_isDouble M 85 n) (fun r => B01 r) := by
  unfold fX11_isDouble
  refine TT.bind (in_T _ _ _) (fun r1 h_r1 => ?_)
  refine TT.ite (fun c1 => ?_) (fun c1 => ?_)
  · exact TT.ok (Or.inl rfl)
  · have g_r1 := h_r1.use c1
    refine TT.guard (wk85 hT_M) ?_
    refine TT.bind (lawOf_T hT_M hQ_M (by first | decide | omega) (by first | decide | omega)) (fun r4 h_r4 => ?_)
    refine TT.bind (has_T _ _) (fun r7 h_r7 => ?_)
    refine TT.ite (fun c2 => ?_) (fun c2 => ?_)
    · exact TT.ok (Or.inl rfl)
    · exact TT.ok (Or.inr rfl)
set_option maxHeartbeats 1000000 in
theorem doublesL_T (hT_M : WT M) (hQ_M : RLw M) (x y : Int) (hx : 0 ≤ x ∧ x ≤ 61) (hy : y ≤ 60) : TT (fX11_doubles M 85 x y) (fun r => True) := by
  unfold fX11_doubles
  refine TT.iter (fun (s : Int × Int) => 0 ≤ s.2 ∧ s.2 ≤ 61) (fun s => (61 - s.2).toNat) ?_ _ _ ⟨by (try dsimp only [w32]); omega, by (try dsimp only [w32]); omega⟩ (by unfold BIG; (try dsimp only [w32]); omega)
  rintro rec1 s2 ⟨hl_s2, hu_s2⟩ hr_rec1
  refine TT.ite (fun c1 => ?_) (fun c1 => ?_)
  · exact TT.ok trivial
  · refine TT.guard (wk85 hT_M) ?_
    refine TT.bind (isDoubleL_T hT_M hQ_M _) (fun r4 h_r4 => ?_)
    refine TT.ite (fun c2 => ?_) (fun c2 => ?_)
    · exact hr_rec1 _ ⟨by (try dsimp only [w32]); omega, by (try dsimp only [w32]); omega⟩ (by (try dsimp only [w32]); omega)
    · exact hr_rec1 _ ⟨by (try dsimp only [w32]); omega, by (try dsimp only [w32]); omega⟩ (by (try dsimp only [w32]); omega)
set_option maxHeartbeats 1000000 in
theorem giftsByL_T (hT_M : WT M) (hQ_M : RLw M) (o g x y : Int) (hx : 0 ≤ x ∧ x ≤ 61) (hy : y ≤ 60) : TT (fX11_giftsBy M 85 o g x y) (fun r => True) := by
  unfold fX11_giftsBy
  refine TT.guard (wk85 hT_M) ?_
  refine TT.bind (doublesL_T hT_M hQ_M _ _ (by omega) (by omega)) (fun r1 h_r1 => ?_)
  refine TT.bind (lesser_T _ _) (fun r4 h_r4 => ?_)
  refine TT.bind (greater_T _ _) (fun r6 h_r6 => ?_)
  refine TT.ite (fun c1 => ?_) (fun c1 => ?_)
  · exact TT.ok trivial
  · refine TT.ite (fun c2 => ?_) (fun c2 => ?_)
    · try rw [w32_of (x := y - x) (by omega) (by omega)] at c2
      try rw [w32_of (x := ((y - x)) + 1) (by omega) (by omega)] at c2
      try rw [w32_of (x := g * ((((y - x)) + 1))) (by omega) (by omega)] at c2
      try rw [w32_of (x := g * r1) (by omega) (by omega)] at c2
      try rw [w32_of (x := ((g * ((((y - x)) + 1)))) - ((g * r1))) (by omega) (by omega)] at c2
      exact TT.ok trivial
    · try rw [w32_of (x := y - x) (by omega) (by omega)] at c2
      try rw [w32_of (x := ((y - x)) + 1) (by omega) (by omega)] at c2
      try rw [w32_of (x := g * ((((y - x)) + 1))) (by omega) (by omega)] at c2
      try rw [w32_of (x := g * r1) (by omega) (by omega)] at c2
      try rw [w32_of (x := ((g * ((((y - x)) + 1)))) - ((g * r1))) (by omega) (by omega)] at c2
      exact TT.ok trivial
set_option maxHeartbeats 1000000 in
theorem lawY_T (hT_M : WT M) (x0 x1 : Int) : TT (fX11_law M 85 x0 x1) (fun r => Keep M r.2) := by
  unfold fX11_law
  refine TT.guard (wk85 hT_M) ?_
  refine TT.sM ?_
  have hK_M2 : Keep M (mst M 85 0 0) := Keep.self.st rfl
  generalize mst M 85 0 0 = M2 at *
  have hT_M2 := hT_M.keep hK_M2
  refine TT.bind (hasLaw_T hT_M2 _) (fun r4 q_r4 => ?_)
  have hK_r4 := hK_M2.trans q_r4.2.1.1
  have hT_r4 := hT_M.keep hK_r4
  refine TT.ite (fun c1 => ?_) (fun c1 => ?_)
  · exact TT.ok hK_r4
  · have hQ_r4 := q_r4.2.2 c1
    refine TT.bind (in_T _ _ _) (fun r7 h_r7 => ?_)
    refine TT.ite (fun c2 => ?_) (fun c2 => ?_)
    · refine TT.bind (in_T _ _ _) (fun r10 h_r10 => ?_)
      refine TT.ite (fun c3 => ?_) (fun c3 => ?_)
      · exact TT.ok hK_r4
      · have g_r10 := h_r10.use c3
        refine TT.guard (wk85 hT_r4) ?_
        refine TT.bind (isDoubleL_T hT_r4 hQ_r4 _) (fun r13 h_r13 => ?_)
        refine TT.ite (fun c4 => ?_) (fun c4 => ?_)
        · exact TT.ok hK_r4
        · exact TT.ok hK_r4
    · have g_r7 := h_r7.use c2
      refine TT.guard (wk85 hT_r4) ?_
      refine TT.bind (lawOf_T hT_r4 hQ_r4 (by first | decide | omega) (by first | decide | omega)) (fun r17 h_r17 => ?_)
      exact TT.ok hK_r4
set_option maxHeartbeats 1000000 in
theorem quitY_T (hT_M : WT M) (x0 x1 x2 x3 x4 : Int) : TT (fX11_quit M 85 x0 x1 x2 x3 x4) (fun r => Keep M r.2) := by
  unfold fX11_quit
  refine TT.guard (wk85 hT_M) ?_
  refine TT.sM ?_
  have hK_M2 : Keep M (mst M 85 0 0) := Keep.self.st rfl
  generalize mst M 85 0 0 = M2 at *
  have hT_M2 := hT_M.keep hK_M2
  refine TT.bind (hasLaw_T hT_M2 _) (fun r4 q_r4 => ?_)
  have hK_r4 := hK_M2.trans q_r4.2.1.1
  have hT_r4 := hT_M.keep hK_r4
  refine TT.ite (fun c1 => ?_) (fun c1 => ?_)
  · exact TT.ok hK_r4
  · have hQ_r4 := q_r4.2.2 c1
    refine TT.bind (in_T _ _ _) (fun r7 h_r7 => ?_)
    refine TT.ite (fun c2 => ?_) (fun c2 => ?_)
    · exact TT.ok hK_r4
    · have g_r7 := h_r7.use c2
      refine TT.bind (in_T _ _ _) (fun r10 h_r10 => ?_)
      refine TT.ite (fun c3 => ?_) (fun c3 => ?_)
      · exact TT.ok hK_r4
      · have g_r10 := h_r10.use c3
        refine TT.bind (in_T _ _ _) (fun r13 h_r13 => ?_)
        refine TT.ite (fun c4 => ?_) (fun c4 => ?_)
        · exact TT.ok hK_r4
        · have g_r13 := h_r13.use c4
          refine TT.bind (in_T _ _ _) (fun r16 h_r16 => ?_)
          refine TT.ite (fun c5 => ?_) (fun c5 => ?_)
          · exact TT.ok hK_r4
          · have g_r16 := h_r16.use c5
            refine TT.ite (fun c6 => ?_) (fun c6 => ?_)
            · refine TT.iter (fun (s : Int) => 0 ≤ s ∧ s ≤ 61) (fun s => (61 - s).toNat) ?_ _ _ ⟨by (try dsimp only [w32]); omega, by (try dsimp only [w32]); omega⟩ (by unfold BIG; (try dsimp only [w32]); omega)
              rintro rec20 s21 ⟨hl_s21, hu_s21⟩ hr_rec20
              refine TT.ite (fun c7 => ?_) (fun c7 => ?_)
              · exact TT.ok hK_r4
              · refine TT.guard (wk85 hT_r4) ?_
                refine TT.bind (giftsByL_T hT_r4 hQ_r4 _ _ _ _ (by omega) (by omega)) (fun r23 h_r23 => ?_)
                refine TT.ite (fun c8 => ?_) (fun c8 => ?_)
                · exact hr_rec20 _ ⟨by (try dsimp only [w32]); omega, by (try dsimp only [w32]); omega⟩ (by (try dsimp only [w32]); omega)
                · exact TT.ok hK_r4
            · refine TT.guard (wk85 hT_r4) ?_
              refine TT.bind (giftsByL_T hT_r4 hQ_r4 _ _ _ _ (by omega) (by omega)) (fun r27 h_r27 => ?_)
              exact TT.ok hK_r4
set_option maxHeartbeats 1000000 in
theorem carryOnR_T (hT_M : WT M) (hR_M : RH M) (h g : Int) (h6 : 0 ≤ h ∧ h < 6) (hg : 0 ≤ g ∧ g < 5) : TT (fX11_carryOn M 85 h g) (fun r => RB M r) := by
  unfold fX11_carryOn
  have hW_M := RB.self M
  refine TT.iter (fun (s : Int × Mem) => (0 ≤ s.1 ∧ s.1 ≤ 109) ∧ RB M s.2 ∧ WT s.2 ∧ RH s.2) (fun s => (109 - s.1).toNat) ?_ _ _ ⟨⟨by (try dsimp only [w32]); omega, by (try dsimp only [w32]); omega⟩, hW_M, hT_M, hR_M⟩ (by unfold BIG; (try dsimp only [w32]); omega)
  rintro rec1 s2 ⟨⟨hl_s2, hu_s2⟩, hW_s2, hT_s2, hR_s2⟩ hr_rec1
  have hh_s2 := hR_s2.2.1
  have hv_s2 := hR_s2.2.2
  refine TT.ite (fun c1 => ?_) (fun c1 => ?_)
  · refine TT.iter (fun (s : Int × Mem) => (0 ≤ s.1 ∧ s.1 ≤ 109) ∧ RB M s.2 ∧ WT s.2 ∧ RH s.2) (fun s => (109 - s.1).toNat) ?_ _ _ ⟨⟨by (try dsimp only [w32]); omega, by (try dsimp only [w32]); omega⟩, hW_s2, hT_s2, hR_s2⟩ (by unfold BIG; (try dsimp only [w32]); omega)
    rintro rec4 s5 ⟨⟨hl_s5, hu_s5⟩, hW_s5, hT_s5, hR_s5⟩ hr_rec4
    have hh_s5 := hR_s5.2.1
    have hv_s5 := hR_s5.2.2
    refine TT.ite (fun c2 => ?_) (fun c2 => ?_)
    · refine TT.iter (fun (s : Int × Mem) => (0 ≤ s.1 ∧ s.1 ≤ 109) ∧ RB M s.2 ∧ WT s.2 ∧ RH s.2) (fun s => (109 - s.1).toNat) ?_ _ _ ⟨⟨by (try dsimp only [w32]); omega, by (try dsimp only [w32]); omega⟩, hW_s5, hT_s5, hR_s5⟩ (by unfold BIG; (try dsimp only [w32]); omega)
      rintro rec7 s8 ⟨⟨hl_s8, hu_s8⟩, hW_s8, hT_s8, hR_s8⟩ hr_rec7
      have hh_s8 := hR_s8.2.1
      have hv_s8 := hR_s8.2.2
      refine TT.ite (fun c3 => ?_) (fun c3 => ?_)
      · exact TT.ok hW_s8
      · refine TT.guard (wk85 hT_s8) ?_
        refine TT.guard ⟨(by rw [wp85_47 hT_s8]; exact wk110 hT_s8), by omega, by rw [wp85_47 hT_s8, wl110 hT_s8]; omega⟩ ?_
        refine TT.guard ⟨(by rw [wp85_46 hT_s8]; exact wk109 hT_s8), by omega, by rw [wp85_46 hT_s8, wl109 hT_s8]; omega⟩ ?_
        refine TT.sr hW_s8 hT_s8 hR_s8 (by rw [wp85_46 hT_s8]; exact ⟨rfl, Or.inl (by decide), by decide⟩) (fun M13 e_M13 hW_M13 hT_M13 hR_M13 => ?_)
        exact hr_rec7 _ ⟨⟨by (try dsimp only [w32]); omega, by (try dsimp only [w32]); omega⟩, hW_M13, hT_M13, hR_M13⟩ (by (try dsimp only [w32]); omega)
    · refine TT.iter (fun (s : Int × Mem) => (0 ≤ s.1 ∧ s.1 ≤ 10) ∧ RB M s.2 ∧ WT s.2 ∧ RH s.2) (fun s => (10 - s.1).toNat) ?_ _ _ ⟨⟨by (try dsimp only [w32]); omega, by (try dsimp only [w32]); omega⟩, hW_s5, hT_s5, hR_s5⟩ (by unfold BIG; (try dsimp only [w32]); omega)
      rintro rec15 s16 ⟨⟨hl_s16, hu_s16⟩, hW_s16, hT_s16, hR_s16⟩ hr_rec15
      have hh_s16 := hR_s16.2.1
      have hv_s16 := hR_s16.2.2
      refine TT.guard (wk85 hT_s16) ?_
      refine TT.bind (spareR_T hT_s16 hR_s16 _ _ (by omega) (by omega)) (fun r17 h_r17 => ?_)
      refine TT.ite (fun c4 => ?_) (fun c4 => ?_)
      · exact hr_rec4 _ ⟨⟨by (try dsimp only [w32]); omega, by (try dsimp only [w32]); omega⟩, hW_s16, hT_s16, hR_s16⟩ (by (try dsimp only [w32]); omega)
      · refine TT.guard ⟨(by rw [wp85_46 hT_s16]; exact wk109 hT_s16), by omega, by rw [wp85_46 hT_s16, wl109 hT_s16]; omega⟩ ?_
        refine TT.ite (fun c5 => ?_) (fun c5 => ?_)
        · refine TT.bind (lacksR_T hT_s16 hR_s16 _ _ (by omega) (by omega)) (fun r23 h_r23 => ?_)
          refine TT.bind (in_T _ _ _) (fun r25 h_r25 => ?_)
          refine TT.ite (fun c6 => ?_) (fun c6 => ?_)
          · exact hr_rec15 _ ⟨⟨by (try dsimp only [w32]); omega, by (try dsimp only [w32]); omega⟩, hW_s16, hT_s16, hR_s16⟩ (by (try dsimp only [w32]); omega)
          · have g_r25 := h_r25.use c6
            rw [w32_of (x := s5.1 + s16.1) (by omega) (by omega), w32_of (x := ((s5.1 + s16.1)) - r23) (by omega) (by omega)] at g_r25
            refine TT.guard ⟨(by rw [wp85_47 hT_s16]; exact wk110 hT_s16), by rw [w32_of (x := s5.1 + s16.1) (by omega) (by omega), w32_of (x := ((s5.1 + s16.1)) - r23) (by omega) (by omega)]; omega, by rw [wp85_47 hT_s16, wl110 hT_s16, w32_of (x := s5.1 + s16.1) (by omega) (by omega), w32_of (x := ((s5.1 + s16.1)) - r23) (by omega) (by omega)]; omega⟩ ?_
            refine TT.guard ⟨(by rw [wp85_46 hT_s16]; exact wk109 hT_s16), by omega, by rw [wp85_46 hT_s16, wl109 hT_s16]; omega⟩ ?_
            refine TT.bind (size_T _) (fun r30 h_r30 => ?_)
            refine TT.bind (lesser_T _ _) (fun r32 h_r32 => ?_)
            refine TT.guard ⟨(by rw [wp85_47 hT_s16]; exact wk110 hT_s16), by rw [w32_of (x := s5.1 + s16.1) (by omega) (by omega), w32_of (x := ((s5.1 + s16.1)) - r23) (by omega) (by omega)]; omega, by rw [wp85_47 hT_s16, wl110 hT_s16, w32_of (x := s5.1 + s16.1) (by omega) (by omega), w32_of (x := ((s5.1 + s16.1)) - r23) (by omega) (by omega)]; omega⟩ ?_
            refine TT.sr hW_s16 hT_s16 hR_s16 (by rw [wp85_47 hT_s16]; exact ⟨rfl, Or.inl (by decide), by decide⟩) (fun M35 e_M35 hW_M35 hT_M35 hR_M35 => ?_)
            exact hr_rec15 _ ⟨⟨by (try dsimp only [w32]); omega, by (try dsimp only [w32]); omega⟩, hW_M35, hT_M35, hR_M35⟩ (by (try dsimp only [w32]); omega)
        · exact hr_rec4 _ ⟨⟨by (try dsimp only [w32]); omega, by (try dsimp only [w32]); omega⟩, hW_s16, hT_s16, hR_s16⟩ (by (try dsimp only [w32]); omega)
  · refine TT.guard (wk85 hT_s2) ?_
    refine TT.guard ⟨(by rw [wp85_47 hT_s2]; exact wk110 hT_s2), by omega, by rw [wp85_47 hT_s2, wl110 hT_s2]; omega⟩ ?_
    refine TT.sr hW_s2 hT_s2 hR_s2 (by rw [wp85_47 hT_s2]; exact ⟨rfl, Or.inl (by decide), by decide⟩) (fun M39 e_M39 hW_M39 hT_M39 hR_M39 => ?_)
    exact hr_rec1 _ ⟨⟨by (try dsimp only [w32]); omega, by (try dsimp only [w32]); omega⟩, hW_M39, hT_M39, hR_M39⟩ (by (try dsimp only [w32]); omega)
set_option maxHeartbeats 1000000 in
theorem carryGoodR_T (hT_M : WT M) (hR_M : RH M) (g : Int) (hg : 0 ≤ g ∧ g < 5) : TT (fX11_carryGood M 85 g) (fun r => Any r.1 ∧ RB M r.2) := by
  unfold fX11_carryGood
  have hW_M := RB.self M
  refine TT.iter (fun (s : Int × Mem) => (0 ≤ s.1 ∧ s.1 ≤ 109) ∧ RB M s.2 ∧ WT s.2 ∧ RH s.2) (fun s => (109 - s.1).toNat) ?_ _ _ ⟨⟨by (try dsimp only [w32]); omega, by (try dsimp only [w32]); omega⟩, hW_M, hT_M, hR_M⟩ (by unfold BIG; (try dsimp only [w32]); omega)
  rintro rec1 s2 ⟨⟨hl_s2, hu_s2⟩, hW_s2, hT_s2, hR_s2⟩ hr_rec1
  have hh_s2 := hR_s2.2.1
  have hv_s2 := hR_s2.2.2
  refine TT.ite (fun c1 => ?_) (fun c1 => ?_)
  · refine TT.iter (fun (s : Int × Mem) => (0 ≤ s.1 ∧ s.1 ≤ 6) ∧ RB M s.2 ∧ WT s.2 ∧ RH s.2) (fun s => (6 - s.1).toNat) ?_ _ _ ⟨⟨by (try dsimp only [w32]); omega, by (try dsimp only [w32]); omega⟩, hW_s2, hT_s2, hR_s2⟩ (by unfold BIG; (try dsimp only [w32]); omega)
    rintro rec4 s5 ⟨⟨hl_s5, hu_s5⟩, hW_s5, hT_s5, hR_s5⟩ hr_rec4
    have hh_s5 := hR_s5.2.1
    have hv_s5 := hR_s5.2.2
    refine TT.guard (wk85 hT_s5) ?_
    refine TT.ite (fun c2 => ?_) (fun c2 => ?_)
    · refine TT.bu hW_s5 hT_s5 hR_s5 (carryOnR_T hT_s5 hR_s5 _ _ (by omega) (by omega)) (fun r8 hW_r8 hT_r8 hR_r8 => ?_)
      exact hr_rec4 _ ⟨⟨by (try dsimp only [w32]); omega, by (try dsimp only [w32]); omega⟩, hW_r8, hT_r8, hR_r8⟩ (by (try dsimp only [w32]); omega)
    · refine TT.guard ⟨(by rw [wp85_46 hT_s5]; exact wk109 hT_s5), by omega, by rw [wp85_46 hT_s5, wl109 hT_s5]; omega⟩ ?_
      exact TT.ok ⟨trivial, hW_s5⟩
  · refine TT.guard (wk85 hT_s2) ?_
    refine TT.jI ?_
    refine TT.ite (fun c3 => ?_) (fun c3 => ?_)
    · refine TT.guard ⟨(by rw [wp85_46 hT_s2]; exact wk109 hT_s2), by omega, by rw [wp85_46 hT_s2, wl109 hT_s2]; omega⟩ ?_
      refine TT.sr hW_s2 hT_s2 hR_s2 (by rw [wp85_46 hT_s2]; exact ⟨rfl, Or.inl (by decide), by decide⟩) (fun M15 e_M15 hW_M15 hT_M15 hR_M15 => ?_)
      exact hr_rec1 _ ⟨⟨by (try dsimp only [w32]); omega, by (try dsimp only [w32]); omega⟩, hW_M15, hT_M15, hR_M15⟩ (by (try dsimp only [w32]); omega)
    · refine TT.guard ⟨(by rw [wp85_46 hT_s2]; exact wk109 hT_s2), by omega, by rw [wp85_46 hT_s2, wl109 hT_s2]; omega⟩ ?_
      refine TT.sr hW_s2 hT_s2 hR_s2 (by rw [wp85_46 hT_s2]; exact ⟨rfl, Or.inl (by decide), by decide⟩) (fun M15 e_M15 hW_M15 hT_M15 hR_M15 => ?_)
      exact hr_rec1 _ ⟨⟨by (try dsimp only [w32]); omega, by (try dsimp only [w32]); omega⟩, hW_M15, hT_M15, hR_M15⟩ (by (try dsimp only [w32]); omega)
theorem carryY_T (hT : WT M) (t : Int) : TT (fX11_carry M 85 t) (fun r => Keep M r.2) := by
  unfold fX11_carry
  refine TT.guard (wk85 hT) (TT.sM ?_)
  have hK2 : Keep M (mst M 85 0 0) := Keep.self.st rfl
  generalize mst M 85 0 0 = M2 at *
  have hT2 := hT.keep hK2
  refine TT.bind (hand_T hT2 t) (fun r q => ?_)
  have hK := hK2.trans q.2.1.1
  have hTr := hT.keep hK
  refine TT.ite (fun _ => TT.ok hK) (fun c => ?_)
  have hR := q.2.2 c
  have hh := hR.2.1
  refine TT.iter (fun (s : Int × Int × Mem) => (0 ≤ s.2.1 ∧ s.2.1 ≤ 5) ∧ RB r.2 s.2.2) (fun s => (5 - s.2.1).toNat) ?_ _ _ ⟨⟨by dsimp only; omega, by dsimp only; omega⟩, RB.self _⟩ (by unfold BIG; dsimp only; omega)
  rintro rec s ⟨⟨hl, hu⟩, hW⟩ hr
  have hTs := hTr.keep hW.1.1
  have hRs := hR.rk hW.1
  refine TT.ite (fun c1 => TT.guard (wk85 hTs) (TT.bind (carryGoodR_T hTs hRs s.2.1 ⟨hl, c1⟩) (fun r10 q10 => ?_))) (fun _ => TT.ok (hK.trans hW.1.1))
  have hW10 := hW.trans q10.2
  have hT10 := hTr.keep hW10.1.1
  rw [w32_of (x := 74 + s.2.1) (by omega) (by omega)]
  refine TT.ite (fun _ => TT.guard (wk85 hT10) (TT.bind (of74_T hT10 (hR.rk hW10.1) (by omega) (by omega)) (fun r14 _ => ?_))) (fun _ => TT.ok (hK.trans hW10.1.1))
  exact hr _ ⟨⟨by dsimp only [w32]; omega, by dsimp only [w32]; omega⟩, hW10⟩ (by dsimp only [w32]; omega)
theorem findAidR_T (hT : WT M) (hR : RH M) : TT (fX11_findAid M 85) (fun r => B01 r.1 ∧ RB M r.2) := by
  unfold fX11_findAid
  refine TT.guard (wk85 hT) (TT.sM (TT.sM ?_))
  have hW : RB M (mst (mst M 85 44 0) 85 45 0) := ((RB.self M).st rfl (Or.inr (by decide)) (by decide)).st rfl (Or.inr (by decide)) (by decide)
  generalize mst (mst M 85 44 0) 85 45 0 = N at *
  refine TT.iter (fun (s : Int × Int × Mem) => (0 ≤ s.2.1 ∧ s.2.1 ≤ 5) ∧ B01 s.1 ∧ RB M s.2.2) (fun s => (5 - s.2.1).toNat) ?_ _ _ ⟨⟨by dsimp only; omega, by dsimp only; omega⟩, Or.inr rfl, hW⟩ (by unfold BIG; dsimp only; omega)
  rintro rec s ⟨⟨hl, hu⟩, hb, hWs⟩ hr
  have hTs := hT.keep hWs.1.1
  refine TT.ite (fun c1 => TT.guard (wk85 hTs) (TT.bind (aidGoodR_T hTs (hR.rk hWs.1) s.2.1 ⟨hl, c1⟩) (fun r9 q9 => ?_))) (fun _ => TT.guard hb (TT.ok ⟨hb, hWs⟩))
  have hW9 := hWs.trans q9.2
  refine TT.ite (fun _ => hr _ ⟨⟨by dsimp only [w32]; omega, by dsimp only [w32]; omega⟩, Or.inl rfl, hW9⟩ (by dsimp only [w32]; omega)) (fun _ => TT.ite (fun _ => hr _ ⟨⟨by dsimp only [w32]; omega, by dsimp only [w32]; omega⟩, Or.inl rfl, hW9⟩ (by dsimp only [w32]; omega)) (fun _ => hr _ ⟨⟨by dsimp only [w32]; omega, by dsimp only [w32]; omega⟩, Or.inr rfl, hW9⟩ (by dsimp only [w32]; omega)))
theorem roundY_T (hT : WT M) (t h : Int) : TT (fX11_round M 85 t h) (fun r => Keep M r.2) := by
  unfold fX11_round
  refine TT.guard (wk85 hT) (TT.sM ?_)
  have hK2 : Keep M (mst M 85 0 0) := Keep.self.st rfl
  generalize mst M 85 0 0 = M2 at *
  have hT2 := hT.keep hK2
  refine TT.bind (hand_T hT2 t) (fun r q => ?_)
  have hK := hK2.trans q.2.1.1
  have hTr := hT.keep hK
  refine TT.ite (fun _ => TT.ok hK) (fun c => ?_)
  have hR := q.2.2 c
  have hh := hR.2.1
  refine TT.join (fun _ => h = -1 ∨ (0 ≤ h ∧ h < 6)) (fun _ h6 => ?_) (fun j hj => TT.ite (fun e => hj () (Or.inl e)) (fun e => TT.guard (wk85 hTr) (TT.bind (isHouseR_T hTr hR h) (fun r24 q24 => TT.ite (fun _ => TT.ok hK) (fun c24 => hj () (Or.inr (by have := q24.use c24; omega)))))))
  refine TT.ite (fun _ => ?_) (fun e => TT.guard (wk85 hTr) (TT.bind (roundOfR_T hTr hR h (h6.resolve_left e)) (fun _ _ => TT.ok hK)))
  refine TT.iter (fun (s : Int × Int) => 0 ≤ s.2 ∧ s.2 ≤ 6) (fun s => (6 - s.2).toNat) ?_ _ _ ⟨by dsimp only; omega, by dsimp only; omega⟩ (by unfold BIG; dsimp only; omega)
  rintro rec s ⟨hl, hu⟩ hr
  refine TT.guard (wk85 hTr) (TT.ite (fun c1 => TT.bind (roundOfR_T hTr hR s.2 (by omega)) (fun r14 q14 => TT.ite (fun _ => TT.ok hK) (fun c2 => ?_))) (fun _ => TT.ok hK))
  have g := q14.resolve_left c2
  refine TT.bind (common_T (by unfold r32; omega)) (fun r17 q17 => TT.guard (q17 (Or.inr (by omega))) ?_)
  exact hr _ ⟨by dsimp only [w32]; omega, by dsimp only [w32]; omega⟩ (by dsimp only [w32]; omega)
theorem aidY_T (hT : WT M) (t x : Int) : TT (fX11_aid M 85 t x) (fun r => Keep M r.2) := by
  unfold fX11_aid
  refine TT.guard (wk85 hT) (TT.sM ?_)
  have hK2 : Keep M (mst M 85 0 0) := Keep.self.st rfl
  generalize mst M 85 0 0 = M2 at *
  have hT2 := hT.keep hK2
  refine TT.bind (hand_T hT2 t) (fun r q => ?_)
  have hK := hK2.trans q.2.1.1
  have hTr := hT.keep hK
  refine TT.ite (fun _ => TT.ok hK) (fun c => ?_)
  have hR := q.2.2 c
  have hh := hR.2.1
  refine TT.bind (in_T _ _ _) (fun r7 q7 => TT.join (fun _ => (0 ≤ x ∧ x ≤ 2) ∨ (10 ≤ x ∧ x < 40)) (fun _ hx => ?_) (fun j hj => TT.ite (fun _ => TT.guard (wk85 hTr) ?_) (fun c7 => hj () (Or.inl (q7.use c7)))))
  · refine TT.guard (wk85 hTr) (TT.bind (findAidR_T hTr hR) (fun r11 q11 => ?_))
    have hK11 := hK.trans q11.2.1.1
    have hT11 := hT.keep hK11
    rw [wp85_43 hT11]
    refine TT.ite (fun _ => TT.ok hK11) (fun _ => TT.ite (fun _ => TT.guard (wk85 hT11) (TT.ok hK11)) (fun e0 => TT.ite (fun _ => TT.guard (wk85 hT11) (TT.ok hK11)) (fun e1 => TT.ite (fun _ => TT.guard (wk85 hT11) (TT.bind (aidNightsR_T hT11 (hR.rk q11.2.1)) (fun _ _ => TT.ok hK11))) (fun e2 => ?_))))
    rw [w32_of (x := x - 10) (by omega) (by omega)]
    exact TT.guard (wk85 hT11) (TT.guard ⟨wk108 hT11, by omega, by rw [wl108 hT11]; omega⟩ (TT.ok hK11))
  · rw [w32_of (x := 5 * r.2.1 85 25) (by omega) (by omega), w32_of (x := 9 + 5 * r.2.1 85 25) (by omega) (by omega)]
    exact TT.bind (in_T _ _ _) (fun r27 q27 => TT.ite (fun _ => TT.ok hK) (fun c27 => hj () (Or.inr (by have := q27.use c27; omega))))
theorem deedY_T (hT : WT M) (n k x : Int) : TT (fX11_deed M 85 n k x) (fun r => Keep M r.2) := by
  unfold fX11_deed
  refine TT.guard (wk85 hT) (TT.sM ?_)
  have hK2 : Keep M (mst M 85 0 0) := Keep.self.st rfl
  generalize mst M 85 0 0 = M2 at *
  have hT2 := hT.keep hK2
  refine TT.bind (hasNights_T hT2 n) (fun r q => ?_)
  have hK := hK2.trans q.2.1.1
  have hTr := hT.keep hK
  refine TT.ite (fun _ => TT.ok hK) (fun c => ?_)
  have hN : RN r.2 := q.2.2 c
  refine TT.ite (fun _ => TT.ite (fun _ => TT.guard (wk85 hTr) (TT.bind (deedsR_T hTr hN) (fun _ _ => TT.ok hK))) (fun _ => TT.ok hK)) (fun _ => TT.guard (wk85 hTr) (TT.bind (deedsR_T hTr hN) (fun r12 q12 => ?_)))
  rw [w32_of (x := r12 - 1) (by omega) (by omega)]
  refine TT.bind (in_T _ _ _) (fun r15 q15 => TT.ite (fun _ => TT.ok hK) (fun c15 => TT.bind (in_T _ _ _) (fun r18 q18 => TT.ite (fun _ => TT.ok hK) (fun c18 => ?_))))
  have g15 := q15.use c15
  have g18 := q18.use c18
  exact TT.bind (deedOf_T hTr hN (by omega) (by omega) (by omega) (by omega)) (fun _ _ => TT.ok hK)
end RefT
