/-! the law of p15: its loop -/
theorem nx8 {i L : Int} (h0 : 0 ≤ i) (h1 : i ≤ L - 8) (h2 : L ≤ 4096) : (0 ≤ w32 (i + 8) ∧ w32 (i + 8) ≤ L) ∧ (4104 - w32 (i + 8)).toNat < (4104 - i).toNat ∧ ∀ k, 0 ≤ k → k ≤ 7 → 0 ≤ w32 (i + k) ∧ w32 (i + k) < L := by
  rw [w32_of (x := i + 8) (by omega) (by omega)]
  refine ⟨by omega, by omega, fun k a b => ?_⟩
  rw [w32_of (by omega) (by omega)]; omega
set_option maxRecDepth 100000 in
set_option maxHeartbeats 8000000 in
theorem p15_math (L : Int) (xs : Int → Int) (hL : 0 ≤ L ∧ L ≤ 4096) (hxs : ∀ j, r32 (xs j)) : ∃ M', fL_law L xs M00 = some (1, M') := by
  obtain ⟨r4, r10, h4, h5, h10, hS, hF, hn⟩ := start_ex
  have hInit := start_rel3 h4 h10 hS hF hn
  have key : TT (fL_law L xs M00) (fun q => q.1 = 1) := by
    unfold fL_law
    rw [show ((M00.2.2.2 : Nat) : Int) = 0 from rfl]
    refine TT.sM (TT.guard (by decide) (TT.bindE (r := r4) h4 (TT.sM ?_)))
    rw [h5, show ((85 : Nat) : Int) = 85 from rfl]
    refine TT.guard (by decide) (TT.bindE h10 ?_)
    have eL : w32 (L - 8) = L - 8 := w32_of (by omega) (by omega)
    rw [eL]
    refine TT.iter (fun s : Int × Mem => (0 ≤ s.1 ∧ s.1 ≤ 4096) ∧ INV3 s.2) (fun s => (4104 - s.1).toNat) ?_ BIG (0, r10) ⟨⟨by dsimp only; omega, by dsimp only; omega⟩, hInit⟩ (by unfold BIG; dsimp only; omega)
    clear hInit hS hF hn h4 h5 h10
    rintro rec ⟨i, M⟩ ⟨⟨i0, i1⟩, hI⟩ hrec
    simp only at i0 i1 hI ⊢
    refine TT.ite (fun _ => TT.ok rfl) (fun hc => ?_)
    have h8 := nx8 i0 (Int.not_lt.mp hc) hL.2
    have nx : ∀ N, INV3 N → TT (rec (w32 (i + 8), N)) (fun q => q.1 = 1) := fun N h => hrec _ ⟨⟨h8.1.1, Int.le_trans h8.1.2 hL.2⟩, h⟩ h8.2.1
    have g0 : 0 ≤ i ∧ i < L := ⟨i0, by have := Int.not_lt.mp hc; omega⟩
    have g1 := h8.2.2 1 (by decide) (by decide)
    have g2 := h8.2.2 2 (by decide) (by decide)
    have g3 := h8.2.2 3 (by decide) (by decide)
    have g4 := h8.2.2 4 (by decide) (by decide)
    have g5 := h8.2.2 5 (by decide) (by decide)
    have g6 := h8.2.2 6 (by decide) (by decide)
    have g7 := h8.2.2 7 (by decide) (by decide)
    have hW := hI.1.1.1
    clear hrec h8
    refine TT.guard g0 ?_
    refine TT.ite (fun _ => ?_) (fun _ => ?_)
    · exact TT.guard g1 (TT.guard g2 (TT.guard g3 (TT.guard g4 (TT.guard g5 (TT.guard (wk0 hW) (TT.bind (feed_R hI _ _ _ _ _) (fun r q => TT.guard g1 (TT.guard g2 (TT.guard g3 (TT.guard g4 (TT.guard g5 (TT.guard (wk85 q.1) (TT.bind q.2 (fun u v => nx _ v.2))))))))))))))
    refine TT.ite (fun _ => ?_) (fun _ => ?_)
    · exact TT.guard g1 (TT.guard (wk0 hW) (TT.bind (end_R hI _) (fun r q => TT.guard g1 (TT.guard (wk85 q.1) (TT.bind q.2 (fun u v => nx _ v.2))))))
    refine TT.ite (fun _ => ?_) (fun _ => ?_)
    · exact TT.guard g1 (TT.guard g2 (TT.guard (wk0 hW) (TT.bind (text_R hI _ _) (fun r q => TT.guard g1 (TT.guard g2 (TT.guard (wk85 q.1) (TT.bind q.2 (fun u v => nx _ v.2))))))))
    refine TT.ite (fun _ => ?_) (fun _ => ?_)
    · exact TT.guard g1 (TT.guard (wk0 hW) (TT.bind (faultX_T hW _) (fun _ _ => TT.guard g1 (TT.guard (wk85 hW) (TT.bind (faultY_T hW _) (fun u v => nx _ (hI.keep v)))))))
    refine TT.ite (fun _ => ?_) (fun _ => ?_)
    · exact TT.guard g1 (TT.guard g2 (TT.guard (wk0 hW) (TT.bind (townX_T hW _ _) (fun _ _ => TT.guard g1 (TT.guard g2 (TT.guard (wk85 hW) (TT.bind (townY_T hW _ _) (fun u v => nx _ (hI.keep v)))))))))
    refine TT.ite (fun _ => ?_) (fun _ => ?_)
    · exact TT.guard g1 (TT.guard g2 (TT.guard g3 (TT.guard g4 (TT.guard (wk0 hW) (TT.bind (houseX_T hW _ _ _ _) (fun _ _ => TT.guard g1 (TT.guard g2 (TT.guard g3 (TT.guard g4 (TT.guard (wk85 hW) (TT.bind (houseY_T hW _ _ _ _) (fun u v => nx _ (hI.keep v)))))))))))))
    refine TT.ite (fun _ => ?_) (fun _ => ?_)
    · exact TT.guard g1 (TT.guard g2 (TT.guard (wk0 hW) (TT.bind (lawX_T hW _ _) (fun _ _ => TT.guard g1 (TT.guard g2 (TT.guard (wk85 hW) (TT.bind (lawY_T hW _ _) (fun u v => nx _ (hI.keep v)))))))))
    refine TT.ite (fun _ => ?_) (fun _ => ?_)
    · exact TT.guard g1 (TT.guard g2 (TT.guard g3 (TT.guard (wk0 hW) (TT.bind (deedX_T hW _ _ _) (fun _ _ => TT.guard g1 (TT.guard g2 (TT.guard g3 (TT.guard (wk85 hW) (TT.bind (deedY_T hW _ _ _) (fun u v => nx _ (hI.keep v)))))))))))
    refine TT.ite (fun _ => ?_) (fun _ => ?_)
    · exact TT.guard g1 (TT.guard g2 (TT.guard g3 (TT.guard (wk0 hW) (TT.bind (stopX_T hW _ _ _) (fun r q => TT.guard g1 (TT.guard g2 (TT.guard g3 (TT.guard (wk85 (hW.keep q)) (TT.bind (stopY_T (hW.keep q) _ _ _) (fun u v => nx _ ((hI.keep q).keep v)))))))))))
    refine TT.ite (fun _ => ?_) (fun _ => ?_)
    · exact TT.guard g1 (TT.guard g2 (TT.guard g3 (TT.guard g4 (TT.guard g5 (TT.guard (wk0 hW) (TT.bind (stateX_T hW _ _ _ _ _) (fun r q => TT.guard g1 (TT.guard g2 (TT.guard g3 (TT.guard g4 (TT.guard g5 (TT.guard (wk85 (hW.keep q)) (TT.bind (stateY_T (hW.keep q) _ _ _ _ _) (fun u v => nx _ ((hI.keep q).keep v)))))))))))))))
    refine TT.ite (fun _ => ?_) (fun _ => ?_)
    · exact TT.guard g1 (TT.guard g2 (TT.guard g3 (TT.guard g4 (TT.guard g5 (TT.guard g6 (TT.guard g7 (TT.guard (wk0 hW) (TT.bind (goodsX_T hW _ _ _ _ _ _ _) (fun r q => TT.guard g1 (TT.guard g2 (TT.guard g3 (TT.guard g4 (TT.guard g5 (TT.guard g6 (TT.guard g7 (TT.guard (wk85 (hW.keep q)) (TT.bind (goodsY_T (hW.keep q) _ _ _ _ _ _ _) (fun u v => nx _ ((hI.keep q).keep v)))))))))))))))))))
    refine TT.ite (fun _ => ?_) (fun _ => ?_)
    · exact TT.guard g1 (TT.guard g2 (TT.guard (wk0 hW) (TT.bind (aidX_T hW _ _) (fun _ _ => TT.guard g1 (TT.guard g2 (TT.guard (wk85 hW) (TT.bind (aidY_T hW _ _) (fun u v => nx _ (hI.keep v)))))))))
    refine TT.ite (fun _ => ?_) (fun _ => ?_)
    · exact TT.guard g1 (TT.guard (wk0 hW) (TT.bind (carryX_T hW hI.1.1.2.1 _) (fun r q => TT.guard g1 (TT.guard (wk85 (hI.keepC q.1 q.2).1.1.1) (TT.bind (carryY_T (hI.keepC q.1 q.2).1.1.1 _) (fun u v => nx _ ((hI.keepC q.1 q.2).keep v)))))))
    refine TT.ite (fun _ => ?_) (fun _ => ?_)
    · exact TT.guard g1 (TT.guard g2 (TT.guard (wk0 hW) (TT.bind (round_E hI _ _) (fun r q => TT.guard g1 (TT.guard g2 (TT.guard (wk85 hW) (TT.bind q (fun u v => TT.pos v.1 (nx _ (hI.keep v.2))))))))))
    refine TT.ite (fun _ => ?_) (fun _ => ?_)
    · exact TT.guard g1 (TT.guard g2 (TT.guard g3 (TT.guard (wk0 hW) (TT.bind (meetsX_T hW _ _ _) (fun _ _ => TT.guard g1 (TT.guard g2 (TT.guard g3 (TT.guard (wk85 hW) (TT.bind (meetsY_T hW _ _ _) (fun u v => nx _ (hI.keep v)))))))))))
    refine TT.ite (fun _ => ?_) (fun _ => ?_)
    · exact TT.guard g1 (TT.guard g2 (TT.guard (wk0 hW) (TT.bind (sightX_T hW _ _) (fun _ _ => TT.guard g1 (TT.guard g2 (TT.guard (wk85 hW) (TT.bind (sightY_T hW _ _) (fun u v => nx _ (hI.keep v)))))))))
    refine TT.ite (fun _ => ?_) (fun _ => ?_)
    · exact TT.guard g1 (TT.guard g2 (TT.guard g3 (TT.guard g4 (TT.guard g5 (TT.guard (wk0 hW) (TT.bind (handsX_T hW _ _ _ _ _) (fun r q => TT.guard g1 (TT.guard g2 (TT.guard g3 (TT.guard g4 (TT.guard g5 (TT.guard (wk85 (hW.keep q)) (TT.bind (handsY_T (hW.keep q) _ _ _ _ _) (fun u v => nx _ ((hI.keep q).keep v)))))))))))))))
    refine TT.ite (fun _ => ?_) (fun _ => ?_)
    · refine TT.guard g1 (TT.guard g2 (TT.guard g3 (TT.jI ?_)))
      by_cases hb : xs (w32 (i + 3)) = 0
      · exact TT.pos hb (TT.guard (wk0 hW) (TT.bind (movedX_T hW _ _ _) (fun _ _ => TT.guard g1 (TT.guard g2 (TT.guard g3 (TT.jI (TT.pos hb (TT.guard (wk85 hW) (TT.bind (movedY_T hW _ _ _) (fun u v => nx _ (hI.keep v)))))))))))
      · exact TT.neg hb (TT.guard (wk0 hW) (TT.bind (movedX_T hW _ _ _) (fun _ _ => TT.guard g1 (TT.guard g2 (TT.guard g3 (TT.jI (TT.neg hb (TT.guard (wk85 hW) (TT.bind (movedY_T hW _ _ _) (fun u v => nx _ (hI.keep v)))))))))))
    refine TT.ite (fun _ => ?_) (fun _ => ?_)
    · exact TT.guard g1 (TT.guard g2 (TT.guard g3 (TT.guard g4 (TT.guard g5 (TT.guard (wk0 hW) (TT.bind (quitX_T hW _ _ _ _ _) (fun _ _ => TT.guard g1 (TT.guard g2 (TT.guard g3 (TT.guard g4 (TT.guard g5 (TT.guard (wk85 hW) (TT.bind (quitY_T hW _ _ _ _ _) (fun u v => nx _ (hI.keep v)))))))))))))))
    refine TT.ite (fun _ => ?_) (fun _ => ?_)
    · refine TT.guard g1 (TT.guard g2 (TT.jI ?_))
      by_cases hb : xs (w32 (i + 2)) = 0
      · exact TT.pos hb (TT.guard (wk0 hW) (TT.bindE (x_alms _ _ _ _) (TT.guard g1 (TT.guard g2 (TT.jI (TT.pos hb (TT.guard (wk85 hW) (TT.bind (almsY_T hW _ _) (fun u v => nx _ (hI.keep v.2))))))))))
      · exact TT.neg hb (TT.guard (wk0 hW) (TT.bindE (x_alms _ _ _ _) (TT.guard g1 (TT.guard g2 (TT.jI (TT.neg hb (TT.guard (wk85 hW) (TT.bind (almsY_T hW _ _) (fun u v => nx _ (hI.keep v.2))))))))))
    refine TT.ite (fun _ => ?_) (fun _ => ?_)
    · exact TT.guard g1 (TT.guard g2 (TT.guard g3 (TT.guard (wk0 hW) (TT.bind (prizeX_T hW _ _ _) (fun _ _ => TT.guard g1 (TT.guard g2 (TT.guard g3 (TT.guard (wk85 hW) (TT.bind (prizeY_T hW _ _ _) (fun u v => nx _ (hI.keep v)))))))))))
    refine TT.ite (fun _ => ?_) (fun _ => ?_)
    · exact TT.guard g1 (TT.guard g2 (TT.guard (wk0 hW) (TT.bind (restX_T hW _ _) (fun _ _ => TT.guard g1 (TT.guard g2 (TT.guard (wk85 hW) (TT.bind (restY_T hW _ _) (fun u v => nx _ (hI.keep v)))))))))
    refine TT.ite (fun _ => ?_) (fun _ => ?_)
    · refine TT.guard g1 (TT.guard g2 (TT.guard g3 (TT.jI ?_)))
      by_cases hb : xs (w32 (i + 3)) = 0
      · exact TT.pos hb (TT.guard (wk0 hW) (TT.bind (shareX_T hW _ _ _) (fun _ _ => TT.guard g1 (TT.guard g2 (TT.guard g3 (TT.jI (TT.pos hb (TT.guard (wk85 hW) (TT.bind (shareY_T hW _ _ _) (fun u v => nx _ (hI.keep v)))))))))))
      · exact TT.neg hb (TT.guard (wk0 hW) (TT.bind (shareX_T hW _ _ _) (fun _ _ => TT.guard g1 (TT.guard g2 (TT.guard g3 (TT.jI (TT.neg hb (TT.guard (wk85 hW) (TT.bind (shareY_T hW _ _ _) (fun u v => nx _ (hI.keep v)))))))))))
    refine TT.ite (fun _ => ?_) (fun _ => ?_)
    · exact TT.guard g1 (TT.guard g2 (TT.guard (wk0 hW) (TT.bind (evenX_T hW _ _) (fun _ _ => TT.guard g1 (TT.guard g2 (TT.guard (wk85 hW) (TT.bind (evenY_T hW _ _) (fun u v => nx _ (hI.keep v)))))))))
    refine TT.ite (fun _ => ?_) (fun _ => ?_)
    · exact TT.guard g1 (TT.guard g2 (TT.guard g3 (TT.guard g4 (TT.guard g5 (TT.guard (wk0 hW) (TT.bind (drawnX_T hW _ _ _ _ _) (fun r q => TT.guard g1 (TT.guard g2 (TT.guard g3 (TT.guard g4 (TT.guard g5 (TT.guard (wk85 (hW.keep q)) (TT.bind (drawnY_T (hW.keep q) _ _ _ _ _) (fun u v => nx _ ((hI.keep q).keep v)))))))))))))))
    refine TT.ite (fun _ => ?_) (fun _ => ?_)
    · exact TT.guard g1 (TT.guard g2 (TT.guard g3 (TT.guard g4 (TT.guard g5 (TT.guard (wk0 hW) (TT.bind (wealthX_T hW _ _ _ _ _) (fun r q => TT.guard g1 (TT.guard g2 (TT.guard g3 (TT.guard g4 (TT.guard g5 (TT.guard (wk85 (hW.keep q)) (TT.bind (wealthY_T (hW.keep q) _ _ _ _ _) (fun u v => nx _ ((hI.keep q).keep v)))))))))))))))
    refine TT.ite (fun _ => ?_) (fun _ => ?_)
    · exact TT.guard g1 (TT.guard g2 (TT.guard g3 (TT.guard g4 (TT.guard g5 (TT.guard (wk0 hW) (TT.bind (haulX_T hW _ _ _ _ _) (fun r q => TT.guard g1 (TT.guard g2 (TT.guard g3 (TT.guard g4 (TT.guard g5 (TT.guard (wk85 (hW.keep q)) (TT.bind (haulY_T (hW.keep q) _ _ _ _ _) (fun u v => nx _ ((hI.keep q).keep v)))))))))))))))
    refine TT.ite (fun _ => ?_) (fun _ => ?_)
    · refine TT.guard g1 (TT.guard g2 (TT.guard g3 (TT.jI ?_)))
      by_cases hb : xs (w32 (i + 3)) = 0
      · exact TT.pos hb (TT.guard (wk0 hW) (TT.bind (crewX_T hW _ _ _) (fun _ _ => TT.guard g1 (TT.guard g2 (TT.guard g3 (TT.jI (TT.pos hb (TT.guard (wk85 hW) (TT.bind (crewY_T hW _ _ _) (fun u v => nx _ (hI.keep v)))))))))))
      · exact TT.neg hb (TT.guard (wk0 hW) (TT.bind (crewX_T hW _ _ _) (fun _ _ => TT.guard g1 (TT.guard g2 (TT.guard g3 (TT.jI (TT.neg hb (TT.guard (wk85 hW) (TT.bind (crewY_T hW _ _ _) (fun u v => nx _ (hI.keep v)))))))))))
    refine TT.ite (fun _ => ?_) (fun _ => ?_)
    · exact TT.guard g1 (TT.guard g2 (TT.guard (wk0 hW) (TT.bind (pairsX_T hW _ _) (fun _ _ => TT.guard g1 (TT.guard g2 (TT.guard (wk85 hW) (TT.bind (pairsY_T hW _ _) (fun u v => nx _ (hI.keep v)))))))))
    refine TT.ite (fun _ => ?_) (fun _ => ?_)
    · exact TT.guard g1 (TT.guard (wk0 hW) (TT.bind (countX_T hW _) (fun _ _ => TT.guard g1 (TT.guard (wk85 hW) (TT.bind (countY_T hW _) (fun u v => nx _ (hI.keep v)))))))
    refine TT.ite (fun _ => ?_) (fun _ => ?_)
    · exact TT.guard g1 (TT.guard (wk0 hW) (TT.bind (image_R hI _) (fun r q => TT.guard g1 (TT.guard (wk85 q.1) (TT.bind q.2 (fun u v => nx _ v.2))))))
    refine TT.ite (fun _ => ?_) (fun _ => ?_)
    · exact TT.guard g1 (TT.guard (wk0 hW) (TT.bind (again_R hI _) (fun r q => TT.guard g1 (TT.guard (wk85 q.1) (TT.bind q.2 (fun u v => nx _ v.2))))))
    exact nx _ hI
  obtain ⟨⟨v, M'⟩, h1, h2⟩ := key
  exact ⟨M', by rw [h1]; simp only at h2; rw [h2]⟩
