/-! p1: one call on a fresh object -/
theorem p1_text {r4 r10 : Mem} (h4 : fX10_init (mnew MZ 9 6) 0 = some r4) (h10 : fX11_init (mnew r4 10 51) 85 = some r10) (hS : Shp r10) (hF : Frs r10) (s a : Int) : TT (fX10_text r10 0 s a) (fun r => r.2.2.1 85 = 10 ∧ TT (fX11_text r.2 85 s a) (fun q => r.1 = q.1)) := by
  by_cases hc : s < 0 ∨ 4 ≤ s ∨ a ≠ -1
  · have c3 : ∀ j, 0 ≤ j → j < 4 → r10.1 3 j = 0 := fun j j0 j4 => by
      rcases (show j = 0 ∨ j = 1 ∨ j = 2 ∨ j = 3 by omega) with rfl | rfl | rfl | rfl
      · exact fr3_0 hF
      · exact fr3_1 hF
      · exact fr3_2 hF
      · exact fr3_3 hF
    have c90 : ∀ j, 0 ≤ j → j < 4 → r10.1 90 j = 0 := fun j j0 j4 => by
      rcases (show j = 0 ∨ j = 1 ∨ j = 2 ∨ j = 3 by omega) with rfl | rfl | rfl | rfl
      · exact fr90_0 hF
      · exact fr90_1 hF
      · exact fr90_2 hF
      · exact fr90_3 hF
    refine (x_textNo hS c3 hc).mono (fun r q => ?_)
    have hS2 := hS.of1 q.2.1 q.2.2
    exact ⟨sk85 hS2, (y_textNo hS2 (fun j j0 j4 => by rw [q.2.2 90 j (by decide) (fun e => absurd e (by decide))]; exact c90 j j0 j4) hc).mono (fun t u => by rw [q.1, u])⟩
  · obtain rfl : a = -1 := by omega
    rcases (show s = 0 ∨ s = 1 ∨ s = 2 ∨ s = 3 by omega) with rfl | rfl | rfl | rfl
    · exact textK_T (withS_of h4 h10 textK_0)
    · exact textK_T (withS_of h4 h10 textK_1)
    · exact textK_T (withS_of h4 h10 textK_2)
    · exact textK_T (withS_of h4 h10 textK_3)
theorem p1_image {r4 r10 : Mem} (h4 : fX10_init (mnew MZ 9 6) 0 = some r4) (h10 : fX11_init (mnew r4 10 51) 85 = some r10) (hS : Shp r10) (k : Int) : TT (fX10_image r10 0 k) (fun r => r.1 = (if 0 ≤ k ∧ k ≤ 2 then 1 else 0) ∧ Shp r.2) := by
  by_cases hk : 0 ≤ k ∧ k ≤ 2
  · rw [if_pos hk]
    rcases (show k = 0 ∨ k = 1 ∨ k = 2 by omega) with rfl | rfl | rfl
    · exact imageK_T (withS_of h4 h10 imageK_0)
    · exact imageK_T (withS_of h4 h10 imageK_1)
    · exact imageK_T (withS_of h4 h10 imageK_2)
  · rw [if_neg hk]
    exact TT.eq (x_imageNo k hk) ⟨rfl, hS⟩
set_option maxRecDepth 100000 in
set_option maxHeartbeats 8000000 in
theorem p1_math (L : Int) (xs : Int → Int) (hL : 0 ≤ L ∧ L ≤ 8) (hxs : ∀ j, r32 (xs j)) : ∃ M', fL_law L xs M00 = some (1, M') := by
  obtain ⟨r4, r10, h4, h5, h10, hS, hF, -⟩ := start_ex
  have key : TT (fL_law L xs M00) (fun q => q.1 = 1) := by
    unfold fL_law
    rw [show ((M00.2.2.2 : Nat) : Int) = 0 from rfl]
    refine TT.sM (TT.guard (by decide) (TT.bindE (r := r4) h4 (TT.sM ?_)))
    rw [h5, show ((85 : Nat) : Int) = 85 from rfl]
    refine TT.guard (by decide) (TT.bindE h10 ?_)
    by_cases hL8 : L = 8
    · subst hL8
      refine TT.iter (fun s : Int × Mem => s = (0, r10) ∨ s.1 = 8) (fun s => (8 - s.1).toNat) ?_ BIG (0, r10) (Or.inl rfl) (by unfold BIG; dsimp only; omega)
      intro rec s hs hrec
      rcases hs with rfl | hs
      · have nx : ∀ M', TT (rec (w32 (0 + 8), M')) (fun q => q.1 = 1) := fun M' => hrec _ (Or.inr (by show w32 (0 + 8) = 8; decide)) (by show ((8 : Int) - w32 (0 + 8)).toNat < ((8 : Int) - 0).toNat; decide)
        simp only
        clear hrec
        refine TT.neg (by decide) (TT.guard (by decide) ?_)
        refine TT.ite (fun _ => ?_) (fun _ => ?_)
        · refine TT.guard (by decide) (TT.guard (by decide) (TT.guard (by decide) (TT.guard (by decide) (TT.guard (by decide) (?_)))))
          refine TT.guard (sk0 hS) (TT.bind (x_feed hS hF _ _ _ _ _) (fun r q => ?_))
          have hS2 := hS.of1 q.1 q.2.2
          refine TT.guard (by decide) (TT.guard (by decide) (TT.guard (by decide) (TT.guard (by decide) (TT.guard (by decide) (TT.guard (sk85 hS2) (TT.bind (y_feed hS2 (by rw [q.2.2 87 0 (by decide) (fun e => absurd e (by decide))]; exact fr87_0 hF) _ _ _ _ _) (fun t u => TT.pos (by rw [q.2.1, u]) (nx _))))))))
        refine TT.ite (fun _ => ?_) (fun _ => ?_)
        · refine TT.guard (by decide) (?_)
          refine TT.guard (sk0 hS) (TT.bind (x_end hS hF _) (fun r q => ?_))
          have hS2 := hS.of1 q.1 q.2.2
          refine TT.guard (by decide) (TT.guard (sk85 hS2) (TT.bind (y_end hS2 (by rw [q.2.2 87 0 (by decide) (fun e => absurd e (by decide))]; exact fr87_0 hF) _) (fun t u => TT.pos (by rw [q.2.1, u]) (nx _))))
        refine TT.ite (fun _ => ?_) (fun _ => ?_)
        · refine TT.guard (by decide) (TT.guard (by decide) (?_))
          refine TT.guard (sk0 hS) (TT.bind (p1_text h4 h10 hS hF _ _) (fun r q => ?_))
          refine TT.guard (by decide) (TT.guard (by decide) (TT.guard q.1 (TT.bind q.2 (fun t u => TT.pos u (nx _)))))
        refine TT.ite (fun _ => ?_) (fun _ => ?_)
        · refine TT.guard (by decide) (?_)
          refine TT.guard (sk0 hS) (TT.bindE (x_fault hS hF _) ?_)
          refine TT.guard (by decide) (TT.guard (sk85 hS) (TT.bind (y_fault hS hF _) (fun t u => TT.pos (by first | exact (u).symm | (simp only; rw [u])) (nx _))))
        refine TT.ite (fun _ => ?_) (fun _ => ?_)
        · refine TT.guard (by decide) (TT.guard (by decide) (?_))
          refine TT.guard (sk0 hS) (TT.bindE (x_town hS hF _ _) ?_)
          refine TT.guard (by decide) (TT.guard (by decide) (TT.guard (sk85 hS) (TT.bind (y_town hS hF _ _) (fun t u => TT.pos (by first | exact (u).symm | (simp only; rw [u])) (nx _)))))
        refine TT.ite (fun _ => ?_) (fun _ => ?_)
        · refine TT.guard (by decide) (TT.guard (by decide) (TT.guard (by decide) (TT.guard (by decide) (?_))))
          refine TT.guard (sk0 hS) (TT.bindE (x_house hS hF _ _ _ _) ?_)
          refine TT.guard (by decide) (TT.guard (by decide) (TT.guard (by decide) (TT.guard (by decide) (TT.guard (sk85 hS) (TT.bind (y_house hS hF _ _ _ _) (fun t u => TT.pos (by first | exact (u).symm | (simp only; rw [u])) (nx _)))))))
        refine TT.ite (fun _ => ?_) (fun _ => ?_)
        · refine TT.guard (by decide) (TT.guard (by decide) (?_))
          refine TT.guard (sk0 hS) (TT.bindE (x_law hS hF _ _) ?_)
          refine TT.guard (by decide) (TT.guard (by decide) (TT.guard (sk85 hS) (TT.bind (y_law hS hF _ _) (fun t u => TT.pos (by first | exact (u).symm | (simp only; rw [u])) (nx _)))))
        refine TT.ite (fun _ => ?_) (fun _ => ?_)
        · refine TT.guard (by decide) (TT.guard (by decide) (TT.guard (by decide) (?_)))
          refine TT.guard (sk0 hS) (TT.bindE (x_deed hS hF _ _ _) ?_)
          refine TT.guard (by decide) (TT.guard (by decide) (TT.guard (by decide) (TT.guard (sk85 hS) (TT.bind (y_deed hS hF _ _ _) (fun t u => TT.pos (by first | exact (u).symm | (simp only; rw [u])) (nx _))))))
        refine TT.ite (fun _ => ?_) (fun _ => ?_)
        · refine TT.guard (by decide) (TT.guard (by decide) (TT.guard (by decide) (?_)))
          refine TT.guard (sk0 hS) (TT.bindE (x_stop hS hF _ _ _) ?_)
          refine TT.guard (by decide) (TT.guard (by decide) (TT.guard (by decide) (TT.guard (sk85 hS) (TT.bind (y_stop hS hF _ _ _) (fun t u => TT.pos (by first | exact (u).symm | (simp only; rw [u])) (nx _))))))
        refine TT.ite (fun _ => ?_) (fun _ => ?_)
        · refine TT.guard (by decide) (TT.guard (by decide) (TT.guard (by decide) (TT.guard (by decide) (TT.guard (by decide) (?_)))))
          refine TT.guard (sk0 hS) (TT.bindE (x_state hS hF _ _ _ _ _) ?_)
          refine TT.guard (by decide) (TT.guard (by decide) (TT.guard (by decide) (TT.guard (by decide) (TT.guard (by decide) (TT.guard (sk85 hS) (TT.bind (y_state hS hF _ _ _ _ _) (fun t u => TT.pos (by first | exact (u).symm | (simp only; rw [u])) (nx _))))))))
        refine TT.ite (fun _ => ?_) (fun _ => ?_)
        · refine TT.guard (by decide) (TT.guard (by decide) (TT.guard (by decide) (TT.guard (by decide) (TT.guard (by decide) (TT.guard (by decide) (TT.guard (by decide) (?_)))))))
          refine TT.guard (sk0 hS) (TT.bindE (x_goods hS hF _ _ _ _ _ _ _) ?_)
          refine TT.guard (by decide) (TT.guard (by decide) (TT.guard (by decide) (TT.guard (by decide) (TT.guard (by decide) (TT.guard (by decide) (TT.guard (by decide) (TT.guard (sk85 hS) (TT.bind (y_goods hS hF _ _ _ _ _ _ _) (fun t u => TT.pos (by first | exact (u).symm | (simp only; rw [u])) (nx _))))))))))
        refine TT.ite (fun _ => ?_) (fun _ => ?_)
        · refine TT.guard (by decide) (TT.guard (by decide) (?_))
          refine TT.guard (sk0 hS) (TT.bindE (x_aid hS hF _ _) ?_)
          refine TT.guard (by decide) (TT.guard (by decide) (TT.guard (sk85 hS) (TT.bind (y_aid hS hF _ _) (fun t u => TT.pos (by first | exact (u).symm | (simp only; rw [u])) (nx _)))))
        refine TT.ite (fun _ => ?_) (fun _ => ?_)
        · refine TT.guard (by decide) (?_)
          refine TT.guard (sk0 hS) (TT.bindE (x_carry hS hF _) ?_)
          refine TT.guard (by decide) (TT.guard (sk85 hS) (TT.bind (y_carry hS hF _) (fun t u => TT.pos (by first | exact (u).symm | (simp only; rw [u])) (nx _))))
        refine TT.ite (fun _ => ?_) (fun _ => ?_)
        · refine TT.guard (by decide) (TT.guard (by decide) (?_))
          refine TT.guard (sk0 hS) (TT.bindE (x_round hS hF _ _) ?_)
          refine TT.guard (by decide) (TT.guard (by decide) (TT.guard (sk85 hS) (TT.bind (y_round hS hF _ _) (fun t u => TT.pos (by first | exact (u).symm | (simp only; rw [u])) (nx _)))))
        refine TT.ite (fun _ => ?_) (fun _ => ?_)
        · refine TT.guard (by decide) (TT.guard (by decide) (TT.guard (by decide) (?_)))
          refine TT.guard (sk0 hS) (TT.bindE (x_meets hS hF _ _ _) ?_)
          refine TT.guard (by decide) (TT.guard (by decide) (TT.guard (by decide) (TT.guard (sk85 hS) (TT.bind (y_meets hS hF _ _ _) (fun t u => TT.pos (by first | exact (u).symm | (simp only; rw [u])) (nx _))))))
        refine TT.ite (fun _ => ?_) (fun _ => ?_)
        · refine TT.guard (by decide) (TT.guard (by decide) (?_))
          refine TT.guard (sk0 hS) (TT.bindE (x_sight hS hF _ _) ?_)
          refine TT.guard (by decide) (TT.guard (by decide) (TT.guard (sk85 hS) (TT.bind (y_sight hS hF _ _) (fun t u => TT.pos (by first | exact (u).symm | (simp only; rw [u])) (nx _)))))
        refine TT.ite (fun _ => ?_) (fun _ => ?_)
        · refine TT.guard (by decide) (TT.guard (by decide) (TT.guard (by decide) (TT.guard (by decide) (TT.guard (by decide) (?_)))))
          refine TT.guard (sk0 hS) (TT.bindE (x_hands hS hF _ _ _ _ _) ?_)
          refine TT.guard (by decide) (TT.guard (by decide) (TT.guard (by decide) (TT.guard (by decide) (TT.guard (by decide) (TT.guard (sk85 hS) (TT.bind (y_hands hS hF _ _ _ _ _) (fun t u => TT.pos (by first | exact (u).symm | (simp only; rw [u])) (nx _))))))))
        refine TT.ite (fun _ => ?_) (fun _ => ?_)
        · refine TT.guard (by decide) (TT.guard (by decide) (TT.guard (by decide) (?_)))
          refine TT.jI ?_
          by_cases hb : xs (w32 (0 + 3)) = 0
          · refine TT.pos hb (TT.guard (sk0 hS) (TT.bindE (x_moved hS hF _ _ _) ?_))
            refine TT.guard (by decide) (TT.guard (by decide) (TT.guard (by decide) (TT.jI (TT.pos hb (TT.guard (sk85 hS) (TT.bind (y_moved hS hF _ _ _) (fun t u => TT.pos (by first | exact (u).symm | (simp only; rw [u])) (nx _))))))))
          · refine TT.neg hb (TT.guard (sk0 hS) (TT.bindE (x_moved hS hF _ _ _) ?_))
            refine TT.guard (by decide) (TT.guard (by decide) (TT.guard (by decide) (TT.jI (TT.neg hb (TT.guard (sk85 hS) (TT.bind (y_moved hS hF _ _ _) (fun t u => TT.pos (by first | exact (u).symm | (simp only; rw [u])) (nx _))))))))
        refine TT.ite (fun _ => ?_) (fun _ => ?_)
        · refine TT.guard (by decide) (TT.guard (by decide) (TT.guard (by decide) (TT.guard (by decide) (TT.guard (by decide) (?_)))))
          refine TT.guard (sk0 hS) (TT.bindE (x_quit hS hF _ _ _ _ _) ?_)
          refine TT.guard (by decide) (TT.guard (by decide) (TT.guard (by decide) (TT.guard (by decide) (TT.guard (by decide) (TT.guard (sk85 hS) (TT.bind (y_quit hS hF _ _ _ _ _) (fun t u => TT.pos (by first | exact (u).symm | (simp only; rw [u])) (nx _))))))))
        refine TT.ite (fun _ => ?_) (fun _ => ?_)
        · refine TT.guard (by decide) (TT.guard (by decide) (?_))
          refine TT.jI ?_
          by_cases hb : xs (w32 (0 + 2)) = 0
          · refine TT.pos hb (TT.guard (sk0 hS) (TT.bindE (x_alms _ _ _ _) ?_))
            refine TT.guard (by decide) (TT.guard (by decide) (TT.jI (TT.pos hb (TT.guard (sk85 hS) (TT.bind (y_alms (sk85 hS) _ _) (fun t u => TT.pos (by first | exact (u.1).symm | (simp only; rw [u.1])) (nx _)))))))
          · refine TT.neg hb (TT.guard (sk0 hS) (TT.bindE (x_alms _ _ _ _) ?_))
            refine TT.guard (by decide) (TT.guard (by decide) (TT.jI (TT.neg hb (TT.guard (sk85 hS) (TT.bind (y_alms (sk85 hS) _ _) (fun t u => TT.pos (by first | exact (u.1).symm | (simp only; rw [u.1])) (nx _)))))))
        refine TT.ite (fun _ => ?_) (fun _ => ?_)
        · refine TT.guard (by decide) (TT.guard (by decide) (TT.guard (by decide) (?_)))
          refine TT.guard (sk0 hS) (TT.bindE (x_prize hS hF _ _ _) ?_)
          refine TT.guard (by decide) (TT.guard (by decide) (TT.guard (by decide) (TT.guard (sk85 hS) (TT.bind (y_prize hS hF _ _ _) (fun t u => TT.pos (by first | exact (u).symm | (simp only; rw [u])) (nx _))))))
        refine TT.ite (fun _ => ?_) (fun _ => ?_)
        · refine TT.guard (by decide) (TT.guard (by decide) (?_))
          refine TT.guard (sk0 hS) (TT.bindE (x_rest hS hF _ _) ?_)
          refine TT.guard (by decide) (TT.guard (by decide) (TT.guard (sk85 hS) (TT.bind (y_rest hS hF _ _) (fun t u => TT.pos (by first | exact (u).symm | (simp only; rw [u])) (nx _)))))
        refine TT.ite (fun _ => ?_) (fun _ => ?_)
        · refine TT.guard (by decide) (TT.guard (by decide) (TT.guard (by decide) (?_)))
          refine TT.jI ?_
          by_cases hb : xs (w32 (0 + 3)) = 0
          · refine TT.pos hb (TT.guard (sk0 hS) (TT.bindE (x_share hS hF _ _ _) ?_))
            refine TT.guard (by decide) (TT.guard (by decide) (TT.guard (by decide) (TT.jI (TT.pos hb (TT.guard (sk85 hS) (TT.bind (y_share hS hF _ _ _) (fun t u => TT.pos (by first | exact (u).symm | (simp only; rw [u])) (nx _))))))))
          · refine TT.neg hb (TT.guard (sk0 hS) (TT.bindE (x_share hS hF _ _ _) ?_))
            refine TT.guard (by decide) (TT.guard (by decide) (TT.guard (by decide) (TT.jI (TT.neg hb (TT.guard (sk85 hS) (TT.bind (y_share hS hF _ _ _) (fun t u => TT.pos (by first | exact (u).symm | (simp only; rw [u])) (nx _))))))))
        refine TT.ite (fun _ => ?_) (fun _ => ?_)
        · refine TT.guard (by decide) (TT.guard (by decide) (?_))
          refine TT.guard (sk0 hS) (TT.bindE (x_even hS hF _ _) ?_)
          refine TT.guard (by decide) (TT.guard (by decide) (TT.guard (sk85 hS) (TT.bind (y_even hS hF _ _) (fun t u => TT.pos (by first | exact (u).symm | (simp only; rw [u])) (nx _)))))
        refine TT.ite (fun _ => ?_) (fun _ => ?_)
        · refine TT.guard (by decide) (TT.guard (by decide) (TT.guard (by decide) (TT.guard (by decide) (TT.guard (by decide) (?_)))))
          refine TT.guard (sk0 hS) (TT.bindE (x_drawn hS hF _ _ _ _ _) ?_)
          refine TT.guard (by decide) (TT.guard (by decide) (TT.guard (by decide) (TT.guard (by decide) (TT.guard (by decide) (TT.guard (sk85 hS) (TT.bind (y_drawn hS hF _ _ _ _ _) (fun t u => TT.pos (by first | exact (u).symm | (simp only; rw [u])) (nx _))))))))
        refine TT.ite (fun _ => ?_) (fun _ => ?_)
        · refine TT.guard (by decide) (TT.guard (by decide) (TT.guard (by decide) (TT.guard (by decide) (TT.guard (by decide) (?_)))))
          refine TT.guard (sk0 hS) (TT.bindE (x_wealth hS hF _ _ _ _ _) ?_)
          refine TT.guard (by decide) (TT.guard (by decide) (TT.guard (by decide) (TT.guard (by decide) (TT.guard (by decide) (TT.guard (sk85 hS) (TT.bind (y_wealth hS hF _ _ _ _ _) (fun t u => TT.pos (by first | exact (u).symm | (simp only; rw [u])) (nx _))))))))
        refine TT.ite (fun _ => ?_) (fun _ => ?_)
        · refine TT.guard (by decide) (TT.guard (by decide) (TT.guard (by decide) (TT.guard (by decide) (TT.guard (by decide) (?_)))))
          refine TT.guard (sk0 hS) (TT.bindE (x_haul hS hF _ _ _ _ _) ?_)
          refine TT.guard (by decide) (TT.guard (by decide) (TT.guard (by decide) (TT.guard (by decide) (TT.guard (by decide) (TT.guard (sk85 hS) (TT.bind (y_haul hS hF _ _ _ _ _) (fun t u => TT.pos (by first | exact (u).symm | (simp only; rw [u])) (nx _))))))))
        refine TT.ite (fun _ => ?_) (fun _ => ?_)
        · refine TT.guard (by decide) (TT.guard (by decide) (TT.guard (by decide) (?_)))
          refine TT.jI ?_
          by_cases hb : xs (w32 (0 + 3)) = 0
          · refine TT.pos hb (TT.guard (sk0 hS) (TT.bindE (x_crew hS hF _ _ _) ?_))
            refine TT.guard (by decide) (TT.guard (by decide) (TT.guard (by decide) (TT.jI (TT.pos hb (TT.guard (sk85 hS) (TT.bind (y_crew hS hF _ _ _) (fun t u => TT.pos (by first | exact (u).symm | (simp only; rw [u])) (nx _))))))))
          · refine TT.neg hb (TT.guard (sk0 hS) (TT.bindE (x_crew hS hF _ _ _) ?_))
            refine TT.guard (by decide) (TT.guard (by decide) (TT.guard (by decide) (TT.jI (TT.neg hb (TT.guard (sk85 hS) (TT.bind (y_crew hS hF _ _ _) (fun t u => TT.pos (by first | exact (u).symm | (simp only; rw [u])) (nx _))))))))
        refine TT.ite (fun _ => ?_) (fun _ => ?_)
        · refine TT.guard (by decide) (TT.guard (by decide) (?_))
          refine TT.guard (sk0 hS) (TT.bindE (x_pairs hS hF _ _) ?_)
          refine TT.guard (by decide) (TT.guard (by decide) (TT.guard (sk85 hS) (TT.bind (y_pairs hS hF _ _) (fun t u => TT.pos (by first | exact (u).symm | (simp only; rw [u])) (nx _)))))
        refine TT.ite (fun _ => ?_) (fun _ => ?_)
        · refine TT.guard (by decide) (?_)
          refine TT.guard (sk0 hS) (TT.bindE (x_count hS hF _) ?_)
          refine TT.guard (by decide) (TT.guard (sk85 hS) (TT.bind (y_count hS hF _) (fun t u => TT.pos (by first | exact (u).symm | (simp only; rw [u])) (nx _))))
        refine TT.ite (fun _ => ?_) (fun _ => ?_)
        · refine TT.guard (by decide) (?_)
          refine TT.guard (sk0 hS) (TT.bind (p1_image h4 h10 hS _) (fun r q => ?_))
          refine TT.guard (by decide) (TT.guard (sk85 q.2) (TT.bind (y_image q.2 _) (fun t u => TT.pos (by rw [q.1, u]) (nx _))))
        refine TT.ite (fun _ => ?_) (fun _ => ?_)
        · refine TT.guard (by decide) (?_)
          refine TT.guard (sk0 hS) (TT.bindE (x_again hS hF _) ?_)
          refine TT.guard (by decide) (TT.guard (sk85 hS) (TT.bind (y_again hS hF _) (fun t u => TT.pos (by first | exact (u).symm | (simp only; rw [u])) (nx _))))
        exact nx _
      · have e : w32 (8 - 8) < s.1 := by rw [hs]; decide
        exact TT.pos e (TT.ok rfl)
    · refine TT.iter (fun s : Int × Mem => s.1 = 0) (fun _ => 0) ?_ BIG (0, r10) rfl (by unfold BIG; omega)
      intro rec s hs hrec
      exact TT.pos (by rw [hs]; unfold w32; omega) (TT.ok rfl)
  obtain ⟨⟨v, M'⟩, h1, h2⟩ := key
  exact ⟨M', by rw [h1]; simp only at h2; rw [h2]⟩
