/-! the first call on a fresh object -/
theorem fp85_0 : freeOf PL 85 0 = true := by decide +kernel
theorem ff85_0 : freeOf FL0 85 0 = true := by decide +kernel
theorem fp85_27 : freeOf PL 85 27 = true := by decide +kernel
theorem ff85_27 : freeOf FL0 85 27 = true := by decide +kernel
theorem fp85_28 : freeOf PL 85 28 = true := by decide +kernel
theorem ff85_28 : freeOf FL0 85 28 = true := by decide +kernel
theorem fp85_48 : freeOf PL 85 48 = true := by decide +kernel
theorem ff85_48 : freeOf FL0 85 48 = true := by decide +kernel
section P1
variable {M : Mem}
theorem isThere_fr0 (h : Shp M) (f : Frs M) (k : Int) : fX6_isThere M 1 0 k = some 0 := by
  unfold fX6_isThere
  by_cases hk : k < 0
  · rw [if_pos hk]
  · rw [if_neg hk, if_pos (sk1 h), sp1_4 h, if_pos ⟨sk3 h, by decide, by rw [sl3 h]; decide⟩, fr3_0 f, if_neg hk]
theorem is_fr0 (h : Shp M) (f : Frs M) (k : Int) : fX11_is M 85 0 k = some 0 := by
  unfold fX11_is
  rw [if_pos (sk85 h), sp85_5 h, if_pos ⟨sk90 h, by decide, by rw [sl90 h]; decide⟩, fr90_0 f]
  unfold fX11_in
  by_cases hk : k < 0
  · rw [if_pos hk]; rfl
  · rw [if_neg hk, if_pos (show w32 (0 - 1) < k by unfold w32; omega)]; rfl
theorem isThere_fr1 (h : Shp M) (f : Frs M) (k : Int) : fX6_isThere M 1 1 k = some 0 := by
  unfold fX6_isThere
  by_cases hk : k < 0
  · rw [if_pos hk]
  · rw [if_neg hk, if_pos (sk1 h), sp1_4 h, if_pos ⟨sk3 h, by decide, by rw [sl3 h]; decide⟩, fr3_1 f, if_neg hk]
theorem is_fr1 (h : Shp M) (f : Frs M) (k : Int) : fX11_is M 85 1 k = some 0 := by
  unfold fX11_is
  rw [if_pos (sk85 h), sp85_5 h, if_pos ⟨sk90 h, by decide, by rw [sl90 h]; decide⟩, fr90_1 f]
  unfold fX11_in
  by_cases hk : k < 0
  · rw [if_pos hk]; rfl
  · rw [if_neg hk, if_pos (show w32 (0 - 1) < k by unfold w32; omega)]; rfl
theorem isThere_fr2 (h : Shp M) (f : Frs M) (k : Int) : fX6_isThere M 1 2 k = some 0 := by
  unfold fX6_isThere
  by_cases hk : k < 0
  · rw [if_pos hk]
  · rw [if_neg hk, if_pos (sk1 h), sp1_4 h, if_pos ⟨sk3 h, by decide, by rw [sl3 h]; decide⟩, fr3_2 f, if_neg hk]
theorem is_fr2 (h : Shp M) (f : Frs M) (k : Int) : fX11_is M 85 2 k = some 0 := by
  unfold fX11_is
  rw [if_pos (sk85 h), sp85_5 h, if_pos ⟨sk90 h, by decide, by rw [sl90 h]; decide⟩, fr90_2 f]
  unfold fX11_in
  by_cases hk : k < 0
  · rw [if_pos hk]; rfl
  · rw [if_neg hk, if_pos (show w32 (0 - 1) < k by unfold w32; omega)]; rfl
theorem isThere_fr3 (h : Shp M) (f : Frs M) (k : Int) : fX6_isThere M 1 3 k = some 0 := by
  unfold fX6_isThere
  by_cases hk : k < 0
  · rw [if_pos hk]
  · rw [if_neg hk, if_pos (sk1 h), sp1_4 h, if_pos ⟨sk3 h, by decide, by rw [sl3 h]; decide⟩, fr3_3 f, if_neg hk]
theorem is_fr3 (h : Shp M) (f : Frs M) (k : Int) : fX11_is M 85 3 k = some 0 := by
  unfold fX11_is
  rw [if_pos (sk85 h), sp85_5 h, if_pos ⟨sk90 h, by decide, by rw [sl90 h]; decide⟩, fr90_3 f]
  unfold fX11_in
  by_cases hk : k < 0
  · rw [if_pos hk]; rfl
  · rw [if_neg hk, if_pos (show w32 (0 - 1) < k by unfold w32; omega)]; rfl
theorem townAt_fr (h : Shp M) (f : Frs M) (k : Int) : fX6_townAt M 1 k = some (-1) := by
  unfold fX6_townAt
  rw [if_pos (sk1 h), isThere_fr0 h f]; rfl
theorem lawAt_fr (h : Shp M) (f : Frs M) (k : Int) : fX6_lawAt M 1 k = some (-1) := by
  unfold fX6_lawAt
  rw [if_pos (sk1 h), isThere_fr1 h f]; rfl
theorem nightsAt_fr (h : Shp M) (f : Frs M) (k : Int) : fX6_nightsAt M 1 k = some (-1) := by
  unfold fX6_nightsAt
  rw [if_pos (sk1 h), isThere_fr2 h f]; rfl
theorem sightAt_fr (h : Shp M) (f : Frs M) (k : Int) : fX6_sightAt M 1 k = some (-1) := by
  unfold fX6_sightAt
  rw [if_pos (sk1 h), isThere_fr3 h f]; rfl
theorem hand_fr (h : Shp M) (f : Frs M) (k : Int) : fX11_hand M 85 k = some (0, M) := by
  unfold fX11_hand
  rw [if_pos (sk85 h), is_fr0 h f]; rfl
theorem hasLaw_fr (h : Shp M) (f : Frs M) (k : Int) : fX11_hasLaw M 85 k = some (0, mst M 85 27 k) := by
  unfold fX11_hasLaw
  rw [if_pos (sk85 h)]
  show (fX11_is (mst M 85 27 k) 85 1 k).bind _ = _
  rw [is_fr1 (h.mst k fp85_27) (f.mst k ff85_27)]; rfl
theorem hasNights_fr (h : Shp M) (f : Frs M) (k : Int) : fX11_hasNights M 85 k = some (0, mst M 85 28 k) := by
  unfold fX11_hasNights
  rw [if_pos (sk85 h)]
  show (fX11_is (mst M 85 28 k) 85 2 k).bind _ = _
  rw [is_fr2 (h.mst k fp85_28) (f.mst k ff85_28)]; rfl
theorem hasSight_fr (h : Shp M) (f : Frs M) (k : Int) : fX11_hasSight M 85 k = some (0, mst M 85 48 k) := by
  unfold fX11_hasSight
  rw [if_pos (sk85 h)]
  show (fX11_is (mst M 85 48 k) 85 3 k).bind _ = _
  rw [is_fr3 (h.mst k fp85_48) (f.mst k ff85_48)]; rfl
theorem layAll_fr (h : Shp M) (f : Frs M) (t l n : Int) : fX11_layAll M 85 t l n = some (0, mst M 85 27 l) := by
  unfold fX11_layAll
  rw [if_pos (sk85 h), hasLaw_fr h f]; rfl
theorem layState_fr (h : Shp M) (f : Frs M) (t l n k : Int) : fX11_layState M 85 t l n k = some (0, mst M 85 27 l) := by
  unfold fX11_layState
  rw [if_pos (sk85 h), layAll_fr h f]; rfl
theorem walkTo_fr (h : Shp M) (f : Frs M) (t l n k : Int) : fX10_walkTo M 0 t l n k = some (0, M) := by
  unfold fX10_walkTo
  rw [if_pos (sk0 h), sp0_0 h, if_pos (sk1 h), townAt_fr h f, lawAt_fr h f]
  refine (show Option.bind (some (-1)) _ = _ from ?_)
  refine (show Option.bind (some (-1)) _ = _ from ?_)
  obtain ⟨r, hr⟩ : ∃ r, fX6_nightsAt M 1 n = some r := ⟨_, nightsAt_fr h f n⟩
  rw [hr]; rfl
theorem walkJust_fr (h : Shp M) (f : Frs M) (t l n k : Int) : fX10_walkJust M 0 t l n k = some (0, M) := by
  unfold fX10_walkJust
  by_cases h1 : k < 0
  · rw [if_pos h1]
  · by_cases h2 : 40 < k
    · rw [if_neg h1, if_pos h2]
    · rw [if_neg h1, if_neg h2, if_pos (sk0 h), walkTo_fr h f]; rfl
theorem x_town (h : Shp M) (f : Frs M) (b0 b1 : Int) : fX10_town M 0 b0 b1 = some (-2) := by
  unfold fX10_town
  rw [if_pos (sk0 h), sp0_0 h, if_pos (sk1 h), townAt_fr h f]; rfl
theorem x_house (h : Shp M) (f : Frs M) (b0 b1 b2 b3 : Int) : fX10_house M 0 b0 b1 b2 b3 = some (-1) := by
  unfold fX10_house
  rw [if_pos (sk0 h), sp0_0 h, if_pos (sk1 h), townAt_fr h f]; rfl
theorem x_law (h : Shp M) (f : Frs M) (b0 b1 : Int) : fX10_law M 0 b0 b1 = some (-1) := by
  unfold fX10_law
  rw [if_pos (sk0 h), sp0_0 h, if_pos (sk1 h), lawAt_fr h f]; rfl
theorem x_deed (h : Shp M) (f : Frs M) (b0 b1 b2 : Int) : fX10_deed M 0 b0 b1 b2 = some (-2) := by
  unfold fX10_deed
  rw [if_pos (sk0 h), sp0_0 h, if_pos (sk1 h), nightsAt_fr h f]; rfl
theorem x_aid (h : Shp M) (f : Frs M) (b0 b1 : Int) : fX10_aid M 0 b0 b1 = some (-2) := by
  unfold fX10_aid
  rw [if_pos (sk0 h), sp0_0 h, if_pos (sk1 h), townAt_fr h f]; rfl
theorem x_round (h : Shp M) (f : Frs M) (b0 b1 : Int) : fX10_round M 0 b0 b1 = some (-1) := by
  unfold fX10_round
  rw [if_pos (sk0 h), sp0_0 h, if_pos (sk1 h), townAt_fr h f]; rfl
theorem x_meets (h : Shp M) (f : Frs M) (b0 b1 b2 : Int) : fX10_meets M 0 b0 b1 b2 = some (-1) := by
  unfold fX10_meets
  rw [if_pos (sk0 h), sp0_0 h, if_pos (sk1 h), townAt_fr h f]; rfl
theorem x_sight (h : Shp M) (f : Frs M) (b0 b1 : Int) : fX10_sight M 0 b0 b1 = some (-2) := by
  unfold fX10_sight
  rw [if_pos (sk0 h), sp0_0 h, if_pos (sk1 h), sightAt_fr h f]; rfl
theorem x_moved (h : Shp M) (f : Frs M) (b0 b1 b2 : Int) : fX10_moved M 0 b0 b1 b2 = some (-1) := by
  unfold fX10_moved
  rw [if_pos (sk0 h), sp0_0 h, if_pos (sk1 h), townAt_fr h f, sightAt_fr h f]; rfl
theorem x_quit (h : Shp M) (f : Frs M) (b0 b1 b2 b3 b4 : Int) : fX10_quit M 0 b0 b1 b2 b3 b4 = some (-1) := by
  unfold fX10_quit
  rw [if_pos (sk0 h), sp0_0 h, if_pos (sk1 h), lawAt_fr h f]; rfl
theorem x_prize (h : Shp M) (f : Frs M) (b0 b1 b2 : Int) : fX10_prize M 0 b0 b1 b2 = some (-1000) := by
  unfold fX10_prize
  rw [if_pos (sk0 h), sp0_0 h, if_pos (sk1 h), townAt_fr h f]; rfl
theorem x_rest (h : Shp M) (f : Frs M) (b0 b1 : Int) : fX10_rest M 0 b0 b1 = some (-1) := by
  unfold fX10_rest
  rw [if_pos (sk0 h), sp0_0 h, if_pos (sk1 h), townAt_fr h f]; rfl
theorem x_share (h : Shp M) (f : Frs M) (b0 b1 b2 : Int) : fX10_share M 0 b0 b1 b2 = some (-1) := by
  unfold fX10_share
  rw [if_pos (sk0 h), sp0_0 h, if_pos (sk1 h), townAt_fr h f]; rfl
theorem x_even (h : Shp M) (f : Frs M) (b0 b1 : Int) : fX10_even M 0 b0 b1 = some (-1) := by
  unfold fX10_even
  rw [if_pos (sk0 h), sp0_0 h, if_pos (sk1 h), townAt_fr h f]; rfl
theorem x_crew (h : Shp M) (f : Frs M) (b0 b1 b2 : Int) : fX10_crew M 0 b0 b1 b2 = some (-1) := by
  unfold fX10_crew
  rw [if_pos (sk0 h), sp0_0 h, if_pos (sk1 h), townAt_fr h f]; rfl
theorem x_pairs (h : Shp M) (f : Frs M) (b0 b1 : Int) : fX10_pairs M 0 b0 b1 = some (-1) := by
  unfold fX10_pairs
  rw [if_pos (sk0 h), sp0_0 h, if_pos (sk1 h), townAt_fr h f]; rfl
theorem x_carry (h : Shp M) (f : Frs M) (b0 : Int) : fX10_carry M 0 b0 = some ((-1), M) := by
  unfold fX10_carry
  rw [if_pos (sk0 h), sp0_0 h, if_pos (sk1 h), townAt_fr h f]; rfl
theorem x_hands (h : Shp M) (f : Frs M) (b0 b1 b2 b3 b4 : Int) : fX10_hands M 0 b0 b1 b2 b3 b4 = some ((-1), M) := by
  unfold fX10_hands
  rw [if_pos (sk0 h), sp0_0 h, if_pos (sk1 h), sightAt_fr h f]; rfl
theorem x_drawn (h : Shp M) (f : Frs M) (b0 b1 b2 b3 b4 : Int) : fX10_drawn M 0 b0 b1 b2 b3 b4 = some ((-1000), M) := by
  unfold fX10_drawn
  rw [if_pos (sk0 h), sp0_0 h, if_pos (sk1 h), townAt_fr h f, lawAt_fr h f]; rfl
theorem x_haul (h : Shp M) (f : Frs M) (b0 b1 b2 b3 b4 : Int) : fX10_haul M 0 b0 b1 b2 b3 b4 = some ((-1), M) := by
  unfold fX10_haul
  rw [if_pos (sk0 h), sp0_0 h, if_pos (sk1 h), townAt_fr h f]; rfl
theorem x_stop (h : Shp M) (f : Frs M) (b0 b1 b2 : Int) : fX10_stop M 0 b0 b1 b2 = some ((-1), M) := by
  unfold fX10_stop
  rw [if_pos (sk0 h), walkTo_fr h f]; rfl
theorem x_state (h : Shp M) (f : Frs M) (b0 b1 b2 b3 b4 : Int) : fX10_state M 0 b0 b1 b2 b3 b4 = some ((-1000), M) := by
  unfold fX10_state
  rw [if_pos (sk0 h), walkJust_fr h f]; rfl
theorem x_wealth (h : Shp M) (f : Frs M) (b0 b1 b2 b3 b4 : Int) : fX10_wealth M 0 b0 b1 b2 b3 b4 = some ((-1000), M) := by
  unfold fX10_wealth
  rw [if_pos (sk0 h), walkJust_fr h f]; rfl
theorem x_goods (h : Shp M) (f : Frs M) (b0 b1 b2 b3 b4 b5 b6 : Int) : fX10_goods M 0 b0 b1 b2 b3 b4 b5 b6 = some ((-1), M) := by
  unfold fX10_goods
  obtain ⟨r, hr⟩ : ∃ r, fX10_isGood M b6 = some r := by
    unfold fX10_isGood
    by_cases h1 : b6 < 0
    · exact ⟨_, if_pos h1⟩
    · by_cases h2 : b6 < 5
      · exact ⟨_, by rw [if_neg h1, if_pos h2]⟩
      · exact ⟨_, by rw [if_neg h1, if_neg h2]⟩
  rw [hr]
  show (if r = 0 then _ else _) = _
  by_cases h0 : r = 0
  · rw [if_pos h0]
  · rw [if_neg h0, if_pos (sk0 h), walkJust_fr h f]; rfl
theorem x_again (h : Shp M) (f : Frs M) (k : Int) : fX10_again M 0 k = some (0, M) := by
  unfold fX10_again
  by_cases h1 : k < 0
  · rw [if_pos h1]
  · by_cases h2 : k < 3
    · rw [if_neg h1, if_pos h2, if_pos (sk0 h), sp0_1 h, if_pos ⟨by rw [sk46 h]; decide, by omega, by rw [sl46 h]; exact h2⟩, if_pos]
      rcases (show k = 0 ∨ k = 1 ∨ k = 2 by omega) with rfl | rfl | rfl
      · exact fr46_0 f
      · exact fr46_1 f
      · exact fr46_2 f
    · rw [if_neg h1, if_neg h2]
theorem x_end (h : Shp M) (f : Frs M) (n : Int) : TT (fX10_end M 0 n) (fun r => r.2.2 = M.2 ∧ r.1 = (if n = 0 then 0 else -1) ∧ ∀ x y, x ≠ 2 → (x = 1 → y ≠ 1 ∧ y ≠ 2 ∧ y ≠ 3) → r.2.1 x y = M.1 x y) := by
  unfold fX10_end
  refine TT.ite (fun h1 => TT.ok ⟨rfl, by rw [if_neg (by omega)], fun _ _ _ _ => rfl⟩) (fun h1 => ?_)
  rw [sp0_0 h, fr1_1 f]
  refine TT.guard (sk0 h) (TT.guard (sk1 h) (TT.ite (fun h2 => TT.ok ⟨rfl, by rw [if_neg (by omega)], fun _ _ _ _ => rfl⟩) (fun h2 => TT.sM (TT.ok ⟨rfl, by rw [if_pos (by omega)]; show n = 0; omega, fun x y _ hy => by show (mst M 1 1 n).1 x y = _; rw [mst_r, if_neg (fun q => (hy q.1).1 q.2)]⟩))))
theorem x_fault (h : Shp M) (f : Frs M) (n : Int) : fX10_fault M 0 n = some (if n = 0 then 0 else -1) := by
  unfold fX10_fault
  by_cases h1 : n = 0
  · rw [if_pos h1, if_pos (sk0 h), sp0_0 h, if_pos (sk1 h), fr1_2 f, if_pos h1]
  · by_cases h2 : n = 1
    · rw [if_neg h1, if_pos h2, if_pos (sk0 h), sp0_0 h, if_pos (sk1 h), fr1_3 f, if_neg h1]
    · rw [if_neg h1, if_neg h2, if_neg h1]
theorem x_count (h : Shp M) (f : Frs M) (n : Int) : fX10_count M 0 n = some (if 0 ≤ n ∧ n < 4 then 0 else -2) := by
  unfold fX10_count
  by_cases h1 : n < 0
  · rw [if_pos h1, if_neg (by omega)]
  · by_cases h2 : n < 4
    · rw [if_neg h1, if_pos h2, if_pos (sk0 h), sp0_0 h, if_pos (sk1 h), sp1_4 h, if_pos ⟨sk3 h, by omega, by rw [sl3 h]; exact h2⟩, if_pos ⟨by omega, h2⟩]
      rcases (show n = 0 ∨ n = 1 ∨ n = 2 ∨ n = 3 by omega) with rfl | rfl | rfl | rfl
      · rw [fr3_0 f]
      · rw [fr3_1 f]
      · rw [fr3_2 f]
      · rw [fr3_3 f]
    · rw [if_neg h1, if_neg h2, if_neg (by omega)]
theorem x_feed (h : Shp M) (f : Frs M) (b0 b1 b2 b3 b4 : Int) : TT (fX10_feed M 0 b0 b1 b2 b3 b4) (fun r => r.2.2 = M.2 ∧ r.1 = 20 ∧ ∀ x y, x ≠ 2 → (x = 1 → y ≠ 1 ∧ y ≠ 2 ∧ y ≠ 3) → r.2.1 x y = M.1 x y) := by
  unfold fX10_feed
  rw [sp0_0 h, fr1_1 f]
  refine TT.guard (sk0 h) (TT.guard (sk1 h) (TT.neg (by decide) ?_))
  have key : ∀ (N : Mem) (n v : Int), N.2 = M.2 ∧ N.1 1 1 = n ∧ (∀ x y, x ≠ 2 → ¬(x = 1 ∧ y = 1) → N.1 x y = M.1 x y) → 0 ≤ n → n ≤ 596 → TT (fX6_put N 1 v) (fun r => r.2 = M.2 ∧ r.1 1 1 = n + 4 ∧ (∀ x y, x ≠ 2 → ¬(x = 1 ∧ y = 1) → r.1 x y = M.1 x y)) := by
    rintro N n v ⟨e1, e2, e3⟩ n0 n1
    refine (put_T (t := 2) (n := n) v (by rw [e1]; exact sk1 h) (by rw [e3 1 0 (by decide) (fun q => absurd q.2 (by decide))]; exact sp1_0 h) (by rw [e1]; exact sk2 h) (by rw [e1]; exact sl2 h) (by decide) e2 n0 n1).mono ?_
    rintro r ⟨g1, g2, g3, -⟩
    exact ⟨g1.trans e1, g2, fun x y hx hy => (g3 x y hx hy).trans (e3 x y hx hy)⟩
  have g9 : ∀ N : Mem, N.2 = M.2 → N.2.1 0 = 9 := fun N e => by rw [e]; exact sk0 h
  have g6 : ∀ N : Mem, N.2 = M.2 → (∀ x y, x ≠ 2 → ¬(x = 1 ∧ y = 1) → N.1 x y = M.1 x y) → N.1 0 0 = 1 := fun N e e3 => by rw [e3 0 0 (by decide) (fun q => absurd q.1 (by decide)), sp0_0 h]
  have g7 : ∀ N : Mem, N.2 = M.2 → N.2.1 1 = 6 := fun N e => by rw [e]; exact sk1 h
  refine TT.bind (key M 0 b0 ⟨rfl, fr1_1 f, fun _ _ _ _ => rfl⟩ (by decide) (by decide)) (fun r1 q1 => ?_)
  refine TT.guard (g9 _ q1.1) ?_
  rw [g6 _ q1.1 q1.2.2]
  refine TT.guard (g7 _ q1.1) (TT.bind (key r1 _ b1 q1 (by decide) (by decide)) (fun r2 q2 => ?_))
  refine TT.guard (g9 _ q2.1) ?_
  rw [g6 _ q2.1 q2.2.2]
  refine TT.guard (g7 _ q2.1) (TT.bind (key r2 _ b2 q2 (by decide) (by decide)) (fun r3 q3 => ?_))
  refine TT.guard (g9 _ q3.1) ?_
  rw [g6 _ q3.1 q3.2.2]
  refine TT.guard (g7 _ q3.1) (TT.bind (key r3 _ b3 q3 (by decide) (by decide)) (fun r4 q4 => ?_))
  refine TT.guard (g9 _ q4.1) ?_
  rw [g6 _ q4.1 q4.2.2]
  refine TT.guard (g7 _ q4.1) (TT.bind (key r4 _ b4 q4 (by decide) (by decide)) (fun r5 q5 => ?_))
  refine TT.guard (g9 _ q5.1) ?_
  rw [g6 _ q5.1 q5.2.2]
  refine TT.guard (g7 _ q5.1) (TT.ok ⟨q5.1, by show r5.1 1 1 = 20; rw [q5.2.1]; decide, fun x y hx hy => q5.2.2 x y hx (fun q => (hy q.1).1 q.2)⟩)
theorem y_town (h : Shp M) (f : Frs M) (b0 b1 : Int) : TT (fX11_town M 85 b0 b1) (fun q => q.1 = (-2)) := by
  have h2 := h.mst (a := 85) (i := 0) 0 fp85_0
  have f2 := f.mst (a := 85) (i := 0) 0 ff85_0
  unfold fX11_town
  exact TT.guard (sk85 h) (TT.sM (TT.bindE (hand_fr h2 f2 _) (TT.pos rfl (TT.ok rfl))))
theorem y_house (h : Shp M) (f : Frs M) (b0 b1 b2 b3 : Int) : TT (fX11_house M 85 b0 b1 b2 b3) (fun q => q.1 = (-1)) := by
  have h2 := h.mst (a := 85) (i := 0) 0 fp85_0
  have f2 := f.mst (a := 85) (i := 0) 0 ff85_0
  unfold fX11_house
  exact TT.guard (sk85 h) (TT.sM (TT.bindE (hand_fr h2 f2 _) (TT.pos rfl (TT.ok rfl))))
theorem y_law (h : Shp M) (f : Frs M) (b0 b1 : Int) : TT (fX11_law M 85 b0 b1) (fun q => q.1 = (-1)) := by
  have h2 := h.mst (a := 85) (i := 0) 0 fp85_0
  have f2 := f.mst (a := 85) (i := 0) 0 ff85_0
  unfold fX11_law
  exact TT.guard (sk85 h) (TT.sM (TT.bindE (hasLaw_fr h2 f2 _) (TT.pos rfl (TT.ok rfl))))
theorem y_deed (h : Shp M) (f : Frs M) (b0 b1 b2 : Int) : TT (fX11_deed M 85 b0 b1 b2) (fun q => q.1 = (-2)) := by
  have h2 := h.mst (a := 85) (i := 0) 0 fp85_0
  have f2 := f.mst (a := 85) (i := 0) 0 ff85_0
  unfold fX11_deed
  exact TT.guard (sk85 h) (TT.sM (TT.bindE (hasNights_fr h2 f2 _) (TT.pos rfl (TT.ok rfl))))
theorem y_stop (h : Shp M) (f : Frs M) (b0 b1 b2 : Int) : TT (fX11_stop M 85 b0 b1 b2) (fun q => q.1 = (-1)) := by
  have h2 := h.mst (a := 85) (i := 0) 0 fp85_0
  have f2 := f.mst (a := 85) (i := 0) 0 ff85_0
  unfold fX11_stop
  exact TT.guard (sk85 h) (TT.sM (TT.bindE (layAll_fr h2 f2 _ _ _) (TT.pos rfl (TT.ok rfl))))
theorem y_state (h : Shp M) (f : Frs M) (b0 b1 b2 b3 b4 : Int) : TT (fX11_state M 85 b0 b1 b2 b3 b4) (fun q => q.1 = (-1000)) := by
  have h2 := h.mst (a := 85) (i := 0) 0 fp85_0
  have f2 := f.mst (a := 85) (i := 0) 0 ff85_0
  unfold fX11_state
  exact TT.guard (sk85 h) (TT.sM (TT.bindE (layState_fr h2 f2 _ _ _ _) (TT.pos rfl (TT.ok rfl))))
theorem y_goods (h : Shp M) (f : Frs M) (b0 b1 b2 b3 b4 b5 b6 : Int) : TT (fX11_goods M 85 b0 b1 b2 b3 b4 b5 b6) (fun q => q.1 = (-1)) := by
  have h2 := h.mst (a := 85) (i := 0) 0 fp85_0
  have f2 := f.mst (a := 85) (i := 0) 0 ff85_0
  unfold fX11_goods
  exact TT.guard (sk85 h) (TT.sM (TT.bindE (layState_fr h2 f2 _ _ _ _) (TT.pos rfl (TT.ok rfl))))
theorem y_aid (h : Shp M) (f : Frs M) (b0 b1 : Int) : TT (fX11_aid M 85 b0 b1) (fun q => q.1 = (-2)) := by
  have h2 := h.mst (a := 85) (i := 0) 0 fp85_0
  have f2 := f.mst (a := 85) (i := 0) 0 ff85_0
  unfold fX11_aid
  exact TT.guard (sk85 h) (TT.sM (TT.bindE (hand_fr h2 f2 _) (TT.pos rfl (TT.ok rfl))))
theorem y_carry (h : Shp M) (f : Frs M) (b0 : Int) : TT (fX11_carry M 85 b0) (fun q => q.1 = (-1)) := by
  have h2 := h.mst (a := 85) (i := 0) 0 fp85_0
  have f2 := f.mst (a := 85) (i := 0) 0 ff85_0
  unfold fX11_carry
  exact TT.guard (sk85 h) (TT.sM (TT.bindE (hand_fr h2 f2 _) (TT.pos rfl (TT.ok rfl))))
theorem y_round (h : Shp M) (f : Frs M) (b0 b1 : Int) : TT (fX11_round M 85 b0 b1) (fun q => q.1 = (-1)) := by
  have h2 := h.mst (a := 85) (i := 0) 0 fp85_0
  have f2 := f.mst (a := 85) (i := 0) 0 ff85_0
  unfold fX11_round
  exact TT.guard (sk85 h) (TT.sM (TT.bindE (hand_fr h2 f2 _) (TT.pos rfl (TT.ok rfl))))
theorem y_meets (h : Shp M) (f : Frs M) (b0 b1 b2 : Int) : TT (fX11_meets M 85 b0 b1 b2) (fun q => q.1 = (-1)) := by
  have h2 := h.mst (a := 85) (i := 0) 0 fp85_0
  have f2 := f.mst (a := 85) (i := 0) 0 ff85_0
  unfold fX11_meets
  exact TT.guard (sk85 h) (TT.sM (TT.bindE (hand_fr h2 f2 _) (TT.pos rfl (TT.ok rfl))))
theorem y_sight (h : Shp M) (f : Frs M) (b0 b1 : Int) : TT (fX11_sight M 85 b0 b1) (fun q => q.1 = (-2)) := by
  have h2 := h.mst (a := 85) (i := 0) 0 fp85_0
  have f2 := f.mst (a := 85) (i := 0) 0 ff85_0
  unfold fX11_sight
  exact TT.guard (sk85 h) (TT.sM (TT.bindE (hasSight_fr h2 f2 _) (TT.pos rfl (TT.ok rfl))))
theorem y_hands (h : Shp M) (f : Frs M) (b0 b1 b2 b3 b4 : Int) : TT (fX11_hands M 85 b0 b1 b2 b3 b4) (fun q => q.1 = (-1)) := by
  have h2 := h.mst (a := 85) (i := 0) 0 fp85_0
  have f2 := f.mst (a := 85) (i := 0) 0 ff85_0
  unfold fX11_hands
  exact TT.guard (sk85 h) (TT.sM (TT.bindE (hasSight_fr h2 f2 _) (TT.pos rfl (TT.ok rfl))))
theorem y_moved (h : Shp M) (f : Frs M) (b0 b1 b2 : Int) : TT (fX11_moved M 85 b0 b1 b2) (fun q => q.1 = (-1)) := by
  have h2 := h.mst (a := 85) (i := 0) 0 fp85_0
  have f2 := f.mst (a := 85) (i := 0) 0 ff85_0
  unfold fX11_moved
  exact TT.guard (sk85 h) (TT.sM (TT.bindE (hasSight_fr h2 f2 _) (TT.pos rfl (TT.ok rfl))))
theorem y_quit (h : Shp M) (f : Frs M) (b0 b1 b2 b3 b4 : Int) : TT (fX11_quit M 85 b0 b1 b2 b3 b4) (fun q => q.1 = (-1)) := by
  have h2 := h.mst (a := 85) (i := 0) 0 fp85_0
  have f2 := f.mst (a := 85) (i := 0) 0 ff85_0
  unfold fX11_quit
  exact TT.guard (sk85 h) (TT.sM (TT.bindE (hasLaw_fr h2 f2 _) (TT.pos rfl (TT.ok rfl))))
theorem y_prize (h : Shp M) (f : Frs M) (b0 b1 b2 : Int) : TT (fX11_prize M 85 b0 b1 b2) (fun q => q.1 = (-1000)) := by
  have h2 := h.mst (a := 85) (i := 0) 0 fp85_0
  have f2 := f.mst (a := 85) (i := 0) 0 ff85_0
  unfold fX11_prize
  exact TT.guard (sk85 h) (TT.sM (TT.bindE (hand_fr h2 f2 _) (TT.pos rfl (TT.ok rfl))))
theorem y_rest (h : Shp M) (f : Frs M) (b0 b1 : Int) : TT (fX11_rest M 85 b0 b1) (fun q => q.1 = (-1)) := by
  have h2 := h.mst (a := 85) (i := 0) 0 fp85_0
  have f2 := f.mst (a := 85) (i := 0) 0 ff85_0
  unfold fX11_rest
  exact TT.guard (sk85 h) (TT.sM (TT.bindE (hand_fr h2 f2 _) (TT.pos rfl (TT.ok rfl))))
theorem y_share (h : Shp M) (f : Frs M) (b0 b1 b2 : Int) : TT (fX11_share M 85 b0 b1 b2) (fun q => q.1 = (-1)) := by
  have h2 := h.mst (a := 85) (i := 0) 0 fp85_0
  have f2 := f.mst (a := 85) (i := 0) 0 ff85_0
  unfold fX11_share
  exact TT.guard (sk85 h) (TT.sM (TT.bindE (hand_fr h2 f2 _) (TT.pos rfl (TT.ok rfl))))
theorem y_even (h : Shp M) (f : Frs M) (b0 b1 : Int) : TT (fX11_even M 85 b0 b1) (fun q => q.1 = (-1)) := by
  have h2 := h.mst (a := 85) (i := 0) 0 fp85_0
  have f2 := f.mst (a := 85) (i := 0) 0 ff85_0
  unfold fX11_even
  exact TT.guard (sk85 h) (TT.sM (TT.bindE (hand_fr h2 f2 _) (TT.pos rfl (TT.ok rfl))))
theorem y_wealth (h : Shp M) (f : Frs M) (b0 b1 b2 b3 b4 : Int) : TT (fX11_wealth M 85 b0 b1 b2 b3 b4) (fun q => q.1 = (-1000)) := by
  have h2 := h.mst (a := 85) (i := 0) 0 fp85_0
  have f2 := f.mst (a := 85) (i := 0) 0 ff85_0
  unfold fX11_wealth
  exact TT.guard (sk85 h) (TT.sM (TT.bindE (layState_fr h2 f2 _ _ _ _) (TT.pos rfl (TT.ok rfl))))
theorem y_haul (h : Shp M) (f : Frs M) (b0 b1 b2 b3 b4 : Int) : TT (fX11_haul M 85 b0 b1 b2 b3 b4) (fun q => q.1 = (-1)) := by
  have h2 := h.mst (a := 85) (i := 0) 0 fp85_0
  have f2 := f.mst (a := 85) (i := 0) 0 ff85_0
  unfold fX11_haul
  exact TT.guard (sk85 h) (TT.sM (TT.bindE (hand_fr h2 f2 _) (TT.pos rfl (TT.ok rfl))))
theorem y_crew (h : Shp M) (f : Frs M) (b0 b1 b2 : Int) : TT (fX11_crew M 85 b0 b1 b2) (fun q => q.1 = (-1)) := by
  have h2 := h.mst (a := 85) (i := 0) 0 fp85_0
  have f2 := f.mst (a := 85) (i := 0) 0 ff85_0
  unfold fX11_crew
  exact TT.guard (sk85 h) (TT.sM (TT.bindE (hand_fr h2 f2 _) (TT.pos rfl (TT.ok rfl))))
theorem y_pairs (h : Shp M) (f : Frs M) (b0 b1 : Int) : TT (fX11_pairs M 85 b0 b1) (fun q => q.1 = (-1)) := by
  have h2 := h.mst (a := 85) (i := 0) 0 fp85_0
  have f2 := f.mst (a := 85) (i := 0) 0 ff85_0
  unfold fX11_pairs
  exact TT.guard (sk85 h) (TT.sM (TT.bindE (hand_fr h2 f2 _) (TT.pos rfl (TT.ok rfl))))
theorem in_v (M : Mem) (a b c : Int) : fX11_in M a b c = some (if b ≤ a ∧ a ≤ c then 1 else 0) := by
  unfold fX11_in
  by_cases h1 : a < b
  · rw [if_pos h1, if_neg (by omega)]
  · by_cases h2 : c < a
    · rw [if_neg h1, if_pos h2, if_neg (by omega)]
    · rw [if_neg h1, if_neg h2, if_pos (by omega)]
theorem y_drawn (h : Shp M) (f : Frs M) (b0 b1 b2 b3 b4 : Int) : TT (fX11_drawn M 85 b0 b1 b2 b3 b4) (fun q => q.1 = (-1000)) := by
  have h2 := h.mst (a := 85) (i := 0) 0 fp85_0
  have f2 := f.mst (a := 85) (i := 0) 0 ff85_0
  unfold fX11_drawn
  refine TT.guard (sk85 h) (TT.sM (TT.bindE (in_v _ _ _ _) (TT.ite (fun _ => TT.ok rfl) (fun _ => ?_))))
  exact TT.bindE (hasLaw_fr h2 f2 _) (TT.pos rfl (TT.ok rfl))
theorem y_end (h : Shp M) (f : M.1 87 0 = 0) (n : Int) : TT (fX11_end M 85 n) (fun q => q.1 = (if n = 0 then 0 else -1)) := by
  have h2 := h.mst (a := 85) (i := 0) 0 fp85_0
  unfold fX11_end
  refine TT.guard (sk85 h) (TT.sM ?_)
  rw [sp85_2 h2]
  have g : (mst M 85 0 0).2.1 87 = 12 ∧ (0 : Int) ≤ 0 ∧ 0 < (mst M 85 0 0).2.2.1 87 := ⟨sk87 h, by decide, by rw [mst_l, sl87 h]; decide⟩
  refine TT.guard g (TT.bindE (in_v _ _ _ _) ?_)
  rw [mst_ne _ _ _ _ _ _ (by decide), f]
  refine TT.ite (fun h1 => TT.ok ?_) (fun h1 => TT.guard g (TT.sM (TT.ok ?_)))
  · show (-1 : Int) = _
    rw [if_neg]
    intro q; subst q; simp at h1
  · show n = _
    have : n = 0 := by
      by_cases q : 0 ≤ n ∧ n ≤ 0
      · omega
      · rw [if_neg q] at h1; exact absurd rfl h1
    rw [if_pos this, this]
theorem y_fault (h : Shp M) (f : Frs M) (n : Int) : TT (fX11_fault M 85 n) (fun q => q.1 = (if n = 0 then 0 else -1)) := by
  have h2 := h.mst (a := 85) (i := 0) 0 fp85_0
  have f2 := f.mst (a := 85) (i := 0) 0 ff85_0
  unfold fX11_fault
  refine TT.guard (sk85 h) (TT.sM ?_)
  rw [sp85_3 h2, sp85_4 h2]
  refine TT.ite (fun h1 => ?_) (fun h1 => TT.ite (fun h3 => ?_) (fun h3 => ?_))
  · exact TT.guard ⟨sk88 h2, by decide, by rw [sl88 h2]; decide⟩ (TT.ok (by rw [fr88_0 f2, if_pos h1]))
  · exact TT.guard ⟨sk89 h2, by decide, by rw [sl89 h2]; decide⟩ (TT.ok (by rw [fr89_0 f2, if_neg h1]))
  · exact TT.ok (by rw [if_neg h1])
theorem y_count (h : Shp M) (f : Frs M) (n : Int) : TT (fX11_count M 85 n) (fun q => q.1 = (if 0 ≤ n ∧ n < 4 then 0 else -2)) := by
  have h2 := h.mst (a := 85) (i := 0) 0 fp85_0
  have f2 := f.mst (a := 85) (i := 0) 0 ff85_0
  unfold fX11_count
  refine TT.guard (sk85 h) (TT.sM (TT.bindE (in_v _ _ _ _) ?_))
  rw [sp85_5 h2]
  by_cases h1 : 0 ≤ n ∧ n ≤ 3
  · rw [if_pos h1]
    refine TT.neg (by decide) (TT.guard ⟨sk90 h2, h1.1, by rw [sl90 h2]; omega⟩ (TT.ok ?_))
    rw [if_pos (by omega)]
    rcases (show n = 0 ∨ n = 1 ∨ n = 2 ∨ n = 3 by omega) with rfl | rfl | rfl | rfl
    · exact fr90_0 f2
    · exact fr90_1 f2
    · exact fr90_2 f2
    · exact fr90_3 f2
  · rw [if_neg h1]
    exact TT.pos rfl (TT.ok (by rw [if_neg (by omega)]))
theorem y_again (h : Shp M) (f : Frs M) (n : Int) : TT (fX11_again M 85 n) (fun q => q.1 = 0) := by
  have h2 := h.mst (a := 85) (i := 0) 0 fp85_0
  have f2 := f.mst (a := 85) (i := 0) 0 ff85_0
  unfold fX11_again
  refine TT.guard (sk85 h) (TT.sM (TT.bindE (in_v _ _ _ _) ?_))
  rw [sp85_50 h2]
  by_cases h1 : 0 ≤ n ∧ n ≤ 2
  · rw [if_pos h1]
    refine TT.neg (by decide) (TT.guard ⟨Or.inr (sk111 h2), h1.1, by rw [sl111 h2]; omega⟩ (TT.pos ?_ (TT.ok rfl)))
    rcases (show n = 0 ∨ n = 1 ∨ n = 2 by omega) with rfl | rfl | rfl
    · exact fr111_0 f2
    · exact fr111_1 f2
    · exact fr111_2 f2
  · rw [if_neg h1]
    exact TT.pos rfl (TT.ok rfl)
theorem y_feed (h : Shp M) (f : M.1 87 0 = 0) (b0 b1 b2 b3 b4 : Int) : TT (fX11_feed M 85 b0 b1 b2 b3 b4) (fun q => q.1 = 20) := by
  have h2 := h.mst (a := 85) (i := 0) 0 fp85_0
  have f2 : (mst M 85 0 0).1 87 0 = 0 := by rw [mst_ne _ _ _ _ _ _ (by decide), f]
  unfold fX11_feed
  refine TT.guard (sk85 h) (TT.sM ?_)
  generalize mst M 85 0 0 = M2 at *
  rw [sp85_2 h2, f2]
  refine TT.guard ⟨sk87 h2, by decide, by rw [sl87 h2]; decide⟩ (TT.neg (by decide) ?_)
  have key : ∀ (N : Mem) (n v : Int), N.2 = M2.2 ∧ N.1 87 0 = n ∧ (∀ x y, x ≠ 86 → ¬(x = 87 ∧ y = 0) → N.1 x y = M2.1 x y) → 0 ≤ n → n ≤ 596 → TT (fX11_four N 85 v) (fun r => r.2 = M2.2 ∧ r.1 87 0 = n + 4 ∧ (∀ x y, x ≠ 86 → ¬(x = 87 ∧ y = 0) → r.1 x y = M2.1 x y)) := by
    rintro N n v ⟨e1, e2, e3⟩ n0 n1
    refine (four_T (t := 86) (z := 87) (n := n) v (by rw [e1]; exact sk85 h2) (by rw [e3 85 1 (by decide) (fun q => absurd q.2 (by decide))]; exact sp85_1 h2) (by rw [e3 85 2 (by decide) (fun q => absurd q.2 (by decide))]; exact sp85_2 h2) (by rw [e1]; exact sk86 h2) (by rw [e1]; exact sl86 h2) (by rw [e1]; exact sk87 h2) (by rw [e1]; exact sl87 h2) (by decide) (by decide) (by decide) e2 n0 n1).mono ?_
    rintro r ⟨g1, g2, g3, -⟩
    exact ⟨g1.trans e1, g2, fun x y hx hy => (g3 x y hx hy).trans (e3 x y hx hy)⟩
  have g9 : ∀ N : Mem, N.2 = M2.2 → N.2.1 85 = 10 := fun N e => by rw [e]; exact sk85 h2
  refine TT.bind (key M2 0 b0 ⟨rfl, f2, fun _ _ _ _ => rfl⟩ (by decide) (by decide)) (fun r1 q1 => ?_)
  refine TT.guard (g9 _ q1.1) (TT.bind (key r1 _ b1 q1 (by decide) (by decide)) (fun r2 q2 => ?_))
  refine TT.guard (g9 _ q2.1) (TT.bind (key r2 _ b2 q2 (by decide) (by decide)) (fun r3 q3 => ?_))
  refine TT.guard (g9 _ q3.1) (TT.bind (key r3 _ b3 q3 (by decide) (by decide)) (fun r4 q4 => ?_))
  refine TT.guard (g9 _ q4.1) (TT.bind (key r4 _ b4 q4 (by decide) (by decide)) (fun r5 q5 => ?_))
  refine TT.guard (g9 _ q5.1) ?_
  have e : r5.1 85 2 = 87 := by rw [q5.2.2 85 2 (by decide) (fun q => absurd q.2 (by decide)), sp85_2 h2]
  rw [e]
  exact TT.guard (by rw [q5.1]; exact ⟨sk87 h2, by decide, by rw [sl87 h2]; decide⟩) (TT.ok (by show r5.1 87 0 = 20; rw [q5.2.1]; decide))
theorem copyAll_T (h : Shp M) {a b : Int} (ha : 0 ≤ a) (hb : 0 ≤ b) (ha3 : a ≤ 3) (hb3 : b ≤ 3) (hab : a ≠ b) : TT (fX11_copyAll M 85 a b) (fun r => r.2 = M.2 ∧ ∀ x y, (x < 86 ∨ 95 ≤ x) → r.1 x y = M.1 x y) := by
  unfold fX11_copyAll
  have p : ∀ N : Mem, N.2 = M.2 → (∀ x y, (x < 86 ∨ 95 ≤ x) → N.1 x y = M.1 x y) → ∀ i v, M.1 85 i = v → N.1 85 i = v := fun N _ e i v q => by rw [e 85 i (by decide), q]
  refine TT.iter (fun s : Int × Mem => 0 ≤ s.1 ∧ s.1 ≤ 600 ∧ s.2.2 = M.2 ∧ ∀ x y, (x < 86 ∨ 95 ≤ x) → s.2.1 x y = M.1 x y) (fun s => (600 - s.1).toNat) ?_ BIG (0, M) ⟨Int.le_refl _, by dsimp only; omega, rfl, fun _ _ _ => rfl⟩ (by unfold BIG; dsimp only; omega)
  rintro rec ⟨i, N⟩ ⟨hi0, hin, hN, hfr⟩ hrec
  simp only at hi0 hin hN hfr ⊢
  refine TT.ite (fun hc => ?_) (fun hc => ?_)
  · rw [p N hN hfr 1 86 (sp85_1 h)]
    rw [w32_of (x := 600 * a) (by omega) (by omega), w32_of (x := 600 * b) (by omega) (by omega), w32_of (x := 600 * a + i) (by omega) (by omega), w32_of (x := 600 * b + i) (by omega) (by omega)]
    refine TT.guard (by rw [hN]; exact sk85 h) (TT.guard (by rw [hN, sk86 h, sl86 h]; exact ⟨Or.inl rfl, by omega, by omega⟩) (TT.guard (by rw [hN, sk86 h, sl86 h]; exact ⟨rfl, by omega, by omega⟩) (TT.sM ?_)))
    refine hrec _ ⟨?_, ?_, hN, fun x y hx => ?_⟩ ?_
    · show 0 ≤ w32 (i + 1)
      rw [w32_of (by omega) (by omega)]; omega
    · show w32 (i + 1) ≤ 600
      rw [w32_of (by omega) (by omega)]; omega
    · show (mst _ 86 _ _).1 x y = _
      rw [mst_ne _ _ _ _ _ _ (by omega), hfr x y hx]
    · show (600 - w32 (i + 1)).toNat < (600 - i).toNat
      rw [w32_of (by omega) (by omega)]; omega
  · have key : ∀ (N : Mem) (j c n : Int), 86 ≤ c → c < 95 → M.1 85 j = c → M.2.1 c = 12 → 0 ≤ n → n ≤ 1000 → 4 * n ≤ M.2.2.1 c → N.2 = M.2 ∧ (∀ x y, (x < 86 ∨ 95 ≤ x) → N.1 x y = M.1 x y) → TT (fX11_copyRow N (N.1 85 j) n a b) (fun r => r.2 = M.2 ∧ ∀ x y, (x < 86 ∨ 95 ≤ x) → r.1 x y = M.1 x y) := by
      rintro N j c n c1 c2 e1 e2 n0 n1 n2 ⟨g1, g2⟩
      rw [p N g1 g2 j c e1]
      refine (copyRow_T (by rw [g1]; exact e2) n0 ha hb ha3 hb3 hab n1 (by rw [g1]; exact n2)).mono ?_
      rintro r ⟨q1, q2, -⟩
      exact ⟨q1.trans g1, fun x y hx => (q2 x y (by omega)).trans (g2 x y hx)⟩
    have g : ∀ N : Mem, N.2 = M.2 → N.2.1 85 = 10 := fun N e => by rw [e]; exact sk85 h
    refine TT.guard (g _ hN) (TT.bind (key _ 2 87 1 (by decide) (by decide) (sp85_2 h) (sk87 h) (by decide) (by decide) (by rw [sl87 h]; decide) ⟨hN, hfr⟩) (fun r1 q1 => ?_))
    refine TT.guard (g _ q1.1) (TT.bind (key _ 3 88 1 (by decide) (by decide) (sp85_3 h) (sk88 h) (by decide) (by decide) (by rw [sl88 h]; decide) q1) (fun r2 q2 => ?_))
    refine TT.guard (g _ q2.1) (TT.bind (key _ 4 89 1 (by decide) (by decide) (sp85_4 h) (sk89 h) (by decide) (by decide) (by rw [sl89 h]; decide) q2) (fun r3 q3 => ?_))
    refine TT.guard (g _ q3.1) (TT.bind (key _ 5 90 4 (by decide) (by decide) (sp85_5 h) (sk90 h) (by decide) (by decide) (by rw [sl90 h]; decide) q3) (fun r4 q4 => ?_))
    refine TT.guard (g _ q4.1) (TT.bind (key _ 6 91 184 (by decide) (by decide) (sp85_6 h) (sk91 h) (by decide) (by decide) (by rw [sl91 h]; decide) q4) (fun r5 q5 => ?_))
    refine TT.guard (g _ q5.1) (TT.bind (key _ 7 92 6 (by decide) (by decide) (sp85_7 h) (sk92 h) (by decide) (by decide) (by rw [sl92 h]; decide) q5) (fun r6 q6 => ?_))
    refine TT.guard (g _ q6.1) (TT.bind (key _ 8 93 322 (by decide) (by decide) (sp85_8 h) (sk93 h) (by decide) (by decide) (by rw [sl93 h]; decide) q6) (fun r7 q7 => ?_))
    exact TT.guard (g _ q7.1) (TT.bind (key _ 9 94 94 (by decide) (by decide) (sp85_9 h) (sk94 h) (by decide) (by decide) (by rw [sl94 h]; decide) q7) (fun r8 q8 => TT.ok q8))
theorem y_image (h : Shp M) (n : Int) : TT (fX11_image M 85 n) (fun q => q.1 = (if 0 ≤ n ∧ n ≤ 2 then 1 else 0)) := by
  have h2 := h.mst (a := 85) (i := 0) 0 fp85_0
  unfold fX11_image
  refine TT.guard (sk85 h) (TT.sM (TT.bindE (in_v _ _ _ _) ?_))
  generalize mst M 85 0 0 = M2 at *
  by_cases h1 : 0 ≤ n ∧ n ≤ 2
  · simp only [if_pos h1]
    refine TT.neg (by decide) ?_
    rw [w32_of (x := n + 1) (by omega) (by omega)]
    refine TT.bind (copyAll_T h2 (by omega) (by omega) (by omega) (by omega) (by omega)) (fun r q => ?_)
    have e : r.1 85 50 = 111 := by rw [q.2 85 50 (by decide), sp85_50 h2]
    rw [e]
    exact TT.guard (by rw [q.1]; exact sk85 h2) (TT.guard (by rw [q.1]; exact ⟨sk111 h2, h1.1, by rw [sl111 h2]; omega⟩) (TT.sM (TT.ok rfl)))
  · simp only [if_neg h1]
    exact TT.pos trivial (TT.ok rfl)
end P1
