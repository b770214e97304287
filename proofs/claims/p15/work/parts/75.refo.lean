/-! the reference: a law's, the nights', a sight's line -/
section RefO
variable {M N : Mem} {T : Int → Int} {n i : Int} {s : Int} {σ : RSt} {l : Int}
set_option maxHeartbeats 1000000 in
theorem lawLine_V9 (hT : WT M) (hp : PT M) (h : HdR M T n σ) (hc : tK T n σ.1 = 1) (hl : 9 = lnIx T n σ.1 s) : TT (fX11_lawLine M 85 1918989413) (LO T n s σ) := by
  unfold fX11_lawLine
  have hne : (9 : Int) ≠ -1 := by decide
  refine TT.jI (TT.pos (by decide) ?_)
  have hF0 : FR (fp0 T n s σ) M (tS T n σ.1 + 1) := by
    rw [fp0_no (by rw [← hl]; rfl)]; exact h.2.2.1.up (by omega)
  refine TT.guard (wk85 hT) (TT.bind (head_V hT hp h hc ⟨rfl, fun _ _ _ => rfl⟩ hF0 0 9) (fun r5 q5 => ?_))
  obtain ⟨⟨hT5, hp5, e95⟩, hL5⟩ := q5
  refine TT.jI (TT.pos (by decide) (TT.jI (TT.pos (by decide) ?_)))
  have v0 := take_V hT5 hp5 hL5.1.2.2 (i := tP T n σ.1 (0 + 1)) (k := 0 + (0 : Nat)) (lo := 2) (hi := 5) (by rw [hL5.1.1, hL5.1.2.1]; exact hL5.2.1) (by rw [hL5.1.1, hL5.1.2.1]; exact hL5.2.2.2.1) (by decide) (by decide)
  refine TT.guard (wk85 hT5) (TT.tkv (th' := σ.2.2.2.1) (sh := 0) (k := 0) hl hc hne (by decide) hT5 hL5 (take_T hT5 hp5 (by decide) (by decide)) (v0.mono (fun r q => ⟨q.1, fun _ => q.2.1, q.2.2⟩)) (fun z => bad_no (tV_r z).1 rfl rfl (by omega)) (fun z e => e) (fun r1 hT1 hp1 hL1 q1 => ?_))
  have w0 : r1.2.1 96 0 = vv T n σ.1 0 := hL1.2.2.2.2.1 0 (by decide)
  try dsimp only
  rw [wp85_20 hT1, wp85_19 hT1, w0]
  refine TT.neg (by decide) (TT.guard (wk85 hT1) (TT.jI (TT.pos (by decide) (TT.guard (rd_g hT1 (by decide) (by decide)) (TT.guard ⟨wk95 hT1, by decide, by rw [wl95 hT1]; decide⟩ (TT.sM (TT.ok (Or.inr ⟨rfl, hc, by rw [← hl]; exact hne, 0, ?_⟩))))))))
  rw [← hl, uL_9]
  exact LPr.put hL1
set_option maxHeartbeats 1000000 in
theorem lawLine_V10 (hT : WT M) (hp : PT M) (h : HdR M T n σ) (hc : tK T n σ.1 = 1) (hl : 10 = lnIx T n σ.1 s) : TT (fX11_lawLine M 85 426836779880) (LO T n s σ) := by
  unfold fX11_lawLine
  have hne : (10 : Int) ≠ -1 := by decide
  refine TT.jI (TT.neg (by decide) (TT.pos (by decide) ?_))
  have hF0 : FR (fp0 T n s σ) M (tS T n σ.1 + 1) := by
    rw [fp0_no (by rw [← hl]; rfl)]; exact h.2.2.1.up (by omega)
  refine TT.guard (wk85 hT) (TT.bind (head_V hT hp h hc ⟨rfl, fun _ _ _ => rfl⟩ hF0 0 10) (fun r5 q5 => ?_))
  obtain ⟨⟨hT5, hp5, e95⟩, hL5⟩ := q5
  refine TT.jI (TT.neg (by decide) (TT.pos (by decide) (TT.jI (TT.neg (by decide) (TT.pos (by decide) ?_)))))
  have v0 := take_V hT5 hp5 hL5.1.2.2 (i := tP T n σ.1 (0 + 1)) (k := 0 + (0 : Nat)) (lo := 1) (hi := 99) (by rw [hL5.1.1, hL5.1.2.1]; exact hL5.2.1) (by rw [hL5.1.1, hL5.1.2.1]; exact hL5.2.2.2.1) (by decide) (by decide)
  refine TT.guard (wk85 hT5) (TT.tkv (th' := σ.2.2.2.1) (sh := 0) (k := 0) hl hc hne (by decide) hT5 hL5 (take_T hT5 hp5 (by decide) (by decide)) (v0.mono (fun r q => ⟨q.1, fun _ => q.2.1, q.2.2⟩)) (fun z => bad_no (tV_r z).1 rfl rfl (by omega)) (fun z e => e) (fun r1 hT1 hp1 hL1 q1 => ?_))
  have w0 : r1.2.1 96 0 = vv T n σ.1 0 := hL1.2.2.2.2.1 0 (by decide)
  try dsimp only
  rw [wp85_20 hT1, wp85_19 hT1, w0]
  refine TT.neg (by decide) (TT.guard (wk85 hT1) (TT.jI (TT.neg (by decide) (TT.guard (rd_g hT1 (by decide) (by decide)) (TT.guard ⟨wk95 hT1, by decide, by rw [wl95 hT1]; decide⟩ (TT.sM (TT.ok (Or.inr ⟨rfl, hc, by rw [← hl]; exact hne, 0, ?_⟩))))))))
  rw [← hl, uL_10]
  exact LPr.put hL1
set_option maxHeartbeats 1000000 in
theorem lawLine_V11 (hT : WT M) (hp : PT M) (h : HdR M T n σ) (hc : tK T n σ.1 = 1) (hl : 11 = lnIx T n σ.1 s) : TT (fX11_lawLine M 85 110429873532005) (LO T n s σ) := by
  unfold fX11_lawLine
  have hne : (11 : Int) ≠ -1 := by decide
  refine TT.jI (TT.neg (by decide) (TT.neg (by decide) (TT.pos (by decide) ?_)))
  have hF0 : FR (fp0 T n s σ) M (tS T n σ.1 + 1) := by
    rw [fp0_no (by rw [← hl]; rfl)]; exact h.2.2.1.up (by omega)
  refine TT.guard (wk85 hT) (TT.bind (head_V hT hp h hc ⟨rfl, fun _ _ _ => rfl⟩ hF0 0 11) (fun r5 q5 => ?_))
  obtain ⟨⟨hT5, hp5, e95⟩, hL5⟩ := q5
  refine TT.jI (TT.neg (by decide) (TT.neg (by decide) (TT.jI (TT.neg (by decide) (TT.neg (by decide) ?_)))))
  have v0 := take_V hT5 hp5 hL5.1.2.2 (i := tP T n σ.1 (0 + 1)) (k := 0 + (0 : Nat)) (lo := 0) (hi := 19) (by rw [hL5.1.1, hL5.1.2.1]; exact hL5.2.1) (by rw [hL5.1.1, hL5.1.2.1]; exact hL5.2.2.2.1) (by decide) (by decide)
  refine TT.guard (wk85 hT5) (TT.tkv (th' := σ.2.2.2.1) (sh := 0) (k := 0) hl hc hne (by decide) hT5 hL5 (take_T hT5 hp5 (by decide) (by decide)) (v0.mono (fun r q => ⟨q.1, fun _ => q.2.1, q.2.2⟩)) (fun z => bad_no (tV_r z).1 rfl rfl (by omega)) (fun z e => e) (fun r1 hT1 hp1 hL1 q1 => ?_))
  have w0 : r1.2.1 96 0 = vv T n σ.1 0 := hL1.2.2.2.2.1 0 (by decide)
  try dsimp only
  rw [wp85_20 hT1, wp85_19 hT1, w0]
  have g2 : r1.2.2.1 95 = 12 ∧ (0 : Int) ≤ 2 ∧ 2 < r1.2.2.2.1 95 := ⟨wk95 hT1, by decide, by rw [wl95 hT1]; decide⟩
  refine TT.pos (by decide) (TT.guard (wk85 hT1) (TT.guard g2 (TT.join (fun t : Int => r1.2.1 85 23 ≠ 0 → t = bShl 1 (vv T n σ.1 0)) (fun t ht => TT.guard g2 (TT.sM (TT.ok (Or.inr ⟨rfl, hc, by rw [← hl]; exact hne, 0, ?_⟩)))) (fun j hj => TT.ite (fun e => hj _ (fun z => absurd e z)) (fun e => TT.guard (rd_g hT1 (by decide) (by decide)) (hj _ (fun _ => rfl)))))))
  rw [← hl, uL_11]
  refine LPr.told hL1 (fun x y z => mst_ne _ _ _ _ _ _ z) (fun e => ?_)
  have hD := hL1.2.2.2.2.2 e
  intro y y0 y1
  rw [mst_r]
  by_cases c : y = 2
  · rw [if_pos ⟨rfl, c⟩, c, up_at, hD.2.1 2 (by decide) (by decide), ht hD.1]
  · rw [if_neg (fun z => c z.2), up_ne c]; exact hD.2.1 y y0 y1
theorem lawLine_N (hT : WT M) (h : HdR M T n σ) {w : Int} (hw : ∀ k : Nat, 9 ≤ k → k < 12 → w ≠ WCL.getD k 0) (hn : tK T n σ.1 ≠ 1 ∨ lnIx T n σ.1 s = -1) : TT (fX11_lawLine M 85 w) (LO T n s σ) := by
  unfold fX11_lawLine
  have z : ∀ k : Nat, 9 ≤ k → k < 12 → ¬ lcmp w (WCL.getD k 0) = 0 := fun k h9 hk e => hw k h9 hk (lcmp0.mp e)
  exact TT.jI (TT.neg (z 9 (by decide) (by decide)) (TT.neg (z 10 (by decide) (by decide)) (TT.neg (z 11 (by decide) (by decide)) (TT.guard (wk85 hT) (lo_fails hT h.2.1 hn)))))
theorem LPr.rd {sh th tt j v : Int} {D : Int → Int} (hL : LPr T n s σ l 0 sh th tt D M) : LPr T n s σ l 0 sh th tt D (mst M 96 j v) := by
  obtain ⟨⟨e86, e11, hby⟩, lX, lok, lF, lv, lD⟩ := hL
  refine ⟨⟨by rw [← e86]; exact funext fun y => mst_ne _ _ _ _ _ _ (by decide), e11, fun a b c => ?_⟩, lX, lok, lF, fun a b => absurd b (Nat.not_lt_zero _), fun e => ⟨(lD e).1, fun y y0 y1 => ?_, (lD e).2.2⟩⟩
  · show -128 ≤ (mst M 96 j v).1 86 a ∧ (mst M 96 j v).1 86 a ≤ 127
    rw [mst_ne _ _ _ _ _ _ (by decide)]; exact hby a b c
  · show (mst M 96 j v).1 95 y = D y
    rw [mst_ne _ _ _ _ _ _ (by decide)]; exact (lD e).2.1 y y0 y1
/-- a deed or a gift kept -/
theorem night_keep (hT : WT M) {k : Nat} {sh a b c e : Int} (hl : l = lnIx T n σ.1 s) (hc : tK T n σ.1 = 1) (hne : l ≠ -1) (hk : (nmL l).toNat = k) (l12 : 12 ≤ l ∧ l ≤ 15) (hL : LPr T n s σ l k sh σ.2.2.2.1 σ.2.2.2.2 σ.2.2.1 M) (h40 : 0 ≤ M.1 95 0 ∧ M.1 95 0 ≤ 40) (ha : M.1 96 0 = a) (hb : M.1 96 1 = b) (hc2 : M.1 96 2 = c) (he : M.1 96 3 = e)
    (hU : updL l (vv T n σ.1 0) (vv T n σ.1 1) (vv T n σ.1 2) σ.2.2.1 = up (up (up (up (up σ.2.2.1 (1 + 4 * σ.2.2.1 0) a) (2 + 4 * σ.2.2.1 0) b) (3 + 4 * σ.2.2.1 0) c) (4 + 4 * σ.2.2.1 0) e) 0 (σ.2.2.1 0 + 1)) : TT ((fX11_keep M 85 0 1 4 40).bind fun r => some (1, r)) (LO T n s σ) := by
  refine TT.bind (keep_T hT (by decide) (by decide) (by decide) (by decide) (fun z => by omega)) (fun r2 q2 => TT.ok (Or.inr ⟨rfl, hc, by rw [← hl]; exact hne, sh, ?_⟩))
  rw [← hl, hk, hU, upH_9 (by omega), upT_9 (by omega)]
  have fr : ∀ x y, x ≠ 95 → r2.1 x y = M.1 x y := fun x y z => by
    rcases q2 with ⟨_, e⟩ | ⟨_, e, _⟩
    · rw [e]
    · exact e.2 x y z
  refine LPr.told hL fr (fun e0 => ?_)
  have hD := (hL.2.2.2.2.2 e0).2.1
  obtain ⟨g1, _, _⟩ := fpN_0 k e0
  have gf := (fp0_0 g1).2.2
  rw [← hl] at gf
  have lt4 : σ.2.2.1 0 < 40 := by
    unfold fullB at gf
    simp only [Bool.or_eq_false_iff, Bool.and_eq_false_iff, decide_eq_false_iff_not] at gf
    omega
  have d1 := hD 0 (by decide) (by decide)
  rcases q2 with ⟨z, _⟩ | ⟨_, _, e3, e4⟩
  · omega
  · intro y y0 y1
    unfold up
    rw [d1] at e3 e4
    by_cases c1 : y = 0
    · rw [if_pos c1, c1, e3]
    · rw [if_neg c1, e4 y c1]
      by_cases c2 : 1 + 4 * σ.2.2.1 0 ≤ y ∧ y < 1 + 4 * σ.2.2.1 0 + 4
      · rw [if_pos c2]
        rcases (show y = 1 + 4 * σ.2.2.1 0 ∨ y = 2 + 4 * σ.2.2.1 0 ∨ y = 3 + 4 * σ.2.2.1 0 ∨ y = 4 + 4 * σ.2.2.1 0 by omega) with q | q | q | q
        · rw [if_neg (by omega), if_neg (by omega), if_neg (by omega), if_pos q, show y - (1 + 4 * σ.2.2.1 0) = 0 by omega]; exact ha
        · rw [if_neg (by omega), if_neg (by omega), if_pos q, show y - (1 + 4 * σ.2.2.1 0) = 1 by omega]; exact hb
        · rw [if_neg (by omega), if_pos q, show y - (1 + 4 * σ.2.2.1 0) = 2 by omega]; exact hc2
        · rw [if_pos q, show y - (1 + 4 * σ.2.2.1 0) = 3 by omega]; exact he
      · rw [if_neg c2, if_neg (by omega), if_neg (by omega), if_neg (by omega), if_neg (by omega)]; exact hD y y0 y1
set_option maxHeartbeats 1000000 in
theorem nightsLine_V12 (hT : WT M) (hp : PT M) (h : HdR M T n σ) (hc : tK T n σ.1 = 1) (hd : DN M) (hl : 12 = lnIx T n σ.1 s) : TT (fX11_nightsLine M 85 1952541541 (tS T n σ.1)) (LO T n s σ) := by
  unfold fX11_nightsLine
  have hne : (12 : Int) ≠ -1 := by decide
  refine TT.jI (TT.pos (by decide) ?_)
  refine TT.neg (by decide) (TT.guard (wk85 hT) (TT.bind (full_V hT (by decide) (by decide) h.2.2.1 (Int.le_refl _)) (fun r0 q0 => ?_)))
  have hF0 := q0.2
  rw [fp0_full (s := s) h (by decide) (by decide) hd.1.2 (by rw [← hl]; unfold fullB; simp)] at hF0
  have hT0 : WT r0 := hT.keep (VK.keep (M := M) ⟨q0.1.1, fun x y _ b => q0.1.2 x y (by omega)⟩)
  refine TT.guard (wk85 hT0) (TT.bind (head_V hT hp h hc q0.1 hF0 1 12) (fun r q5 => ?_))
  obtain ⟨⟨hTr, hpr, e95⟩, hLr⟩ := q5
  try dsimp only
  rw [wp85_20 hTr]
  refine TT.guard (wk85 hTr) (TT.guard (rd_g hTr (by decide) (by decide)) (TT.sM ?_))
  have s96 : ∀ (N : Mem) (i v : Int), VK N (mst N 96 i v) := fun N i v => ⟨rfl, fun x y b _ => mst_ne _ _ _ _ _ _ b⟩
  have hV1 : VK r (mst r 96 1 (-1)) := s96 _ _ _
  rw [wp85_20 (hTr.keep hV1.keep)]
  refine TT.guard (rd_g (hTr.keep hV1.keep) (by decide) (by decide)) (TT.sM ?_)
  have hV2 : VK r (mst (mst r 96 1 (-1)) 96 2 (-1)) := hV1.trans (s96 _ _ _)
  rw [wp85_20 (hTr.keep hV2.keep)]
  refine TT.guard (rd_g (hTr.keep hV2.keep) (by decide) (by decide)) (TT.sM ?_)
  have hV3 : VK r (mst (mst (mst r 96 1 (-1)) 96 2 (-1)) 96 3 (-1)) := hV2.trans (s96 _ _ _)
  have hp3 : PT (mst (mst (mst r 96 1 (-1)) 96 2 (-1)) 96 3 (-1)) := hpr
  have hL3 : LPr T n s σ 12 0 1 σ.2.2.2.1 σ.2.2.2.2 σ.2.2.1 (mst (mst (mst r 96 1 (-1)) 96 2 (-1)) 96 3 (-1)) := LPr.rd (LPr.rd (LPr.rd hLr))
  have x1 : (mst (mst (mst r 96 1 (-1)) 96 2 (-1)) 96 3 (-1)).1 96 1 = -1 := rfl
  have x2 : (mst (mst (mst r 96 1 (-1)) 96 2 (-1)) 96 3 (-1)).1 96 2 = -1 := rfl
  have x3 : (mst (mst (mst r 96 1 (-1)) 96 2 (-1)) 96 3 (-1)).1 96 3 = -1 := rfl
  have f95 : ∀ y, (mst (mst (mst r 96 1 (-1)) 96 2 (-1)) 96 3 (-1)).1 95 y = M.1 95 y := fun y => (vk95 hV3 y).trans (e95 y)
  generalize mst (mst (mst r 96 1 (-1)) 96 2 (-1)) 96 3 (-1) = A at *
  have hTA := hTr.keep hV3.keep
  refine TT.jI (TT.neg (by decide) (TT.jI (TT.pos (by decide) ?_)))
  have v0 := take_V hTA hp3 hL3.1.2.2 (i := tP T n σ.1 (0 + 1)) (k := 1 + (0 : Nat)) (lo := 0) (hi := 3) (by rw [hL3.1.1, hL3.1.2.1]; exact hL3.2.1) (by rw [hL3.1.1, hL3.1.2.1]; exact hL3.2.2.2.1) (by decide) (by decide)
  refine TT.guard (wk85 hTA) (TT.tkv (th' := σ.2.2.2.1) (sh := 1) (k := 0) hl hc hne (by decide) hTA hL3 (take_T hTA hp3 (by decide) (by decide)) (v0.mono (fun r q => ⟨q.1, fun _ => q.2.1, q.2.2⟩)) (fun z => bad_no (tV_r z).1 rfl rfl (by omega)) (fun z e => e) (fun r1 hTa1 hpa1 hLa1 qa1 => ?_))
  have v1 := take_V hTa1 hpa1 hLa1.1.2.2 (i := tP T n σ.1 (1 + 1)) (k := 1 + (1 : Nat)) (lo := 0) (hi := 5) (by rw [hLa1.1.1, hLa1.1.2.1]; exact hLa1.2.1) (by rw [hLa1.1.1, hLa1.1.2.1]; exact hLa1.2.2.2.1) (by decide) (by decide)
  refine TT.guard (wk85 hTa1) (TT.tkv (th' := σ.2.2.2.1) (sh := 1) (k := 1) hl hc hne (by decide) hTa1 hLa1 (take_T hTa1 hpa1 (by decide) (by decide)) (v1.mono (fun r q => ⟨q.1, fun _ => q.2.1, q.2.2⟩)) (fun z => bad_no (tV_r z).1 rfl rfl (by omega)) (fun z e => e) (fun r2 hTa2 hpa2 hLa2 qa2 => ?_))
  have v2 := take_V hTa2 hpa2 hLa2.1.2.2 (i := tP T n σ.1 (2 + 1)) (k := 1 + (2 : Nat)) (lo := 0) (hi := 4) (by rw [hLa2.1.1, hLa2.1.2.1]; exact hLa2.2.1) (by rw [hLa2.1.1, hLa2.1.2.1]; exact hLa2.2.2.2.1) (by decide) (by decide)
  refine TT.guard (wk85 hTa2) (TT.tkv (th' := σ.2.2.2.1) (sh := 1) (k := 2) hl hc hne (by decide) hTa2 hLa2 (take_T hTa2 hpa2 (by decide) (by decide)) (v2.mono (fun r q => ⟨q.1, fun _ => q.2.1, q.2.2⟩)) (fun z => bad_no (tV_r z).1 rfl rfl (by omega)) (fun z e => e) (fun r3 hTa3 hpa3 hLa3 qa3 => ?_))
  try dsimp only
  rw [wp85_20 hTa3]
  refine TT.guard (wk85 hTa3) (TT.guard (rd_g hTa3 (by decide) (by decide)) (TT.sM ?_))
  have hVz : VK r3.2 (mst r3.2 96 0 0) := s96 _ _ _
  have hLz : LPr T n s σ 12 3 1 σ.2.2.2.1 σ.2.2.2.2 σ.2.2.1 (mst r3.2 96 0 0) := by
    obtain ⟨⟨e86, e11, hby⟩, lX, lok, lF, lv, lD⟩ := hLa3
    refine ⟨⟨by rw [← e86]; exact funext fun y => mst_ne _ _ _ _ _ _ (by decide), e11, fun a b c => ?_⟩, lX, lok, lF, fun a b => ?_, fun e => ⟨(lD e).1, fun y y0 y1 => ?_, (lD e).2.2⟩⟩
    · show -128 ≤ (mst r3.2 96 0 0).1 86 a ∧ (mst r3.2 96 0 0).1 86 a ≤ 127
      rw [mst_ne _ _ _ _ _ _ (by decide)]; exact hby a b c
    · show (mst r3.2 96 0 0).1 96 (1 + (a : Int)) = _
      rw [mst_nf _ _ _ _ _ _ (by omega)]; exact lv a b
    · show (mst r3.2 96 0 0).1 95 y = _
      rw [mst_ne _ _ _ _ _ _ (by decide)]; exact (lD e).2.1 y y0 y1
  have z95 : (mst r3.2 96 0 0).1 95 0 = M.1 95 0 := (vk95 hVz 0).trans (((qa3.2.2.2.2 0).trans (qa2.2.2.2.2 0)).trans ((qa1.2.2.2.2 0).trans (f95 0)))
  refine night_keep (hTa3.keep hVz.keep) (a := 0) (b := vv T n σ.1 0) (c := vv T n σ.1 1) (e := vv T n σ.1 2) hl hc hne rfl (by decide) hLz (by rw [z95]; exact hd.1) rfl (hLz.2.2.2.2.1 0 (by decide)) (hLz.2.2.2.2.1 1 (by decide)) (hLz.2.2.2.2.1 2 (by decide)) ?_
  rw [uL_12]
  rfl
set_option maxHeartbeats 1000000 in
theorem nightsLine_V13 (hT : WT M) (hp : PT M) (h : HdR M T n σ) (hc : tK T n σ.1 = 1) (hd : DN M) (hl : 13 = lnIx T n σ.1 s) : TT (fX11_nightsLine M 85 1734964837 (tS T n σ.1)) (LO T n s σ) := by
  unfold fX11_nightsLine
  have hne : (13 : Int) ≠ -1 := by decide
  refine TT.jI (TT.neg (by decide) (TT.pos (by decide) ?_))
  refine TT.neg (by decide) (TT.guard (wk85 hT) (TT.bind (full_V hT (by decide) (by decide) h.2.2.1 (Int.le_refl _)) (fun r0 q0 => ?_)))
  have hF0 := q0.2
  rw [fp0_full (s := s) h (by decide) (by decide) hd.1.2 (by rw [← hl]; unfold fullB; simp)] at hF0
  have hT0 : WT r0 := hT.keep (VK.keep (M := M) ⟨q0.1.1, fun x y _ b => q0.1.2 x y (by omega)⟩)
  refine TT.guard (wk85 hT0) (TT.bind (head_V hT hp h hc q0.1 hF0 1 13) (fun r q5 => ?_))
  obtain ⟨⟨hTr, hpr, e95⟩, hLr⟩ := q5
  try dsimp only
  rw [wp85_20 hTr]
  refine TT.guard (wk85 hTr) (TT.guard (rd_g hTr (by decide) (by decide)) (TT.sM ?_))
  have s96 : ∀ (N : Mem) (i v : Int), VK N (mst N 96 i v) := fun N i v => ⟨rfl, fun x y b _ => mst_ne _ _ _ _ _ _ b⟩
  have hV1 : VK r (mst r 96 1 (-1)) := s96 _ _ _
  rw [wp85_20 (hTr.keep hV1.keep)]
  refine TT.guard (rd_g (hTr.keep hV1.keep) (by decide) (by decide)) (TT.sM ?_)
  have hV2 : VK r (mst (mst r 96 1 (-1)) 96 2 (-1)) := hV1.trans (s96 _ _ _)
  rw [wp85_20 (hTr.keep hV2.keep)]
  refine TT.guard (rd_g (hTr.keep hV2.keep) (by decide) (by decide)) (TT.sM ?_)
  have hV3 : VK r (mst (mst (mst r 96 1 (-1)) 96 2 (-1)) 96 3 (-1)) := hV2.trans (s96 _ _ _)
  have hp3 : PT (mst (mst (mst r 96 1 (-1)) 96 2 (-1)) 96 3 (-1)) := hpr
  have hL3 : LPr T n s σ 13 0 1 σ.2.2.2.1 σ.2.2.2.2 σ.2.2.1 (mst (mst (mst r 96 1 (-1)) 96 2 (-1)) 96 3 (-1)) := LPr.rd (LPr.rd (LPr.rd hLr))
  have x1 : (mst (mst (mst r 96 1 (-1)) 96 2 (-1)) 96 3 (-1)).1 96 1 = -1 := rfl
  have x2 : (mst (mst (mst r 96 1 (-1)) 96 2 (-1)) 96 3 (-1)).1 96 2 = -1 := rfl
  have x3 : (mst (mst (mst r 96 1 (-1)) 96 2 (-1)) 96 3 (-1)).1 96 3 = -1 := rfl
  have f95 : ∀ y, (mst (mst (mst r 96 1 (-1)) 96 2 (-1)) 96 3 (-1)).1 95 y = M.1 95 y := fun y => (vk95 hV3 y).trans (e95 y)
  generalize mst (mst (mst r 96 1 (-1)) 96 2 (-1)) 96 3 (-1) = A at *
  have hTA := hTr.keep hV3.keep
  refine TT.jI (TT.neg (by decide) (TT.jI (TT.pos (by decide) ?_)))
  have v0 := take_V hTA hp3 hL3.1.2.2 (i := tP T n σ.1 (0 + 1)) (k := 1 + (0 : Nat)) (lo := 0) (hi := 3) (by rw [hL3.1.1, hL3.1.2.1]; exact hL3.2.1) (by rw [hL3.1.1, hL3.1.2.1]; exact hL3.2.2.2.1) (by decide) (by decide)
  refine TT.guard (wk85 hTA) (TT.tkv (th' := σ.2.2.2.1) (sh := 1) (k := 0) hl hc hne (by decide) hTA hL3 (take_T hTA hp3 (by decide) (by decide)) (v0.mono (fun r q => ⟨q.1, fun _ => q.2.1, q.2.2⟩)) (fun z => bad_no (tV_r z).1 rfl rfl (by omega)) (fun z e => e) (fun r1 hTa1 hpa1 hLa1 qa1 => ?_))
  have v1 := take_V hTa1 hpa1 hLa1.1.2.2 (i := tP T n σ.1 (1 + 1)) (k := 1 + (1 : Nat)) (lo := 0) (hi := 5) (by rw [hLa1.1.1, hLa1.1.2.1]; exact hLa1.2.1) (by rw [hLa1.1.1, hLa1.1.2.1]; exact hLa1.2.2.2.1) (by decide) (by decide)
  refine TT.guard (wk85 hTa1) (TT.tkv (th' := σ.2.2.2.1) (sh := 1) (k := 1) hl hc hne (by decide) hTa1 hLa1 (take_T hTa1 hpa1 (by decide) (by decide)) (v1.mono (fun r q => ⟨q.1, fun _ => q.2.1, q.2.2⟩)) (fun z => bad_no (tV_r z).1 rfl rfl (by omega)) (fun z e => e) (fun r2 hTa2 hpa2 hLa2 qa2 => ?_))
  have v2 := take_V hTa2 hpa2 hLa2.1.2.2 (i := tP T n σ.1 (2 + 1)) (k := 1 + (2 : Nat)) (lo := 0) (hi := 4) (by rw [hLa2.1.1, hLa2.1.2.1]; exact hLa2.2.1) (by rw [hLa2.1.1, hLa2.1.2.1]; exact hLa2.2.2.2.1) (by decide) (by decide)
  refine TT.guard (wk85 hTa2) (TT.tkv (th' := σ.2.2.2.1) (sh := 1) (k := 2) hl hc hne (by decide) hTa2 hLa2 (take_T hTa2 hpa2 (by decide) (by decide)) (v2.mono (fun r q => ⟨q.1, fun _ => q.2.1, q.2.2⟩)) (fun z => bad_no (tV_r z).1 rfl rfl (by omega)) (fun z e => e) (fun r3 hTa3 hpa3 hLa3 qa3 => ?_))
  try dsimp only
  rw [wp85_20 hTa3]
  refine TT.guard (wk85 hTa3) (TT.guard (rd_g hTa3 (by decide) (by decide)) (TT.sM ?_))
  have hVz : VK r3.2 (mst r3.2 96 0 1) := s96 _ _ _
  have hLz : LPr T n s σ 13 3 1 σ.2.2.2.1 σ.2.2.2.2 σ.2.2.1 (mst r3.2 96 0 1) := by
    obtain ⟨⟨e86, e11, hby⟩, lX, lok, lF, lv, lD⟩ := hLa3
    refine ⟨⟨by rw [← e86]; exact funext fun y => mst_ne _ _ _ _ _ _ (by decide), e11, fun a b c => ?_⟩, lX, lok, lF, fun a b => ?_, fun e => ⟨(lD e).1, fun y y0 y1 => ?_, (lD e).2.2⟩⟩
    · show -128 ≤ (mst r3.2 96 0 1).1 86 a ∧ (mst r3.2 96 0 1).1 86 a ≤ 127
      rw [mst_ne _ _ _ _ _ _ (by decide)]; exact hby a b c
    · show (mst r3.2 96 0 1).1 96 (1 + (a : Int)) = _
      rw [mst_nf _ _ _ _ _ _ (by omega)]; exact lv a b
    · show (mst r3.2 96 0 1).1 95 y = _
      rw [mst_ne _ _ _ _ _ _ (by decide)]; exact (lD e).2.1 y y0 y1
  have z95 : (mst r3.2 96 0 1).1 95 0 = M.1 95 0 := (vk95 hVz 0).trans (((qa3.2.2.2.2 0).trans (qa2.2.2.2.2 0)).trans ((qa1.2.2.2.2 0).trans (f95 0)))
  refine night_keep (hTa3.keep hVz.keep) (a := 1) (b := vv T n σ.1 0) (c := vv T n σ.1 1) (e := vv T n σ.1 2) hl hc hne rfl (by decide) hLz (by rw [z95]; exact hd.1) rfl (hLz.2.2.2.2.1 0 (by decide)) (hLz.2.2.2.2.1 1 (by decide)) (hLz.2.2.2.2.1 2 (by decide)) ?_
  rw [uL_13]
  rfl
set_option maxHeartbeats 1000000 in
theorem nightsLine_V14 (hT : WT M) (hp : PT M) (h : HdR M T n σ) (hc : tK T n σ.1 = 1) (hd : DN M) (hl : 14 = lnIx T n σ.1 s) : TT (fX11_nightsLine M 85 7562612 (tS T n σ.1)) (LO T n s σ) := by
  unfold fX11_nightsLine
  have hne : (14 : Int) ≠ -1 := by decide
  refine TT.jI (TT.neg (by decide) (TT.neg (by decide) (TT.pos (by decide) ?_)))
  refine TT.neg (by decide) (TT.guard (wk85 hT) (TT.bind (full_V hT (by decide) (by decide) h.2.2.1 (Int.le_refl _)) (fun r0 q0 => ?_)))
  have hF0 := q0.2
  rw [fp0_full (s := s) h (by decide) (by decide) hd.1.2 (by rw [← hl]; unfold fullB; simp)] at hF0
  have hT0 : WT r0 := hT.keep (VK.keep (M := M) ⟨q0.1.1, fun x y _ b => q0.1.2 x y (by omega)⟩)
  refine TT.guard (wk85 hT0) (TT.bind (head_V hT hp h hc q0.1 hF0 1 14) (fun r q5 => ?_))
  obtain ⟨⟨hTr, hpr, e95⟩, hLr⟩ := q5
  try dsimp only
  rw [wp85_20 hTr]
  refine TT.guard (wk85 hTr) (TT.guard (rd_g hTr (by decide) (by decide)) (TT.sM ?_))
  have s96 : ∀ (N : Mem) (i v : Int), VK N (mst N 96 i v) := fun N i v => ⟨rfl, fun x y b _ => mst_ne _ _ _ _ _ _ b⟩
  have hV1 : VK r (mst r 96 1 (-1)) := s96 _ _ _
  rw [wp85_20 (hTr.keep hV1.keep)]
  refine TT.guard (rd_g (hTr.keep hV1.keep) (by decide) (by decide)) (TT.sM ?_)
  have hV2 : VK r (mst (mst r 96 1 (-1)) 96 2 (-1)) := hV1.trans (s96 _ _ _)
  rw [wp85_20 (hTr.keep hV2.keep)]
  refine TT.guard (rd_g (hTr.keep hV2.keep) (by decide) (by decide)) (TT.sM ?_)
  have hV3 : VK r (mst (mst (mst r 96 1 (-1)) 96 2 (-1)) 96 3 (-1)) := hV2.trans (s96 _ _ _)
  have hp3 : PT (mst (mst (mst r 96 1 (-1)) 96 2 (-1)) 96 3 (-1)) := hpr
  have hL3 : LPr T n s σ 14 0 1 σ.2.2.2.1 σ.2.2.2.2 σ.2.2.1 (mst (mst (mst r 96 1 (-1)) 96 2 (-1)) 96 3 (-1)) := LPr.rd (LPr.rd (LPr.rd hLr))
  have x1 : (mst (mst (mst r 96 1 (-1)) 96 2 (-1)) 96 3 (-1)).1 96 1 = -1 := rfl
  have x2 : (mst (mst (mst r 96 1 (-1)) 96 2 (-1)) 96 3 (-1)).1 96 2 = -1 := rfl
  have x3 : (mst (mst (mst r 96 1 (-1)) 96 2 (-1)) 96 3 (-1)).1 96 3 = -1 := rfl
  have f95 : ∀ y, (mst (mst (mst r 96 1 (-1)) 96 2 (-1)) 96 3 (-1)).1 95 y = M.1 95 y := fun y => (vk95 hV3 y).trans (e95 y)
  generalize mst (mst (mst r 96 1 (-1)) 96 2 (-1)) 96 3 (-1) = A at *
  have hTA := hTr.keep hV3.keep
  refine TT.jI (TT.pos (by decide) ?_)
  have v0 := take_V hTA hp3 hL3.1.2.2 (i := tP T n σ.1 (0 + 1)) (k := 1 + (0 : Nat)) (lo := 0) (hi := 3) (by rw [hL3.1.1, hL3.1.2.1]; exact hL3.2.1) (by rw [hL3.1.1, hL3.1.2.1]; exact hL3.2.2.2.1) (by decide) (by decide)
  refine (TT.tkv (th' := σ.2.2.2.1) (sh := 1) (k := 0) hl hc hne (by decide) hTA hL3 (take_T hTA hp3 (by decide) (by decide)) (v0.mono (fun r q => ⟨q.1, fun _ => q.2.1, q.2.2⟩)) (fun z => bad_no (tV_r z).1 rfl rfl (by omega)) (fun z e => e) (fun r1 hTa1 hpa1 hLa1 qa1 => ?_))
  rw [wp85_20 hTa1]
  refine TT.guard (wk85 hTa1) (TT.guard (rd_g hTa1 (by decide) (by decide)) ?_)
  have v1 := takeBut_V hTa1 hpa1 hLa1.1.2.2 (i := tP T n σ.1 (1 + 1)) (k := 1 + (1 : Nat)) (lo := 0) (hi := 3) (bt := r1.2.1 96 1) (by rw [hLa1.1.1, hLa1.1.2.1]; exact hLa1.2.1) (by rw [hLa1.1.1, hLa1.1.2.1]; exact hLa1.2.2.2.1) (by decide) (by decide)
  refine (TT.tkv (th' := σ.2.2.2.1) (sh := 1) (k := 1) hl hc hne (by decide) hTa1 hLa1 (takeBut_T hTa1 hpa1 (by decide) (by decide)) (v1.mono (fun r q => ⟨q.1, fun _ => q.2.1, q.2.2⟩)) (fun z => by rw [show r1.2.1 96 1 = tV T n (tP T n σ.1 1) from hLa1.2.2.2.2.1 0 (by decide)]; exact bad_son (Or.inr rfl) rfl rfl) (fun z e => e) (fun r2 hTa2 hpa2 hLa2 qa2 => ?_))
  have v2 := take_V hTa2 hpa2 hLa2.1.2.2 (i := tP T n σ.1 (2 + 1)) (k := 1 + (2 : Nat)) (lo := 1) (hi := 9) (by rw [hLa2.1.1, hLa2.1.2.1]; exact hLa2.2.1) (by rw [hLa2.1.1, hLa2.1.2.1]; exact hLa2.2.2.2.1) (by decide) (by decide)
  refine TT.guard (wk85 hTa2) (TT.tkv (th' := σ.2.2.2.1) (sh := 1) (k := 2) hl hc hne (by decide) hTa2 hLa2 (take_T hTa2 hpa2 (by decide) (by decide)) (v2.mono (fun r q => ⟨q.1, fun _ => q.2.1, q.2.2⟩)) (fun z => bad_no (tV_r z).1 rfl rfl (by omega)) (fun z e => e) (fun r3 hTa3 hpa3 hLa3 qa3 => ?_))
  refine TT.jI (TT.neg (by decide) ?_)
  try dsimp only
  rw [wp85_20 hTa3]
  refine TT.guard (wk85 hTa3) (TT.guard (rd_g hTa3 (by decide) (by decide)) (TT.sM ?_))
  have hVz : VK r3.2 (mst r3.2 96 0 2) := s96 _ _ _
  have hLz : LPr T n s σ 14 3 1 σ.2.2.2.1 σ.2.2.2.2 σ.2.2.1 (mst r3.2 96 0 2) := by
    obtain ⟨⟨e86, e11, hby⟩, lX, lok, lF, lv, lD⟩ := hLa3
    refine ⟨⟨by rw [← e86]; exact funext fun y => mst_ne _ _ _ _ _ _ (by decide), e11, fun a b c => ?_⟩, lX, lok, lF, fun a b => ?_, fun e => ⟨(lD e).1, fun y y0 y1 => ?_, (lD e).2.2⟩⟩
    · show -128 ≤ (mst r3.2 96 0 2).1 86 a ∧ (mst r3.2 96 0 2).1 86 a ≤ 127
      rw [mst_ne _ _ _ _ _ _ (by decide)]; exact hby a b c
    · show (mst r3.2 96 0 2).1 96 (1 + (a : Int)) = _
      rw [mst_nf _ _ _ _ _ _ (by omega)]; exact lv a b
    · show (mst r3.2 96 0 2).1 95 y = _
      rw [mst_ne _ _ _ _ _ _ (by decide)]; exact (lD e).2.1 y y0 y1
  have z95 : (mst r3.2 96 0 2).1 95 0 = M.1 95 0 := (vk95 hVz 0).trans (((qa3.2.2.2.2 0).trans (qa2.2.2.2.2 0)).trans ((qa1.2.2.2.2 0).trans (f95 0)))
  refine night_keep (hTa3.keep hVz.keep) (a := 2) (b := vv T n σ.1 0) (c := vv T n σ.1 1) (e := vv T n σ.1 2) hl hc hne rfl (by decide) hLz (by rw [z95]; exact hd.1) rfl (hLz.2.2.2.2.1 0 (by decide)) (hLz.2.2.2.2.1 1 (by decide)) (hLz.2.2.2.2.1 2 (by decide)) ?_
  rw [uL_14]
  rfl
set_option maxHeartbeats 1000000 in
theorem nightsLine_V15 (hT : WT M) (hp : PT M) (h : HdR M T n σ) (hc : tK T n σ.1 = 1) (hd : DN M) (hl : 15 = lnIx T n σ.1 s) : TT (fX11_nightsLine M 85 474214787188 (tS T n σ.1)) (LO T n s σ) := by
  unfold fX11_nightsLine
  have hne : (15 : Int) ≠ -1 := by decide
  refine TT.jI (TT.neg (by decide) (TT.neg (by decide) (TT.neg (by decide) (TT.pos (by decide) ?_))))
  refine TT.neg (by decide) (TT.guard (wk85 hT) (TT.bind (full_V hT (by decide) (by decide) h.2.2.1 (Int.le_refl _)) (fun r0 q0 => ?_)))
  have hF0 := q0.2
  rw [fp0_full (s := s) h (by decide) (by decide) hd.1.2 (by rw [← hl]; unfold fullB; simp)] at hF0
  have hT0 : WT r0 := hT.keep (VK.keep (M := M) ⟨q0.1.1, fun x y _ b => q0.1.2 x y (by omega)⟩)
  refine TT.guard (wk85 hT0) (TT.bind (head_V hT hp h hc q0.1 hF0 1 15) (fun r q5 => ?_))
  obtain ⟨⟨hTr, hpr, e95⟩, hLr⟩ := q5
  try dsimp only
  rw [wp85_20 hTr]
  refine TT.guard (wk85 hTr) (TT.guard (rd_g hTr (by decide) (by decide)) (TT.sM ?_))
  have s96 : ∀ (N : Mem) (i v : Int), VK N (mst N 96 i v) := fun N i v => ⟨rfl, fun x y b _ => mst_ne _ _ _ _ _ _ b⟩
  have hV1 : VK r (mst r 96 1 (-1)) := s96 _ _ _
  rw [wp85_20 (hTr.keep hV1.keep)]
  refine TT.guard (rd_g (hTr.keep hV1.keep) (by decide) (by decide)) (TT.sM ?_)
  have hV2 : VK r (mst (mst r 96 1 (-1)) 96 2 (-1)) := hV1.trans (s96 _ _ _)
  rw [wp85_20 (hTr.keep hV2.keep)]
  refine TT.guard (rd_g (hTr.keep hV2.keep) (by decide) (by decide)) (TT.sM ?_)
  have hV3 : VK r (mst (mst (mst r 96 1 (-1)) 96 2 (-1)) 96 3 (-1)) := hV2.trans (s96 _ _ _)
  have hp3 : PT (mst (mst (mst r 96 1 (-1)) 96 2 (-1)) 96 3 (-1)) := hpr
  have hL3 : LPr T n s σ 15 0 1 σ.2.2.2.1 σ.2.2.2.2 σ.2.2.1 (mst (mst (mst r 96 1 (-1)) 96 2 (-1)) 96 3 (-1)) := LPr.rd (LPr.rd (LPr.rd hLr))
  have x1 : (mst (mst (mst r 96 1 (-1)) 96 2 (-1)) 96 3 (-1)).1 96 1 = -1 := rfl
  have x2 : (mst (mst (mst r 96 1 (-1)) 96 2 (-1)) 96 3 (-1)).1 96 2 = -1 := rfl
  have x3 : (mst (mst (mst r 96 1 (-1)) 96 2 (-1)) 96 3 (-1)).1 96 3 = -1 := rfl
  have f95 : ∀ y, (mst (mst (mst r 96 1 (-1)) 96 2 (-1)) 96 3 (-1)).1 95 y = M.1 95 y := fun y => (vk95 hV3 y).trans (e95 y)
  generalize mst (mst (mst r 96 1 (-1)) 96 2 (-1)) 96 3 (-1) = A at *
  have hTA := hTr.keep hV3.keep
  refine TT.jI (TT.neg (by decide) (TT.jI (TT.neg (by decide) ?_)))
  try dsimp only
  rw [wp85_20 hTA]
  refine TT.guard (wk85 hTA) (TT.guard (rd_g hTA (by decide) (by decide)) (TT.sM ?_))
  have hVz : VK A (mst A 96 0 3) := s96 _ _ _
  have hLz : LPr T n s σ 15 0 1 σ.2.2.2.1 σ.2.2.2.2 σ.2.2.1 (mst A 96 0 3) := by
    obtain ⟨⟨e86, e11, hby⟩, lX, lok, lF, lv, lD⟩ := hL3
    refine ⟨⟨by rw [← e86]; exact funext fun y => mst_ne _ _ _ _ _ _ (by decide), e11, fun a b c => ?_⟩, lX, lok, lF, fun a b => ?_, fun e => ⟨(lD e).1, fun y y0 y1 => ?_, (lD e).2.2⟩⟩
    · show -128 ≤ (mst A 96 0 3).1 86 a ∧ (mst A 96 0 3).1 86 a ≤ 127
      rw [mst_ne _ _ _ _ _ _ (by decide)]; exact hby a b c
    · show (mst A 96 0 3).1 96 (1 + (a : Int)) = _
      rw [mst_nf _ _ _ _ _ _ (by omega)]; exact lv a b
    · show (mst A 96 0 3).1 95 y = _
      rw [mst_ne _ _ _ _ _ _ (by decide)]; exact (lD e).2.1 y y0 y1
  have z95 : (mst A 96 0 3).1 95 0 = M.1 95 0 := (vk95 hVz 0).trans (f95 0)
  refine night_keep (hTA.keep hVz.keep) (a := 3) (b := -1) (c := -1) (e := -1) hl hc hne rfl (by decide) hLz (by rw [z95]; exact hd.1) rfl x1 x2 x3 ?_
  rw [uL_15]
theorem nightsLine_N (hT : WT M) (h : HdR M T n σ) {w a : Int} (hw : ∀ k : Nat, 12 ≤ k → k < 16 → w ≠ WCL.getD k 0) (hn : tK T n σ.1 ≠ 1 ∨ lnIx T n σ.1 s = -1) : TT (fX11_nightsLine M 85 w a) (LO T n s σ) := by
  unfold fX11_nightsLine
  have z : ∀ k : Nat, 12 ≤ k → k < 16 → ¬ lcmp w (WCL.getD k 0) = 0 := fun k h9 hk e => hw k h9 hk (lcmp0.mp e)
  exact TT.jI (TT.neg (z 12 (by decide) (by decide)) (TT.neg (z 13 (by decide) (by decide)) (TT.neg (z 14 (by decide) (by decide)) (TT.neg (z 15 (by decide) (by decide)) (TT.pos rfl (TT.guard (wk85 hT) (lo_fails hT h.2.1 hn)))))))
set_option maxHeartbeats 1000000 in
theorem sightLine_V16 (hT : WT M) (hp : PT M) (h : HdR M T n σ) (hc : tK T n σ.1 = 1) (hd : DS M) (hl : 16 = lnIx T n σ.1 s) : TT (fX11_sightLine M 85 444150998382 (tS T n σ.1)) (LO T n s σ) := by
  unfold fX11_sightLine
  have hne : (16 : Int) ≠ -1 := by decide
  refine TT.jI (TT.pos (by decide) ?_)
  refine TT.jI (TT.pos (by decide) (TT.guard (wk85 hT) (TT.bind (full_V hT (by decide) (by decide) h.2.2.1 (Int.le_refl _)) (fun r0 q0 => ?_))))
  have hF0 := q0.2
  rw [fp0_full (s := s) h (by decide) (by decide) hd.1.2 (by rw [← hl]; unfold fullB; simp)] at hF0
  have hT0 : WT r0 := hT.keep (VK.keep (M := M) ⟨q0.1.1, fun x y _ b => q0.1.2 x y (by omega)⟩)
  refine TT.guard (wk85 hT0) (TT.bind (head_V hT hp h hc q0.1 hF0 0 16) (fun r5 q5 => ?_))
  obtain ⟨⟨hT5, hp5, e95⟩, hL5⟩ := q5
  have v0 := take_V hT5 hp5 hL5.1.2.2 (i := tP T n σ.1 (0 + 1)) (k := 0 + (0 : Nat)) (lo := 0) (hi := 5) (by rw [hL5.1.1, hL5.1.2.1]; exact hL5.2.1) (by rw [hL5.1.1, hL5.1.2.1]; exact hL5.2.2.2.1) (by decide) (by decide)
  refine TT.guard (wk85 hT5) (TT.tkv (th' := σ.2.2.2.1) (sh := 0) (k := 0) hl hc hne (by decide) hT5 hL5 (take_T hT5 hp5 (by decide) (by decide)) (v0.mono (fun r q => ⟨q.1, fun _ => q.2.1, q.2.2⟩)) (fun z => bad_no (tV_r z).1 rfl rfl (by omega)) (fun z e => e) (fun r1 hTa1 hpa1 hLa1 qa1 => ?_))
  have v1 := take_V hTa1 hpa1 hLa1.1.2.2 (i := tP T n σ.1 (1 + 1)) (k := 0 + (1 : Nat)) (lo := 0) (hi := 4) (by rw [hLa1.1.1, hLa1.1.2.1]; exact hLa1.2.1) (by rw [hLa1.1.1, hLa1.1.2.1]; exact hLa1.2.2.2.1) (by decide) (by decide)
  refine TT.guard (wk85 hTa1) (TT.tkv (th' := σ.2.2.2.1) (sh := 0) (k := 1) hl hc hne (by decide) hTa1 hLa1 (take_T hTa1 hpa1 (by decide) (by decide)) (v1.mono (fun r q => ⟨q.1, fun _ => q.2.1, q.2.2⟩)) (fun z => bad_no (tV_r z).1 rfl rfl (by omega)) (fun z e => e) (fun r2 hTa2 hpa2 hLa2 qa2 => ?_))
  have w0 : r2.2.1 96 0 = vv T n σ.1 0 := hLa2.2.2.2.2.1 0 (by decide)
  have w1 : r2.2.1 96 1 = vv T n σ.1 1 := hLa2.2.2.2.2.1 1 (by decide)
  have e0 : r2.2.1 95 0 = M.1 95 0 := ((qa2.2.2.2.2 0).trans (qa1.2.2.2.2 0)).trans (e95 0)
  have h8 := hd.1
  refine TT.pos (by decide) (TT.guard (wk85 hTa2) (TT.bind (keep_T hTa2 (by decide) (by decide) (by decide) (by decide) (fun z => by omega)) (fun r3 q2 => TT.ok (Or.inr ⟨rfl, hc, by rw [← hl]; exact hne, 0, ?_⟩))))
  rw [← hl, uL_16]
  have fr : ∀ x y, x ≠ 95 → r3.1 x y = r2.2.1 x y := fun x y z => by
    rcases q2 with ⟨_, e⟩ | ⟨_, e, _⟩
    · rw [e]
    · exact e.2 x y z
  refine LPr.told hLa2 fr (fun ez => ?_)
  have hD := (hLa2.2.2.2.2.2 ez).2.1
  obtain ⟨g1, _, _⟩ := fpN_0 2 ez
  have gf := (fp0_0 g1).2.2
  rw [← hl] at gf
  have lt4 : σ.2.2.1 0 < 8 := by
    unfold fullB at gf
    simp at gf
    omega
  have d1 := hD 0 (by decide) (by decide)
  rcases q2 with ⟨z, _⟩ | ⟨_, _, e3, e4⟩
  · omega
  · intro y y0 y1
    unfold up
    rw [d1] at e3 e4
    by_cases c1 : y = 0
    · rw [if_pos c1, c1, e3]
    · rw [if_neg c1, e4 y c1]
      by_cases c2 : 1 + 2 * σ.2.2.1 0 ≤ y ∧ y < 1 + 2 * σ.2.2.1 0 + 2
      · rw [if_pos c2]
        rcases (show y = 1 + 2 * σ.2.2.1 0 ∨ y = 2 + 2 * σ.2.2.1 0 by omega) with q | q
        · rw [if_neg (by omega), if_pos q, show y - (1 + 2 * σ.2.2.1 0) = 0 by omega]; exact w0
        · rw [if_pos q, show y - (1 + 2 * σ.2.2.1 0) = 1 by omega]; exact w1
      · rw [if_neg c2, if_neg (by omega), if_neg (by omega)]; exact hD y y0 y1
set_option maxHeartbeats 1000000 in
theorem sightLine_V17 (hT : WT M) (hp : PT M) (h : HdR M T n σ) (hc : tK T n σ.1 = 1) (hd : DS M) (hl : 17 = lnIx T n σ.1 s) : TT (fX11_sightLine M 85 1818584692 (tS T n σ.1)) (LO T n s σ) := by
  unfold fX11_sightLine
  have hne : (17 : Int) ≠ -1 := by decide
  refine TT.jI (TT.neg (by decide) (TT.pos (by decide) ?_))
  have hF0 : FR (fp0 T n s σ) M (tS T n σ.1 + 1) := by
    rw [fp0_no (by rw [← hl]; rfl)]; exact h.2.2.1.up (by omega)
  refine TT.jI (TT.neg (by decide) (TT.guard (wk85 hT) (TT.bind (head_V hT hp h hc ⟨rfl, fun _ _ _ => rfl⟩ hF0 0 17) (fun r5 q5 => ?_))))
  obtain ⟨⟨hT5, hp5, e95⟩, hL5⟩ := q5
  have v0 := take_V hT5 hp5 hL5.1.2.2 (i := tP T n σ.1 (0 + 1)) (k := 0 + (0 : Nat)) (lo := 0) (hi := 5) (by rw [hL5.1.1, hL5.1.2.1]; exact hL5.2.1) (by rw [hL5.1.1, hL5.1.2.1]; exact hL5.2.2.2.1) (by decide) (by decide)
  refine TT.guard (wk85 hT5) (TT.tkv (th' := σ.2.2.2.1) (sh := 0) (k := 0) hl hc hne (by decide) hT5 hL5 (take_T hT5 hp5 (by decide) (by decide)) (v0.mono (fun r q => ⟨q.1, fun _ => q.2.1, q.2.2⟩)) (fun z => bad_no (tV_r z).1 rfl rfl (by omega)) (fun z e => e) (fun r1 hTa1 hpa1 hLa1 qa1 => ?_))
  have v1 := take_V hTa1 hpa1 hLa1.1.2.2 (i := tP T n σ.1 (1 + 1)) (k := 0 + (1 : Nat)) (lo := 0) (hi := 4) (by rw [hLa1.1.1, hLa1.1.2.1]; exact hLa1.2.1) (by rw [hLa1.1.1, hLa1.1.2.1]; exact hLa1.2.2.2.1) (by decide) (by decide)
  refine TT.guard (wk85 hTa1) (TT.tkv (th' := σ.2.2.2.1) (sh := 0) (k := 1) hl hc hne (by decide) hTa1 hLa1 (take_T hTa1 hpa1 (by decide) (by decide)) (v1.mono (fun r q => ⟨q.1, fun _ => q.2.1, q.2.2⟩)) (fun z => bad_no (tV_r z).1 rfl rfl (by omega)) (fun z e => e) (fun r2 hTa2 hpa2 hLa2 qa2 => ?_))
  refine TT.neg (by decide) ?_
  have v2 := take_V hTa2 hpa2 hLa2.1.2.2 (i := tP T n σ.1 (2 + 1)) (k := 0 + (2 : Nat)) (lo := 0) (hi := 18) (by rw [hLa2.1.1, hLa2.1.2.1]; exact hLa2.2.1) (by rw [hLa2.1.1, hLa2.1.2.1]; exact hLa2.2.2.2.1) (by decide) (by decide)
  refine TT.guard (wk85 hTa2) (TT.tkv (th' := σ.2.2.2.1) (sh := 0) (k := 2) hl hc hne (by decide) hTa2 hLa2 (take_T hTa2 hpa2 (by decide) (by decide)) (v2.mono (fun r q => ⟨q.1, fun _ => q.2.1, q.2.2⟩)) (fun z => bad_no (tV_r z).1 rfl rfl (by omega)) (fun z e => e) (fun r3 hTa3 hpa3 hLa3 qa3 => ?_))
  rw [wp85_20 hTa3]
  have w0 : r3.2.1 96 0 = vv T n σ.1 0 := hLa3.2.2.2.2.1 0 (by decide)
  have b0 : 0 ≤ vv T n σ.1 0 ∧ vv T n σ.1 0 ≤ 99 := tV_r (hLa3.2.2.1 1 (by decide) (by decide))
  have w1 : r3.2.1 96 1 = vv T n σ.1 1 := hLa3.2.2.2.2.1 1 (by decide)
  have b1 : 0 ≤ vv T n σ.1 1 ∧ vv T n σ.1 1 ≤ 99 := tV_r (hLa3.2.2.1 2 (by decide) (by decide))
  have w2 : r3.2.1 96 2 = vv T n σ.1 2 := hLa3.2.2.2.2.1 2 (by decide)
  have b2 : 0 ≤ vv T n σ.1 2 ∧ vv T n σ.1 2 ≤ 99 := tV_r (hLa3.2.2.1 3 (by decide) (by decide))
  rw [w0, w1, w2, w32_of (x := 5 * vv T n σ.1 0) (by omega) (by omega), w32_of (x := 17 + 5 * vv T n σ.1 0) (by omega) (by omega), w32_of (x := 17 + 5 * vv T n σ.1 0 + vv T n σ.1 1) (by omega) (by omega)]
  refine TT.guard (wk85 hTa3) (TT.guard (rd_g hTa3 (by decide) (by decide)) (TT.guard (rd_g hTa3 (by decide) (by decide)) (TT.guard (rd_g hTa3 (by decide) (by decide)) (LPr.lay hl hc hne rfl hLa3 (lay_V hTa3 (fun hg => ?_)) ?_ rfl rfl))))
  · have g2 := qa3.2.2.2.1.2 hg
    have g1 := qa2.2.2.2.1.2 g2
    have r1v : 0 ≤ r1.2.1 96 0 ∧ r1.2.1 96 0 ≤ 5 := qa1.2.2.1 (Or.inr g1)
    have r2v : 0 ≤ r2.2.1 96 1 ∧ r2.2.1 96 1 ≤ 4 := qa2.2.2.1 (Or.inr g2)
    have e1 : r1.2.1 96 0 = vv T n σ.1 0 := hLa1.2.2.2.2.1 0 (by decide)
    have e2 : r2.2.1 96 1 = vv T n σ.1 1 := hLa2.2.2.2.2.1 1 (by decide)
    omega
  · rw [uL_17]
theorem sightLine_N (hT : WT M) (h : HdR M T n σ) {w a : Int} (hw : ∀ k : Nat, 16 ≤ k → k < 18 → w ≠ WCL.getD k 0) (hn : tK T n σ.1 ≠ 1 ∨ lnIx T n σ.1 s = -1) : TT (fX11_sightLine M 85 w a) (LO T n s σ) := by
  unfold fX11_sightLine
  have z : ∀ k : Nat, 16 ≤ k → k < 18 → ¬ lcmp w (WCL.getD k 0) = 0 := fun k h9 hk e => hw k h9 hk (lcmp0.mp e)
  exact TT.jI (TT.neg (z 16 (by decide) (by decide)) (TT.neg (z 17 (by decide) (by decide)) (TT.guard (wk85 hT) (lo_fails hT h.2.1 hn))))
end RefO
