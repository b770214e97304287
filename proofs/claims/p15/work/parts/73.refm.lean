/-! the reference: its lines, one by one -/
section RefM
variable {M N : Mem} {T : Int → Int} {n i : Int} {s : Int} {σ : RSt} {l : Int}
theorem lcmp0 {a b : Int} : lcmp a b = 0 ↔ a = b := by
  unfold lcmp
  by_cases h : a = b
  · rw [if_pos h]; exact ⟨fun _ => h, fun _ => rfl⟩
  · rw [if_neg h]
    constructor
    · intro e
      split at e <;> omega
    · intro e; exact absurd e h
theorem mx3 (a b c : Int) : mx (mx a b) c = mx (mx a c) b := by
  unfold mx
  by_cases h1 : a < b
  · rw [if_pos h1]
    by_cases h2 : a < c
    · rw [if_pos h2]
      by_cases h3 : b < c
      · rw [if_pos h3, if_neg (by omega)]
      · rw [if_neg h3]
        by_cases h4 : c < b
        · rw [if_pos h4]
        · rw [if_neg h4]; omega
    · rw [if_neg h2, if_neg (by omega), if_pos h1]
  · rw [if_neg h1]
    by_cases h2 : a < c
    · rw [if_pos h2, if_neg (by omega)]
    · rw [if_neg h2, if_neg h1]
set_option maxHeartbeats 1000000 in
theorem houseLine_V3 (hT : WT M) (hp : PT M) (hl : 3 = lnIx T n σ.1 s) (hc : tK T n σ.1 = 1) (hL : LPr T n s σ 3 0 0 σ.2.2.2.1 σ.2.2.2.2 σ.2.2.1 M) : TT (fX11_houseLine M 85 512736125800) (LO T n s σ) := by
  have hne : (3 : Int) ≠ -1 := by decide
  unfold fX11_houseLine
  have v0 := takeHouse_V hT hp hL.1.2.2 (i := tP T n σ.1 (0 + 1)) (k := 0 + (0 : Nat)) (by rw [hL.1.1, hL.1.2.1]; exact hL.2.1) (by rw [hL.1.1, hL.1.2.1]; exact hL.2.2.2.1) (by decide) (by decide)
  refine TT.guard (wk85 hT) (TT.tkv (th' := mx σ.2.2.2.1 (vv T n σ.1 0)) (sh := 0) (k := 0) hl hc hne (by decide) hT hL (takeHouse_T hT hp (by decide) (by decide)) v0 (fun z => bad_no (tV_r z).1 rfl rfl (by omega)) (fun z e => by rw [hL.1.1, hL.1.2.1, e]; rfl) (fun r1 hT1 hp1 hL1 q1 => ?_))
  refine TT.pos (by decide) ?_
  have v1 := take_V hT1 hp1 hL1.1.2.2 (i := tP T n σ.1 (1 + 1)) (k := 0 + (1 : Nat)) (lo := 0) (hi := 9) (by rw [hL1.1.1, hL1.1.2.1]; exact hL1.2.1) (by rw [hL1.1.1, hL1.1.2.1]; exact hL1.2.2.2.1) (by decide) (by decide)
  refine TT.guard (wk85 hT1) (TT.tkv (th' := mx σ.2.2.2.1 (vv T n σ.1 0)) (sh := 0) (k := 1) hl hc hne (by decide) hT1 hL1 (take_T hT1 hp1 (by decide) (by decide)) (v1.mono (fun r q => ⟨q.1, fun _ => q.2.1, q.2.2⟩)) (fun z => bad_no (tV_r z).1 rfl rfl (by omega)) (fun z e => e) (fun r2 hT2 hp2 hL2 q2 => ?_))
  rw [wp85_20 hT2]
  have w0 : r2.2.1 96 0 = vv T n σ.1 0 := hL2.2.2.2.2.1 0 (by decide)
  have b0 : 0 ≤ vv T n σ.1 0 ∧ vv T n σ.1 0 ≤ 99 := tV_r (hL2.2.2.1 1 (by decide) (by decide))
  have w1 : r2.2.1 96 1 = vv T n σ.1 1 := hL2.2.2.2.2.1 1 (by decide)
  have b1 : 0 ≤ vv T n σ.1 1 ∧ vv T n σ.1 1 ≤ 99 := tV_r (hL2.2.2.1 2 (by decide) (by decide))
  rw [w0, w1, w32_of (x := 62 + vv T n σ.1 0) (by omega) (by omega)]
  refine TT.guard (wk85 hT2) (TT.guard (rd_g hT2 (by decide) (by decide)) (TT.guard (rd_g hT2 (by decide) (by decide)) (LPr.lay hl hc hne rfl hL2 (lay_V hT2 (fun hg => ?_)) ?_ ?_ ?_)))
  · have g1 := q2.2.2.2.1.2 hg
    have r1v : 0 ≤ r1.2.1 96 0 ∧ r1.2.1 96 0 ≤ 5 := q1.2.2.1 (Or.inr g1)
    have e1 : r1.2.1 96 0 = vv T n σ.1 0 := hL1.2.2.2.2.1 0 (by decide)
    omega
  · rw [uL_3]
  · rfl
  · rfl
set_option maxHeartbeats 1000000 in
theorem houseLine_V4 (hT : WT M) (hp : PT M) (hl : 4 = lnIx T n σ.1 s) (hc : tK T n σ.1 = 1) (hL : LPr T n s σ 4 0 0 σ.2.2.2.1 σ.2.2.2.2 σ.2.2.1 M) : TT (fX11_houseLine M 85 123563851081075) (LO T n s σ) := by
  have hne : (4 : Int) ≠ -1 := by decide
  unfold fX11_houseLine
  have v0 := takeHouse_V hT hp hL.1.2.2 (i := tP T n σ.1 (0 + 1)) (k := 0 + (0 : Nat)) (by rw [hL.1.1, hL.1.2.1]; exact hL.2.1) (by rw [hL.1.1, hL.1.2.1]; exact hL.2.2.2.1) (by decide) (by decide)
  refine TT.guard (wk85 hT) (TT.tkv (th' := mx σ.2.2.2.1 (vv T n σ.1 0)) (sh := 0) (k := 0) hl hc hne (by decide) hT hL (takeHouse_T hT hp (by decide) (by decide)) v0 (fun z => bad_no (tV_r z).1 rfl rfl (by omega)) (fun z e => by rw [hL.1.1, hL.1.2.1, e]; rfl) (fun r1 hT1 hp1 hL1 q1 => ?_))
  refine TT.neg (by decide) ?_
  have v1 := takeHouse_V hT1 hp1 hL1.1.2.2 (i := tP T n σ.1 (1 + 1)) (k := 0 + (1 : Nat)) (by rw [hL1.1.1, hL1.1.2.1]; exact hL1.2.1) (by rw [hL1.1.1, hL1.1.2.1]; exact hL1.2.2.2.1) (by decide) (by decide)
  refine TT.guard (wk85 hT1) (TT.tkv (th' := mx (mx σ.2.2.2.1 (vv T n σ.1 0)) (vv T n σ.1 1)) (sh := 0) (k := 1) hl hc hne (by decide) hT1 hL1 (takeHouse_T hT1 hp1 (by decide) (by decide)) v1 (fun z => bad_no (tV_r z).1 rfl rfl (by omega)) (fun z e => by rw [hL1.1.1, hL1.1.2.1, e]; rfl) (fun r2 hT2 hp2 hL2 q2 => ?_))
  rw [wp85_20 hT2]
  have w0 : r2.2.1 96 0 = vv T n σ.1 0 := hL2.2.2.2.2.1 0 (by decide)
  have b0 : 0 ≤ vv T n σ.1 0 ∧ vv T n σ.1 0 ≤ 99 := tV_r (hL2.2.2.1 1 (by decide) (by decide))
  have w1 : r2.2.1 96 1 = vv T n σ.1 1 := hL2.2.2.2.2.1 1 (by decide)
  have b1 : 0 ≤ vv T n σ.1 1 ∧ vv T n σ.1 1 ≤ 99 := tV_r (hL2.2.2.1 2 (by decide) (by decide))
  rw [w0, w1, w32_of (x := 68 + vv T n σ.1 0) (by omega) (by omega)]
  refine TT.guard (wk85 hT2) (TT.guard (rd_g hT2 (by decide) (by decide)) (TT.guard (rd_g hT2 (by decide) (by decide)) (LPr.lay hl hc hne rfl hL2 (lay_V hT2 (fun hg => ?_)) ?_ ?_ ?_)))
  · have g1 := q2.2.2.2.1.2 hg
    have r1v : 0 ≤ r1.2.1 96 0 ∧ r1.2.1 96 0 ≤ 5 := q1.2.2.1 (Or.inr g1)
    have e1 : r1.2.1 96 0 = vv T n σ.1 0 := hL1.2.2.2.2.1 0 (by decide)
    omega
  · rw [uL_4]
  · show mx (mx σ.2.2.2.1 (vv T n σ.1 1)) (vv T n σ.1 0) = _
    exact mx3 _ _ _
  · rfl
set_option maxHeartbeats 1000000 in
theorem goodLine_V5 (hT : WT M) (hp : PT M) (hl : 5 = lnIx T n σ.1 s) (hc : tK T n σ.1 = 1) (hL : LPr T n s σ 5 0 0 σ.2.2.2.1 σ.2.2.2.2 σ.2.2.1 M) : TT (fX11_goodLine M 85 131277443786868) (LO T n s σ) := by
  have hne : (5 : Int) ≠ -1 := by decide
  unfold fX11_goodLine
  have v0 := take_V hT hp hL.1.2.2 (i := tP T n σ.1 (0 + 1)) (k := 0 + (0 : Nat)) (lo := 0) (hi := 4) (by rw [hL.1.1, hL.1.2.1]; exact hL.2.1) (by rw [hL.1.1, hL.1.2.1]; exact hL.2.2.2.1) (by decide) (by decide)
  refine TT.guard (wk85 hT) (TT.tkv (th' := σ.2.2.2.1) (sh := 0) (k := 0) hl hc hne (by decide) hT hL (take_T hT hp (by decide) (by decide)) (v0.mono (fun r q => ⟨q.1, fun _ => q.2.1, q.2.2⟩)) (fun z => bad_no (tV_r z).1 rfl rfl (by omega)) (fun z e => e) (fun r1 hT1 hp1 hL1 q1 => ?_))
  refine TT.jI (TT.pos (by decide) ?_)
  have v1 := take_V hT1 hp1 hL1.1.2.2 (i := tP T n σ.1 (1 + 1)) (k := 0 + (1 : Nat)) (lo := 1) (hi := 9) (by rw [hL1.1.1, hL1.1.2.1]; exact hL1.2.1) (by rw [hL1.1.1, hL1.1.2.1]; exact hL1.2.2.2.1) (by decide) (by decide)
  refine TT.guard (wk85 hT1) (TT.tkv (th' := σ.2.2.2.1) (sh := 0) (k := 1) hl hc hne (by decide) hT1 hL1 (take_T hT1 hp1 (by decide) (by decide)) (v1.mono (fun r q => ⟨q.1, fun _ => q.2.1, q.2.2⟩)) (fun z => bad_no (tV_r z).1 rfl rfl (by omega)) (fun z e => e) (fun r2 hT2 hp2 hL2 q2 => ?_))
  refine TT.jI (TT.pos (by decide) ?_)
  try dsimp only
  rw [wp85_20 hT2]
  have w0 : r2.2.1 96 0 = vv T n σ.1 0 := hL2.2.2.2.2.1 0 (by decide)
  have b0 : 0 ≤ vv T n σ.1 0 ∧ vv T n σ.1 0 ≤ 99 := tV_r (hL2.2.2.1 1 (by decide) (by decide))
  have w1 : r2.2.1 96 1 = vv T n σ.1 1 := hL2.2.2.2.2.1 1 (by decide)
  have b1 : 0 ≤ vv T n σ.1 1 ∧ vv T n σ.1 1 ≤ 99 := tV_r (hL2.2.2.1 2 (by decide) (by decide))
  rw [w0, w1, w32_of (x := 74 + vv T n σ.1 0) (by omega) (by omega)]
  refine TT.guard (wk85 hT2) (TT.guard (rd_g hT2 (by decide) (by decide)) (TT.guard (rd_g hT2 (by decide) (by decide)) (LPr.lay hl hc hne rfl hL2 (lay_V hT2 (fun hg => ?_)) ?_ rfl rfl)))
  · have g1 := q2.2.2.2.1.2 hg
    have r1v : 0 ≤ r1.2.1 96 0 ∧ r1.2.1 96 0 ≤ 4 := q1.2.2.1 (Or.inr g1)
    have e1 : r1.2.1 96 0 = vv T n σ.1 0 := hL1.2.2.2.2.1 0 (by decide)
    omega
  · rw [uL_5]
set_option maxHeartbeats 1000000 in
theorem goodLine_V6 (hT : WT M) (hp : PT M) (hl : 6 = lnIx T n σ.1 s) (hc : tK T n σ.1 = 1) (hL : LPr T n s σ 6 0 0 σ.2.2.2.1 σ.2.2.2.2 σ.2.2.1 M) : TT (fX11_goodLine M 85 512970880104) (LO T n s σ) := by
  have hne : (6 : Int) ≠ -1 := by decide
  unfold fX11_goodLine
  have v0 := take_V hT hp hL.1.2.2 (i := tP T n σ.1 (0 + 1)) (k := 0 + (0 : Nat)) (lo := 0) (hi := 4) (by rw [hL.1.1, hL.1.2.1]; exact hL.2.1) (by rw [hL.1.1, hL.1.2.1]; exact hL.2.2.2.1) (by decide) (by decide)
  refine TT.guard (wk85 hT) (TT.tkv (th' := σ.2.2.2.1) (sh := 0) (k := 0) hl hc hne (by decide) hT hL (take_T hT hp (by decide) (by decide)) (v0.mono (fun r q => ⟨q.1, fun _ => q.2.1, q.2.2⟩)) (fun z => bad_no (tV_r z).1 rfl rfl (by omega)) (fun z e => e) (fun r1 hT1 hp1 hL1 q1 => ?_))
  refine TT.jI (TT.neg (by decide) ?_)
  have v1 := take_V hT1 hp1 hL1.1.2.2 (i := tP T n σ.1 (1 + 1)) (k := 0 + (1 : Nat)) (lo := 0) (hi := 9) (by rw [hL1.1.1, hL1.1.2.1]; exact hL1.2.1) (by rw [hL1.1.1, hL1.1.2.1]; exact hL1.2.2.2.1) (by decide) (by decide)
  refine TT.guard (wk85 hT1) (TT.tkv (th' := σ.2.2.2.1) (sh := 0) (k := 1) hl hc hne (by decide) hT1 hL1 (take_T hT1 hp1 (by decide) (by decide)) (v1.mono (fun r q => ⟨q.1, fun _ => q.2.1, q.2.2⟩)) (fun z => bad_no (tV_r z).1 rfl rfl (by omega)) (fun z e => e) (fun r2 hT2 hp2 hL2 q2 => ?_))
  refine TT.jI (TT.neg (by decide) ?_)
  try dsimp only
  rw [wp85_20 hT2]
  have w0 : r2.2.1 96 0 = vv T n σ.1 0 := hL2.2.2.2.2.1 0 (by decide)
  have b0 : 0 ≤ vv T n σ.1 0 ∧ vv T n σ.1 0 ≤ 99 := tV_r (hL2.2.2.1 1 (by decide) (by decide))
  have w1 : r2.2.1 96 1 = vv T n σ.1 1 := hL2.2.2.2.2.1 1 (by decide)
  have b1 : 0 ≤ vv T n σ.1 1 ∧ vv T n σ.1 1 ≤ 99 := tV_r (hL2.2.2.1 2 (by decide) (by decide))
  rw [w0, w1, w32_of (x := 79 + vv T n σ.1 0) (by omega) (by omega)]
  refine TT.guard (wk85 hT2) (TT.guard (rd_g hT2 (by decide) (by decide)) (TT.guard (rd_g hT2 (by decide) (by decide)) (LPr.lay hl hc hne rfl hL2 (lay_V hT2 (fun hg => ?_)) ?_ rfl rfl)))
  · have g1 := q2.2.2.2.1.2 hg
    have r1v : 0 ≤ r1.2.1 96 0 ∧ r1.2.1 96 0 ≤ 4 := q1.2.2.1 (Or.inr g1)
    have e1 : r1.2.1 96 0 = vv T n σ.1 0 := hL1.2.2.2.2.1 0 (by decide)
    omega
  · rw [uL_6]
set_option maxHeartbeats 1000000 in
theorem sonLine_V (hT : WT M) (hp : PT M) (hl : 7 = lnIx T n σ.1 s) (hc : tK T n σ.1 = 1) (hL : LPr T n s σ 7 0 0 σ.2.2.2.1 σ.2.2.2.2 σ.2.2.1 M) : TT (fX11_sonLine M 85) (LO T n s σ) := by
  have hne : (7 : Int) ≠ -1 := by decide
  unfold fX11_sonLine
  have v0 := take_V hT hp hL.1.2.2 (i := tP T n σ.1 (0 + 1)) (k := 0 + (0 : Nat)) (lo := 0) (hi := 3) (by rw [hL.1.1, hL.1.2.1]; exact hL.2.1) (by rw [hL.1.1, hL.1.2.1]; exact hL.2.2.2.1) (by decide) (by decide)
  refine TT.guard (wk85 hT) (TT.tkv (th' := σ.2.2.2.1) (sh := 0) (k := 0) hl hc hne (by decide) hT hL (take_T hT hp (by decide) (by decide)) (v0.mono (fun r q => ⟨q.1, fun _ => q.2.1, q.2.2⟩)) (fun z => bad_no (tV_r z).1 rfl rfl (by omega)) (fun z e => e) (fun r1 hT1 hp1 hL1 q1 => ?_))
  rw [wp85_20 hT1]
  refine TT.guard (wk85 hT1) (TT.guard (rd_g hT1 (by decide) (by decide)) ?_)
  have v1 := takeBut_V hT1 hp1 hL1.1.2.2 (i := tP T n σ.1 (1 + 1)) (k := 0 + (1 : Nat)) (lo := 0) (hi := 3) (bt := r1.2.1 96 0) (by rw [hL1.1.1, hL1.1.2.1]; exact hL1.2.1) (by rw [hL1.1.1, hL1.1.2.1]; exact hL1.2.2.2.1) (by decide) (by decide)
  refine (TT.tkv (th' := σ.2.2.2.1) (sh := 0) (k := 1) hl hc hne (by decide) hT1 hL1 (takeBut_T hT1 hp1 (by decide) (by decide)) (v1.mono (fun r q => ⟨q.1, fun _ => q.2.1, q.2.2⟩)) (fun z => by rw [show r1.2.1 96 0 = tV T n (tP T n σ.1 1) from hL1.2.2.2.2.1 0 (by decide)]; exact bad_son (Or.inl rfl) rfl rfl) (fun z e => e) (fun r2 hT2 hp2 hL2 q2 => ?_))
  rw [wp85_20 hT2]
  have w0 : r2.2.1 96 0 = vv T n σ.1 0 := hL2.2.2.2.2.1 0 (by decide)
  have b0 : 0 ≤ vv T n σ.1 0 ∧ vv T n σ.1 0 ≤ 99 := tV_r (hL2.2.2.1 1 (by decide) (by decide))
  have w1 : r2.2.1 96 1 = vv T n σ.1 1 := hL2.2.2.2.2.1 1 (by decide)
  have b1 : 0 ≤ vv T n σ.1 1 ∧ vv T n σ.1 1 ≤ 99 := tV_r (hL2.2.2.1 2 (by decide) (by decide))
  rw [w0, w1]
  refine TT.guard (wk85 hT2) (TT.guard (rd_g hT2 (by decide) (by decide)) (TT.guard (rd_g hT2 (by decide) (by decide)) ?_))
  have gr : ∀ (N : Mem) (a b : Int), TT (fX11_greater N a b) (fun r => r = mx a b) := fun N a b => by
    unfold fX11_greater mx
    refine TT.ite (fun c => TT.ok ?_) (fun c => TT.ok ?_)
    · rw [if_neg (by omega)]
    · by_cases e : a < b
      · rw [if_pos e]
      · rw [if_neg e]; omega
  refine TT.bind (gr _ _ _) (fun r13 e13 => TT.bind (gr _ _ _) (fun r15 e15 => TT.sM ?_))
  have hV : VK r2.2 (mst r2.2 85 22 r15) := ⟨rfl, fun x y a b => by rw [mst_r, if_neg (by rintro ⟨e1, e2⟩; omega)]⟩
  have hT8 := hT2.keep hV.keep
  have hL8 : LPr T n s σ 7 2 0 σ.2.2.2.1 (mx σ.2.2.2.2 (mx (vv T n σ.1 0) (vv T n σ.1 1))) σ.2.2.1 (mst r2.2 85 22 r15) := by
    obtain ⟨⟨e86, e11, hby⟩, lX, lok, lF, lv, lD⟩ := hL2
    refine ⟨⟨by rw [← e86]; exact funext fun y => mst_ne _ _ _ _ _ _ (by decide), e11, fun a b c => ?_⟩, lX, lok, lF, fun a b => ?_, fun e => ⟨(lD e).1, fun y y0 y1 => ?_, (lD e).2.2.1, ?_⟩⟩
    · show -128 ≤ (mst r2.2 85 22 r15).1 86 a ∧ (mst r2.2 85 22 r15).1 86 a ≤ 127
      rw [mst_ne _ _ _ _ _ _ (by decide)]; exact hby a b c
    · show (mst r2.2 85 22 r15).1 96 _ = _
      rw [mst_ne _ _ _ _ _ _ (by decide)]; exact lv a b
    · show (mst r2.2 85 22 r15).1 95 y = _
      rw [mst_ne _ _ _ _ _ _ (by decide)]; exact (lD e).2.1 y y0 y1
    · show (mst r2.2 85 22 r15).1 85 22 = _
      rw [mst_at, e15, e13, (lD e).2.2.2]
  have e96 : ∀ y, (mst r2.2 85 22 r15).1 96 y = r2.2.1 96 y := fun y => mst_ne _ _ _ _ _ _ (by decide)
  rw [wp85_20 hT8, e96, e96, w0, w1, w32_of (x := 88 + vv T n σ.1 0) (by omega) (by omega)]
  refine TT.guard (rd_g hT8 (by decide) (by decide)) (TT.guard (rd_g hT8 (by decide) (by decide)) (LPr.lay hl hc hne rfl hL8 (lay_V hT8 (fun hg => ?_)) ?_ rfl rfl))
  · have g1 := q2.2.2.2.1.2 hg
    have r1v : 0 ≤ r1.2.1 96 0 ∧ r1.2.1 96 0 ≤ 3 := q1.2.2.1 (Or.inr g1)
    have e1 : r1.2.1 96 0 = vv T n σ.1 0 := hL1.2.2.2.2.1 0 (by decide)
    omega
  · rw [uL_7]
end RefM
