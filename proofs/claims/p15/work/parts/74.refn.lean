/-! the reference: a town's, a law's, the nights', a sight's line -/
section RefN
variable {M N : Mem} {T : Int → Int} {n i : Int} {s : Int} {σ : RSt} {l : Int}
theorem full_V (hT : WT M) {c m p b : Int} {fp : Int × Int} (c0 : 0 ≤ c) (c1 : c < 161) (h : FR fp M b) (hb : b ≤ p) : TT (fX11_full M 85 c m p) (fun r => (r.2 = M.2 ∧ ∀ x y, (x ≠ 85 ∨ (y ≠ 17 ∧ y ≠ 18)) → r.1 x y = M.1 x y) ∧ FR (if M.1 95 c = m then nt 3 p fp else fp) r (p + 1)) := by
  unfold fX11_full
  rw [wp85_19 hT]
  refine TT.guard (wk85 hT) (TT.guard ⟨wk95 hT, c0, by rw [wl95 hT]; exact c1⟩ (TT.ite (fun e => ?_) (fun e => TT.ok ⟨⟨rfl, fun _ _ _ => rfl⟩, ?_⟩)))
  · rw [if_pos e]
    exact TT.bind (later_V hT (by decide) h hb) (fun r q => TT.ok q)
  · rw [if_neg e]; exact h.up (by omega)
/-- at a line's beginning -/
def HdR (M : Mem) (T : Int → Int) (n : Int) (σ : RSt) : Prop := (M.1 86 = T ∧ M.1 85 11 = n ∧ BY M ∧ 0 ≤ σ.1 ∧ σ.1 ≤ n) ∧ TokY T n σ.1 M ∧ FR σ.2.1 M (tS T n σ.1) ∧ (σ.2.1.1 = 0 → M.1 85 23 ≠ 0 ∧ (∀ y, 0 ≤ y → y < 161 → M.1 95 y = σ.2.2.1 y) ∧ M.1 85 21 = σ.2.2.2.1 ∧ M.1 85 22 = σ.2.2.2.2)
theorem head_V (hT : WT M) (hp : PT M) (h : HdR M T n σ) (hc : tK T n σ.1 = 1) {r0 : Mem} (h0 : r0.2 = M.2 ∧ ∀ x y, (x ≠ 85 ∨ (y ≠ 17 ∧ y ≠ 18)) → r0.1 x y = M.1 x y) (hF : FR (fp0 T n s σ) r0 (tS T n σ.1 + 1)) (sh l : Int) : TT (fX11_token r0 85) (fun r => (WT r ∧ PT r ∧ ∀ y, r.1 95 y = M.1 95 y) ∧ LPr T n s σ l 0 sh σ.2.2.2.1 σ.2.2.2.2 σ.2.2.1 r) := by
  obtain ⟨⟨e86, e11, hby, i0, i1⟩, hX, hFR, hD⟩ := h
  have hV : VK M r0 := ⟨h0.1, fun x y _ b => h0.2 x y (by omega)⟩
  have hT0 := hT.keep hV.keep
  have f86 : r0.1 86 = T := by rw [← e86]; exact funext fun y => h0.2 86 y (Or.inl (by decide))
  have f11 : r0.1 85 11 = n := (h0.2 85 11 (by decide)).trans e11
  have f10 : r0.1 85 10 = tE T n σ.1 := (h0.2 85 10 (by decide)).trans (hX.2.2.1 (by rw [hc]; decide))
  have fby : BY r0 := fun j a b => by
    rw [f86]; rw [f11] at b
    have := hby j a (by rw [e11]; exact b)
    rw [e86] at this; exact this
  have ps : PS r0 := hp.1.of (h0.2 85 10 (by decide)) (h0.2 85 11 (by decide))
  have tv := token_V hT0 ps fby
  rw [f86, f11, f10] at tv
  refine (TT.and (token_T hT0 ps) tv).mono (fun r q => ?_)
  obtain ⟨qT, qK, qY⟩ := q
  have ge := @tE_gt T n σ.1 (by rw [hc]; decide)
  have sl := @tS_le T n (tE T n σ.1)
  refine ⟨⟨hT0.keep qK.keep, qT.2.1, fun y => by rw [qK.2 95 y (Or.inl (by decide))]; exact h0.2 95 y (Or.inl (by decide))⟩, ⟨⟨qK.t.trans f86, (qK.2 85 11 (by decide)).trans f11, qK.by fby⟩, qY, fun j j1 j2 => absurd j2 (by omega), ?_, fun j hj => absurd hj (Nat.not_lt_zero _), fun e => ?_⟩⟩
  · exact (hF.same (qK.2 85 17 (by decide)) (qK.2 85 18 (by decide))).up (by show _ ≤ tS T n (tE T n σ.1); omega)
  · have e' : (fp0 T n s σ).1 = 0 := e
    obtain ⟨d1, d2, d3, d4⟩ := hD (fp0_0 e').1
    refine ⟨?_, fun y a b => ?_, ?_, ?_⟩
    · rw [qK.2 85 23 (by decide), h0.2 85 23 (by decide)]; exact d1
    · rw [qK.2 95 y (Or.inl (by decide)), h0.2 95 y (Or.inl (by decide))]; exact d2 y a b
    · rw [qK.2 85 21 (by decide), h0.2 85 21 (by decide)]; exact d3
    · rw [qK.2 85 22 (by decide), h0.2 85 22 (by decide)]; exact d4
theorem fp0_no (h : fullB (lnIx T n σ.1 s) σ.2.2.1 = false) : fp0 T n s σ = σ.2.1 := by
  unfold fp0
  rw [if_neg (by rw [h]; decide)]
theorem nt_ne {f p : Int} {fp : Int × Int} (h : fp.1 ≠ 0) : nt f p fp = fp := by unfold nt; rw [if_neg h]
/-- the count is full for the reference as for the spec -/
theorem fp0_full {c m : Int} (h : HdR M T n σ) (c0 : 0 ≤ c) (c1 : c < 161) (hm : M.1 95 c ≤ m) (hf : fullB (lnIx T n σ.1 s) σ.2.2.1 = true ↔ m ≤ σ.2.2.1 c) : (if M.1 95 c = m then nt 3 (tS T n σ.1) σ.2.1 else σ.2.1) = fp0 T n s σ := by
  unfold fp0
  by_cases z : σ.2.1.1 = 0
  · have e := (h.2.2.2 z).2.1 c c0 c1
    by_cases q : M.1 95 c = m
    · rw [if_pos q, if_pos (hf.mpr (by omega))]
    · rw [if_neg q, if_neg (fun x => q (by have := hf.mp x; omega))]
  · rw [nt_ne z]
    split <;> split <;> rfl
theorem lo_ret {X : Option (Int × Mem)} (h : TT X (LO T n s σ)) : TT (X.bind fun r => if r.1 = 0 ∨ r.1 = 1 then some (r.1, r.2) else none) (LO T n s σ) := by
  refine TT.bind h (fun r q => TT.guard ?_ (TT.ok q))
  rcases q with q | q
  · exact Or.inl q.1
  · exact Or.inr q.1
theorem lo_fails (hT : WT M) (hX : TokY T n σ.1 M) (h : tK T n σ.1 ≠ 1 ∨ lnIx T n σ.1 s = -1) : TT ((fX11_fails M 85).bind fun r => if r.1 = 0 ∨ r.1 = 1 then some (r.1, r.2) else none) (LO T n s σ) := by
  refine lo_ret ?_
  unfold fX11_fails
  exact TT.guard (wk85 hT) (TT.sM (TT.ok (Or.inl ⟨rfl, Or.inl ⟨h, hX.1⟩⟩)))
theorem LPr.put {sh th tt j v : Int} {k : Nat} {D : Int → Int} (hL : LPr T n s σ l k sh th tt D M) : LPr T n s σ l k sh th tt (up D j v) (mst M 95 j v) := by
  obtain ⟨⟨e86, e11, hby⟩, lX, lok, lF, lv, lD⟩ := hL
  refine ⟨⟨by rw [← e86]; exact funext fun y => mst_ne _ _ _ _ _ _ (by decide), e11, fun a b c => ?_⟩, lX, lok, lF, fun a b => ?_, fun e => ⟨(lD e).1, fun y y0 y1 => ?_, (lD e).2.2⟩⟩
  · show -128 ≤ (mst M 95 j v).1 86 a ∧ (mst M 95 j v).1 86 a ≤ 127
    rw [mst_ne _ _ _ _ _ _ (by decide)]; exact hby a b c
  · show (mst M 95 j v).1 96 _ = _
    rw [mst_ne _ _ _ _ _ _ (by decide)]; exact lv a b
  · show (mst M 95 j v).1 95 y = up D j v y
    rw [mst_r]
    by_cases w : y = j
    · rw [if_pos ⟨rfl, w⟩, w, up_at]
    · rw [if_neg (fun x => w x.2), up_ne w]; exact (lD e).2.1 y y0 y1
/-- only what is told changes, and stands as D' where no fault is -/
theorem LPr.told {sh th tt : Int} {k : Nat} {D D' : Int → Int} (hL : LPr T n s σ l k sh th tt D M) (f : ∀ x y, x ≠ 95 → N.1 x y = M.1 x y) (hD : (fpN T n l σ.1 (fp0 T n s σ) k).1 = 0 → ∀ y, 0 ≤ y → y < 161 → N.1 95 y = D' y) : LPr T n s σ l k sh th tt D' N := by
  obtain ⟨⟨e86, e11, hby⟩, lX, lok, lF, lv, lD⟩ := hL
  have f85 : ∀ y, N.1 85 y = M.1 85 y := fun y => f 85 y (by decide)
  refine ⟨⟨by rw [← e86]; exact funext fun y => f 86 y (by decide), (f85 11).trans e11, fun a b c => ?_⟩, ?_, lok, lF.same (f85 17) (f85 18), fun a b => ?_, fun e => ⟨by rw [f85]; exact (lD e).1, hD e, by rw [f85, f85]; exact (lD e).2.2⟩⟩
  · rw [f 86 a (by decide)]; exact hby a b (by rw [f85] at c; exact c)
  · unfold TokY at *
    rw [f85, f85, f85, f85, f85]; exact lX
  · rw [f 96 _ (by decide)]; exact lv a b
set_option maxHeartbeats 1000000 in
theorem townLine_V0 (hT : WT M) (hp : PT M) (hd : DT M) (h : HdR M T n σ) (hc : tK T n σ.1 = 1) (hl : 0 = lnIx T n σ.1 s) : TT (fX11_townLine M 85 114827921155443 (tS T n σ.1)) (LO T n s σ) := by
  unfold fX11_townLine
  have hne : (0 : Int) ≠ -1 := by decide
  refine TT.jI (TT.pos (by decide) ?_)
  have hF0 : FR (fp0 T n s σ) M (tS T n σ.1 + 1) := by
    rw [fp0_no (by rw [← hl]; rfl)]; exact h.2.2.1.up (by omega)
  refine TT.jI (TT.neg (by decide) (TT.guard (wk85 hT) (TT.bind (head_V hT hp h hc ⟨rfl, fun _ _ _ => rfl⟩ hF0 0 0) (fun r5 q5 => ?_))))
  obtain ⟨⟨hT5, hp5, e95⟩, hL5⟩ := q5
  refine TT.jI (TT.neg (by decide) (TT.neg (by decide) ?_))
  refine TT.jI (TT.neg (by decide) (TT.neg (by decide) ?_))
  refine TT.jI (TT.neg (by decide) (TT.neg (by decide) ?_))
  refine TT.neg (by decide) (TT.jI (TT.pos (by decide) ?_))
  have v0 := take_V hT5 hp5 hL5.1.2.2 (i := tP T n σ.1 (0 + 1)) (k := 0 + (0 : Nat)) (lo := 1) (hi := 6) (by rw [hL5.1.1, hL5.1.2.1]; exact hL5.2.1) (by rw [hL5.1.1, hL5.1.2.1]; exact hL5.2.2.2.1) (by decide) (by decide)
  refine TT.guard (wk85 hT5) (TT.tkv (th' := σ.2.2.2.1) (sh := 0) (k := 0) hl hc hne (by decide) hT5 hL5 (take_T hT5 hp5 (by decide) (by decide)) (v0.mono (fun r q => ⟨q.1, fun _ => q.2.1, q.2.2⟩)) (fun z => bad_no (tV_r z).1 rfl rfl (by omega)) (fun z e => e) (fun r1 hT1 hp1 hL1 q1 => ?_))
  have w0 : r1.2.1 96 0 = vv T n σ.1 0 := hL1.2.2.2.2.1 0 (by decide)
  refine TT.pos (by decide) ?_
  rw [wp85_20 hT1, wp85_19 hT1, w0]
  refine TT.guard (wk85 hT1) (TT.guard (rd_g hT1 (by decide) (by decide)) (TT.guard ⟨wk95 hT1, by decide, by rw [wl95 hT1]; decide⟩ (TT.sM (TT.ok (Or.inr ⟨rfl, hc, by rw [← hl]; exact hne, 0, ?_⟩)))))
  rw [← hl, uL_0]
  exact LPr.put hL1
set_option maxHeartbeats 1000000 in
theorem townLine_V1 (hT : WT M) (hp : PT M) (hd : DT M) (h : HdR M T n σ) (hc : tK T n σ.1 = 1) (hl : 1 = lnIx T n σ.1 s) : TT (fX11_townLine M 85 6840691 (tS T n σ.1)) (LO T n s σ) := by
  unfold fX11_townLine
  have hne : (1 : Int) ≠ -1 := by decide
  refine TT.jI (TT.neg (by decide) (TT.pos (by decide) ?_))
  have hF0 : FR (fp0 T n s σ) M (tS T n σ.1 + 1) := by
    rw [fp0_no (by rw [← hl]; rfl)]; exact h.2.2.1.up (by omega)
  refine TT.jI (TT.neg (by decide) (TT.guard (wk85 hT) (TT.bind (head_V hT hp h hc ⟨rfl, fun _ _ _ => rfl⟩ hF0 0 1) (fun r5 q5 => ?_))))
  obtain ⟨⟨hT5, hp5, e95⟩, hL5⟩ := q5
  refine TT.jI (TT.pos (by decide) (TT.jI (TT.pos (by decide) (TT.guard (wk85 hT5) (lo_ret (goodsLine_V hT5 hp5 hl hc (by decide) hL5 ⟨fun z => rfl, fun z => absurd z (by decide)⟩))))))
set_option maxHeartbeats 1000000 in
theorem townLine_V2 (hT : WT M) (hp : PT M) (hd : DT M) (h : HdR M T n σ) (hc : tK T n σ.1 = 1) (hl : 2 = lnIx T n σ.1 s) : TT (fX11_townLine M 85 474147546227 (tS T n σ.1)) (LO T n s σ) := by
  unfold fX11_townLine
  have hne : (2 : Int) ≠ -1 := by decide
  refine TT.jI (TT.neg (by decide) (TT.neg (by decide) (TT.pos (by decide) ?_)))
  have hF0 : FR (fp0 T n s σ) M (tS T n σ.1 + 1) := by
    rw [fp0_no (by rw [← hl]; rfl)]; exact h.2.2.1.up (by omega)
  refine TT.jI (TT.neg (by decide) (TT.guard (wk85 hT) (TT.bind (head_V hT hp h hc ⟨rfl, fun _ _ _ => rfl⟩ hF0 0 2) (fun r5 q5 => ?_))))
  obtain ⟨⟨hT5, hp5, e95⟩, hL5⟩ := q5
  refine TT.jI (TT.neg (by decide) (TT.pos (by decide) (TT.jI (TT.neg (by decide) (TT.guard (wk85 hT5) (lo_ret (goodsLine_V hT5 hp5 hl hc (by decide) hL5 ⟨fun z => absurd z (by decide), fun z => rfl⟩)))))))
set_option maxHeartbeats 1000000 in
theorem townLine_V3 (hT : WT M) (hp : PT M) (hd : DT M) (h : HdR M T n σ) (hc : tK T n σ.1 = 1) (hl : 3 = lnIx T n σ.1 s) : TT (fX11_townLine M 85 512736125800 (tS T n σ.1)) (LO T n s σ) := by
  unfold fX11_townLine
  have hne : (3 : Int) ≠ -1 := by decide
  refine TT.jI (TT.neg (by decide) (TT.neg (by decide) (TT.neg (by decide) (TT.pos (by decide) ?_))))
  have hF0 : FR (fp0 T n s σ) M (tS T n σ.1 + 1) := by
    rw [fp0_no (by rw [← hl]; rfl)]; exact h.2.2.1.up (by omega)
  refine TT.jI (TT.neg (by decide) (TT.guard (wk85 hT) (TT.bind (head_V hT hp h hc ⟨rfl, fun _ _ _ => rfl⟩ hF0 0 3) (fun r5 q5 => ?_))))
  obtain ⟨⟨hT5, hp5, e95⟩, hL5⟩ := q5
  refine TT.jI (TT.neg (by decide) (TT.neg (by decide) ?_))
  exact TT.jI (TT.pos (by decide) (TT.guard (wk85 hT5) (lo_ret (houseLine_V3 hT5 hp5 hl hc hL5))))
set_option maxHeartbeats 1000000 in
theorem townLine_V4 (hT : WT M) (hp : PT M) (hd : DT M) (h : HdR M T n σ) (hc : tK T n σ.1 = 1) (hl : 4 = lnIx T n σ.1 s) : TT (fX11_townLine M 85 123563851081075 (tS T n σ.1)) (LO T n s σ) := by
  unfold fX11_townLine
  have hne : (4 : Int) ≠ -1 := by decide
  refine TT.jI (TT.neg (by decide) (TT.neg (by decide) (TT.neg (by decide) (TT.neg (by decide) (TT.pos (by decide) ?_)))))
  have hF0 : FR (fp0 T n s σ) M (tS T n σ.1 + 1) := by
    rw [fp0_no (by rw [← hl]; rfl)]; exact h.2.2.1.up (by omega)
  refine TT.jI (TT.neg (by decide) (TT.guard (wk85 hT) (TT.bind (head_V hT hp h hc ⟨rfl, fun _ _ _ => rfl⟩ hF0 0 4) (fun r5 q5 => ?_))))
  obtain ⟨⟨hT5, hp5, e95⟩, hL5⟩ := q5
  refine TT.jI (TT.neg (by decide) (TT.neg (by decide) ?_))
  exact TT.jI (TT.neg (by decide) (TT.pos (by decide) (TT.guard (wk85 hT5) (lo_ret (houseLine_V4 hT5 hp5 hl hc hL5)))))
set_option maxHeartbeats 1000000 in
theorem townLine_V5 (hT : WT M) (hp : PT M) (hd : DT M) (h : HdR M T n σ) (hc : tK T n σ.1 = 1) (hl : 5 = lnIx T n σ.1 s) : TT (fX11_townLine M 85 131277443786868 (tS T n σ.1)) (LO T n s σ) := by
  unfold fX11_townLine
  have hne : (5 : Int) ≠ -1 := by decide
  refine TT.jI (TT.neg (by decide) (TT.neg (by decide) (TT.neg (by decide) (TT.neg (by decide) (TT.neg (by decide) (TT.pos (by decide) ?_))))))
  have hF0 : FR (fp0 T n s σ) M (tS T n σ.1 + 1) := by
    rw [fp0_no (by rw [← hl]; rfl)]; exact h.2.2.1.up (by omega)
  refine TT.jI (TT.neg (by decide) (TT.guard (wk85 hT) (TT.bind (head_V hT hp h hc ⟨rfl, fun _ _ _ => rfl⟩ hF0 0 5) (fun r5 q5 => ?_))))
  obtain ⟨⟨hT5, hp5, e95⟩, hL5⟩ := q5
  refine TT.jI (TT.neg (by decide) (TT.neg (by decide) ?_))
  refine TT.jI (TT.neg (by decide) (TT.neg (by decide) ?_))
  exact TT.jI (TT.pos (by decide) (TT.guard (wk85 hT5) (lo_ret (goodLine_V5 hT5 hp5 hl hc hL5))))
set_option maxHeartbeats 1000000 in
theorem townLine_V6 (hT : WT M) (hp : PT M) (hd : DT M) (h : HdR M T n σ) (hc : tK T n σ.1 = 1) (hl : 6 = lnIx T n σ.1 s) : TT (fX11_townLine M 85 512970880104 (tS T n σ.1)) (LO T n s σ) := by
  unfold fX11_townLine
  have hne : (6 : Int) ≠ -1 := by decide
  refine TT.jI (TT.neg (by decide) (TT.neg (by decide) (TT.neg (by decide) (TT.neg (by decide) (TT.neg (by decide) (TT.neg (by decide) (TT.pos (by decide) ?_)))))))
  have hF0 : FR (fp0 T n s σ) M (tS T n σ.1 + 1) := by
    rw [fp0_no (by rw [← hl]; rfl)]; exact h.2.2.1.up (by omega)
  refine TT.jI (TT.neg (by decide) (TT.guard (wk85 hT) (TT.bind (head_V hT hp h hc ⟨rfl, fun _ _ _ => rfl⟩ hF0 0 6) (fun r5 q5 => ?_))))
  obtain ⟨⟨hT5, hp5, e95⟩, hL5⟩ := q5
  refine TT.jI (TT.neg (by decide) (TT.neg (by decide) ?_))
  refine TT.jI (TT.neg (by decide) (TT.neg (by decide) ?_))
  exact TT.jI (TT.neg (by decide) (TT.pos (by decide) (TT.guard (wk85 hT5) (lo_ret (goodLine_V6 hT5 hp5 hl hc hL5)))))
set_option maxHeartbeats 1000000 in
theorem townLine_V7 (hT : WT M) (hp : PT M) (hd : DT M) (h : HdR M T n σ) (hc : tK T n σ.1 = 1) (hl : 7 = lnIx T n σ.1 s) : TT (fX11_townLine M 85 7565166 (tS T n σ.1)) (LO T n s σ) := by
  unfold fX11_townLine
  have hne : (7 : Int) ≠ -1 := by decide
  refine TT.jI (TT.neg (by decide) (TT.neg (by decide) (TT.neg (by decide) (TT.neg (by decide) (TT.neg (by decide) (TT.neg (by decide) (TT.neg (by decide) (TT.pos (by decide) ?_))))))))
  have hF0 : FR (fp0 T n s σ) M (tS T n σ.1 + 1) := by
    rw [fp0_no (by rw [← hl]; rfl)]; exact h.2.2.1.up (by omega)
  refine TT.jI (TT.neg (by decide) (TT.guard (wk85 hT) (TT.bind (head_V hT hp h hc ⟨rfl, fun _ _ _ => rfl⟩ hF0 0 7) (fun r5 q5 => ?_))))
  obtain ⟨⟨hT5, hp5, e95⟩, hL5⟩ := q5
  refine TT.jI (TT.neg (by decide) (TT.neg (by decide) ?_))
  refine TT.jI (TT.neg (by decide) (TT.neg (by decide) ?_))
  refine TT.jI (TT.neg (by decide) (TT.neg (by decide) ?_))
  exact TT.pos (by decide) (TT.guard (wk85 hT5) (lo_ret (sonLine_V hT5 hp5 hl hc hL5)))
set_option maxHeartbeats 1000000 in
theorem townLine_V8 (hT : WT M) (hp : PT M) (hd : DT M) (h : HdR M T n σ) (hc : tK T n σ.1 = 1) (hl : 8 = lnIx T n σ.1 s) : TT (fX11_townLine M 85 499967944038 (tS T n σ.1)) (LO T n s σ) := by
  unfold fX11_townLine
  have hne : (8 : Int) ≠ -1 := by decide
  refine TT.jI (TT.neg (by decide) (TT.neg (by decide) (TT.neg (by decide) (TT.neg (by decide) (TT.neg (by decide) (TT.neg (by decide) (TT.neg (by decide) (TT.neg (by decide) (TT.pos (by decide) ?_)))))))))
  refine TT.jI (TT.pos (by decide) (TT.guard (wk85 hT) (TT.bind (full_V hT (by decide) (by decide) h.2.2.1 (Int.le_refl _)) (fun r0 q0 => ?_))))
  have hF0 := q0.2
  rw [fp0_full (s := s) h (by decide) (by decide) hd.1.2 (by rw [← hl]; unfold fullB; simp)] at hF0
  have hT0 : WT r0 := hT.keep (VK.keep (M := M) ⟨q0.1.1, fun x y _ b => q0.1.2 x y (by omega)⟩)
  refine TT.guard (wk85 hT0) (TT.bind (head_V hT hp h hc q0.1 hF0 0 8) (fun r5 q5 => ?_))
  obtain ⟨⟨hT5, hp5, e95⟩, hL5⟩ := q5
  refine TT.jI (TT.neg (by decide) (TT.neg (by decide) ?_))
  refine TT.jI (TT.neg (by decide) (TT.neg (by decide) ?_))
  refine TT.jI (TT.neg (by decide) (TT.neg (by decide) ?_))
  refine TT.neg (by decide) (TT.jI (TT.neg (by decide) ?_))
  have v0 := take_V hT5 hp5 hL5.1.2.2 (i := tP T n σ.1 (0 + 1)) (k := 0 + (0 : Nat)) (lo := 1) (hi := 9) (by rw [hL5.1.1, hL5.1.2.1]; exact hL5.2.1) (by rw [hL5.1.1, hL5.1.2.1]; exact hL5.2.2.2.1) (by decide) (by decide)
  refine TT.guard (wk85 hT5) (TT.tkv (th' := σ.2.2.2.1) (sh := 0) (k := 0) hl hc hne (by decide) hT5 hL5 (take_T hT5 hp5 (by decide) (by decide)) (v0.mono (fun r q => ⟨q.1, fun _ => q.2.1, q.2.2⟩)) (fun z => bad_no (tV_r z).1 rfl rfl (by omega)) (fun z e => e) (fun r1 hT1 hp1 hL1 q1 => ?_))
  have w0 : r1.2.1 96 0 = vv T n σ.1 0 := hL1.2.2.2.2.1 0 (by decide)
  have e1 : r1.2.1 95 1 = M.1 95 1 := (q1.2.2.2.2 1).trans (e95 1)
  have h14 := hd.1
  refine TT.neg (by decide) (TT.guard (wk85 hT1) (TT.bind (keep_T hT1 (by decide) (by decide) (by decide) (by decide) (fun z => by omega)) (fun r2 q2 => TT.ok (Or.inr ⟨rfl, hc, by rw [← hl]; exact hne, 0, ?_⟩))))
  rw [← hl, uL_8]
  have fr : ∀ x y, x ≠ 95 → r2.1 x y = r1.2.1 x y := fun x y z => by
    rcases q2 with ⟨_, e⟩ | ⟨_, e, _⟩
    · rw [e]
    · exact e.2 x y z
  refine LPr.told hL1 fr (fun e => ?_)
  have hD := (hL1.2.2.2.2.2 e).2.1
  obtain ⟨g1, _, _⟩ := fpN_0 1 e
  have gf := (fp0_0 g1).2.2
  rw [← hl] at gf
  have lt4 : σ.2.2.1 1 < 4 := by
    unfold fullB at gf
    simp at gf
    omega
  have d1 := hD 1 (by decide) (by decide)
  rcases q2 with ⟨z, _⟩ | ⟨_, _, e3, e4⟩
  · omega
  · intro y y0 y1
    unfold up
    by_cases c1 : y = 1
    · rw [if_pos c1, c1, e3, d1]
    · rw [if_neg c1, e4 y c1, d1]
      by_cases c2 : y = 84 + σ.2.2.1 1
      · rw [if_pos (by omega), if_pos c2, show y - (84 + 1 * σ.2.2.1 1) = 0 by omega]; exact w0
      · rw [if_neg (by omega), if_neg c2]; exact hD y y0 y1
theorem townLine_N (hT : WT M) (h : HdR M T n σ) {w : Int} (hw : ∀ k : Nat, k < 9 → w ≠ WCL.getD k 0) (hn : tK T n σ.1 ≠ 1 ∨ lnIx T n σ.1 s = -1) : TT (fX11_townLine M 85 w (tS T n σ.1)) (LO T n s σ) := by
  unfold fX11_townLine
  have z : ∀ k : Nat, k < 9 → ¬ lcmp w (WCL.getD k 0) = 0 := fun k hk e => hw k hk (lcmp0.mp e)
  exact TT.jI (TT.neg (z 0 (by decide)) (TT.neg (z 1 (by decide)) (TT.neg (z 2 (by decide)) (TT.neg (z 3 (by decide)) (TT.neg (z 4 (by decide)) (TT.neg (z 5 (by decide)) (TT.neg (z 6 (by decide)) (TT.neg (z 7 (by decide)) (TT.neg (z 8 (by decide)) (TT.guard (wk85 hT) (lo_fails hT h.2.1 hn)))))))))))
end RefN
