/-! the class: text, feed, end -/
section TextZ
variable {M N O : Mem}
theorem cR8 : chkR 8 48 8 = true := by decide +kernel
theorem cP8 : chkP 8 2 8 = true := by decide +kernel
theorem cR27 : chkR 27 48 8 = true := by decide +kernel
theorem cP27 : chkP 27 2 8 = true := by decide +kernel
theorem cR17 : chkR 17 57 0 = true := by decide +kernel
theorem cP17 : chkP 17 3 0 = true := by decide +kernel
theorem cR36 : chkR 36 57 0 = true := by decide +kernel
theorem cP36 : chkP 36 3 0 = true := by decide +kernel
theorem cR18 : chkR 18 58 4 = true := by decide +kernel
theorem cP18 : chkP 18 1 4 = true := by decide +kernel
theorem cR37 : chkR 37 58 4 = true := by decide +kernel
theorem cP37 : chkP 37 1 4 = true := by decide +kernel
theorem cR23 : chkR 23 63 3 = true := by decide +kernel
theorem cP23 : chkP 23 1 3 = true := by decide +kernel
theorem cR42 : chkR 42 63 3 = true := by decide +kernel
theorem cP42 : chkP 42 1 3 = true := by decide +kernel
theorem p3 : (PL.all fun p => decide (p.1 ≠ 3)) = true := by decide +kernel
theorem r3 : (RGL.all fun p => decide (p.1 ≠ 3) || decide (p.2.2.2 = (0, 2))) = true := by decide +kernel
def TB (M N : Mem) : Prop := N.2 = M.2 ∧ (∀ x y, (x < 1 ∨ 45 < x) → N.1 x y = M.1 x y) ∧ N.1 1 1 = M.1 1 1
theorem OC.tb {a b f n : Int} {L : Int → Int} (q : OC M N a b f L n) (ha : 8 ≤ a) (hb : a + n ≤ 45) (n0 : 0 ≤ n) : TB M N := ⟨q.1, fun x y z => by rw [q.2, if_neg (by omega), if_neg (by omega)], by rw [q.2, if_neg (by omega), if_neg (by omega)]⟩
theorem slot_T (hT : WT M) (s a : Int) : TT (fX6_slot M 1 s a) (fun r => r = -1 ∨ ((0 ≤ s ∧ s < 4) ∧ 0 ≤ r ∧ r < 2)) := by
  unfold fX6_slot
  rw [wp1_4 hT]
  refine TT.ite (fun _ => TT.ok (Or.inl rfl)) (fun c0 => TT.ite (fun c4 => ?_) (fun _ => TT.ok (Or.inl rfl)))
  have g : M.2.1 3 = 12 ∧ (0 : Int) ≤ s ∧ s < M.2.2.1 3 := ⟨wk3 hT, by omega, by rw [wl3 hT]; exact c4⟩
  have hc := cn_ hT (i := s) (by omega) (by omega)
  refine TT.ite (fun _ => TT.guard (wk1 hT) (TT.guard g (TT.ite (fun c => TT.guard g (TT.ok (Or.inr (by omega)))) (fun _ => TT.ok (Or.inl rfl))))) (fun _ => TT.guard (wk1 hT) (TT.bind (isThere_T hT a (by omega) c4) (fun r q => TT.ite (fun _ => TT.ok (Or.inl rfl)) (fun c => TT.ok (Or.inr (by have := q.use c; omega))))))
set_option maxHeartbeats 1000000 in
theorem toldKeep_T (hT : WT M) (hd : DRF M) {s t : Int} (s0 : 0 ≤ s) (s4 : s < 4) (t0 : 0 ≤ t) (t2 : t < 2) : TT (fX6_keep M 1 47 s t) (fun r => WT r ∧ TB M r) := by
  unfold fX6_keep
  have hR := hd.rows
  refine TT.neg (by omega) (TT.pos s4 (TT.neg (by omega) (TT.pos t2 ?_)))
  refine TT.join (fun u : Mem => WT u ∧ TB M u) (fun u hu => ?_) (fun j hj => ?_)
  · obtain ⟨u1, u2, u3, u4⟩ := hu
    have hc := cn_ u1 (i := s) s0 (by omega)
    have g : u.2.1 3 = 12 ∧ (0 : Int) ≤ s ∧ s < u.2.2.1 3 := ⟨wk3 u1, s0, by rw [wl3 u1]; exact s4⟩
    rw [wp1_4 u1]
    refine TT.guard (wk1 u1) (TT.guard g (TT.guard g (TT.sM (TT.ok ⟨u1.mrow p3 r3 (by decide) ?_ ?_, u2, fun x y z => ?_, ?_⟩))))
    · unfold imax; rw [w32_of (by omega) (by omega)]; split <;> omega
    · unfold imax; rw [w32_of (by omega) (by omega)]; split <;> omega
    · rw [mst_ne _ _ _ _ _ _ (by omega)]; exact u3 x y z
    · rw [mst_ne _ _ _ _ _ _ (by decide)]; exact u4
  rw [wp1_5 hT, wp1_6 hT, wp1_7 hT, wp1_8 hT, wp47_2 hT, wp47_3 hT, wp47_4 hT, wp47_5 hT]
  have gr : ∀ a, a = 4 ∨ a = 5 ∨ a = 6 ∨ a = 7 → 14 ≤ M.2.1 a ∧ (0 : Int) ≤ t ∧ t < M.2.2.1 a := by
    intro a ha
    rcases ha with rfl | rfl | rfl | rfl
    · exact ⟨by rw [wk4 hT]; decide, t0, by rw [wl4 hT]; exact t2⟩
    · exact ⟨by rw [wk5 hT]; decide, t0, by rw [wl5 hT]; exact t2⟩
    · exact ⟨by rw [wk6 hT]; decide, t0, by rw [wl6 hT]; exact t2⟩
    · exact ⟨by rw [wk7 hT]; decide, t0, by rw [wl7 hT]; exact t2⟩
  refine TT.ite (fun _ => ?_) (fun e0 => TT.ite (fun _ => ?_) (fun e1 => TT.ite (fun _ => ?_) (fun e2 => ?_)))
  · rcases (show t = 0 ∨ t = 1 by omega) with e | e <;> subst e
    · rw [wp4_0 hT]
      exact TT.guard (wk1 hT) (TT.guard (gr 4 (by decide)) (TT.guard (wk47 hT) (TT.guard (wk8 hT) (TT.bind (townCopy_T (TownS_8 hT) (TownS_48 hT) (by decide)) (fun r q => hj r ⟨OC.wt hT hR cR8 cP8 (by decide) (by decide) q, q.tb (by decide) (by decide) (by decide)⟩)))))
    · rw [wp4_1 hT]
      exact TT.guard (wk1 hT) (TT.guard (gr 4 (by decide)) (TT.guard (wk47 hT) (TT.guard (wk27 hT) (TT.bind (townCopy_T (TownS_27 hT) (TownS_48 hT) (by decide)) (fun r q => hj r ⟨OC.wt hT hR cR27 cP27 (by decide) (by decide) q, q.tb (by decide) (by decide) (by decide)⟩)))))
  · rcases (show t = 0 ∨ t = 1 by omega) with e | e <;> subst e
    · rw [wp5_0 hT]
      exact TT.guard (wk1 hT) (TT.guard (gr 5 (by decide)) (TT.guard (wk47 hT) (TT.guard (wk17 hT) (TT.bind (lawCopy_T (wk17 hT) (wk57 hT) (by decide)) (fun r q => hj r ⟨OC.wt hT hR cR17 cP17 (by decide) (by decide) q, q.tb (by decide) (by decide) (by decide)⟩)))))
    · rw [wp5_1 hT]
      exact TT.guard (wk1 hT) (TT.guard (gr 5 (by decide)) (TT.guard (wk47 hT) (TT.guard (wk36 hT) (TT.bind (lawCopy_T (wk36 hT) (wk57 hT) (by decide)) (fun r q => hj r ⟨OC.wt hT hR cR36 cP36 (by decide) (by decide) q, q.tb (by decide) (by decide) (by decide)⟩)))))
  · rcases (show t = 0 ∨ t = 1 by omega) with e | e <;> subst e
    · rw [wp6_0 hT]
      exact TT.guard (wk1 hT) (TT.guard (gr 6 (by decide)) (TT.guard (wk47 hT) (TT.guard (wk18 hT) (TT.bind (nightCopy_T (NightS_18 hT) (NightS_58 hT) (by decide)) (fun r q => hj r ⟨OC.wt hT hR cR18 cP18 (by decide) (by decide) q, q.tb (by decide) (by decide) (by decide)⟩)))))
    · rw [wp6_1 hT]
      exact TT.guard (wk1 hT) (TT.guard (gr 6 (by decide)) (TT.guard (wk47 hT) (TT.guard (wk37 hT) (TT.bind (nightCopy_T (NightS_37 hT) (NightS_58 hT) (by decide)) (fun r q => hj r ⟨OC.wt hT hR cR37 cP37 (by decide) (by decide) q, q.tb (by decide) (by decide) (by decide)⟩)))))
  · rcases (show t = 0 ∨ t = 1 by omega) with e | e <;> subst e
    · rw [wp7_0 hT]
      exact TT.guard (wk1 hT) (TT.guard (gr 7 (by decide)) (TT.guard (wk47 hT) (TT.guard (wk23 hT) (TT.bind (sightCopy_T (SightS_23 hT) (SightS_63 hT) (by decide)) (fun r q => hj r ⟨OC.wt hT hR cR23 cP23 (by decide) (by decide) q, q.tb (by decide) (by decide) (by decide)⟩)))))
    · rw [wp7_1 hT]
      exact TT.guard (wk1 hT) (TT.guard (gr 7 (by decide)) (TT.guard (wk47 hT) (TT.guard (wk42 hT) (TT.bind (sightCopy_T (SightS_42 hT) (SightS_63 hT) (by decide)) (fun r q => hj r ⟨OC.wt hT hR cR42 cP42 (by decide) (by decide) q, q.tb (by decide) (by decide) (by decide)⟩)))))
theorem f12 : freeOf PL 1 2 = true := by decide +kernel
theorem f13 : freeOf PL 1 3 = true := by decide +kernel
theorem r12 : (RGL.all fun p => decide (p.1 ≠ 1) || decide (2 < p.2.1) || decide (p.2.2.1 < 2)) = true := by decide +kernel
theorem r13 : (RGL.all fun p => decide (p.1 ≠ 1) || decide (3 < p.2.1) || decide (p.2.2.1 < 3)) = true := by decide +kernel
theorem tl_ (h : WT M) : 0 ≤ M.1 1 1 ∧ M.1 1 1 ≤ 600 := rows_at (p := (1, 1, 1, 0, 600)) h.2.1 0 rfl (i := 1) (by decide) (by decide)
theorem WT.m11 (h : WT M) {n : Int} (h0 : 0 ≤ n) (h6 : n ≤ 600) : WT (mst M 1 1 n) := h.lenX rfl (fun x y _ z => by rw [mst_r, if_neg z]) (by rw [mst_at]; exact ⟨h0, h6⟩)
/-- what a call that tells leaves: all but the told block and scratch cells -/
def CX (M N : Mem) : Prop := N.2 = M.2 ∧ ∀ x y, scr x y = false → x ≠ 64 → x ≠ 65 → (x < 1 ∨ 45 < x) → N.1 x y = M.1 x y
set_option maxHeartbeats 1000000 in
theorem textX_T (hT : WT M) (hi : DI M) (s a : Int) : TT (fX10_text M 0 s a) (fun r => WT r.2 ∧ CX M r.2 ∧ r.2.1 1 1 = 0 ∧ DI r.2) := by
  unfold fX10_text
  rw [wp0_0 hT]
  have hl := tl_ hT
  refine TT.guard (wk0 hT) (TT.guard (wk1 hT) (TT.sM ?_))
  have h3 : WT (mst M 1 2 0) := hT.mfree 0 f12 r12 (by decide)
  rw [wp0_0 h3]
  refine TT.guard (wk1 h3) (TT.sM ?_)
  have h6 : WT (mst (mst M 1 2 0) 1 3 (-1)) := h3.mfree (-1) f13 r13 (by decide)
  rw [wp0_0 h6, show (mst (mst M 1 2 0) 1 3 (-1)).1 1 1 = M.1 1 1 from rfl]
  refine TT.guard (wk1 h6) (TT.sM ?_)
  have h9 : WT (mst (mst (mst M 1 2 0) 1 3 (-1)) 1 1 0) := h6.m11 (by decide) (by decide)
  have f9 : ∀ x y, x ≠ 1 → (mst (mst (mst M 1 2 0) 1 3 (-1)) 1 1 0).1 x y = M.1 x y := fun x y z => by rw [mst_ne _ _ _ _ _ _ z, mst_ne _ _ _ _ _ _ z, mst_ne _ _ _ _ _ _ z]
  have v9 : (mst (mst (mst M 1 2 0) 1 3 (-1)) 1 1 0).1 1 1 = 0 := rfl
  have e9 : (mst (mst (mst M 1 2 0) 1 3 (-1)) 1 1 0).2 = M.2 := rfl
  generalize mst (mst (mst M 1 2 0) 1 3 (-1)) 1 1 0 = A at *
  have hiA : DI A := ⟨fun y a b => by rw [f9 64 y (by decide)]; exact hi.1 y a b, fun y a b => by rw [f9 65 y (by decide)]; exact hi.2 y a b⟩
  have cA : CX M A := ⟨e9, fun x y _ _ _ z => f9 x y (by omega)⟩
  rw [wp0_0 h9, wp1_0 h9, wp0_2 h9]
  refine TT.guard (wk1 h9) (TT.bind (slot_T h9 s a) (fun r11 q11 => TT.ite (fun _ => TT.ok ⟨h9, cA, v9, hiA⟩) (fun hne => ?_)))
  obtain ⟨⟨s0, s4⟩, t0, t2⟩ := q11.resolve_left hne
  refine TT.guard (wk47 h9) (TT.bind (read3_T h9 hiA hl.1 hl.2 s) (fun r q => ?_))
  have hTr := q.1.wt h9
  rw [wp0_0 hTr, wp0_2 hTr]
  refine TT.guard (wk0 hTr) (TT.guard (wk47 hTr) (TT.guard (wk1 hTr) (TT.sM ?_)))
  have h21 : WT (mst r 1 2 (r.1 47 0)) := hTr.mfree _ f12 r12 (by decide)
  rw [wp0_0 h21, wp0_2 h21]
  refine TT.guard (wk47 h21) (TT.guard (wk1 h21) (TT.sM ?_))
  have h25 : WT (mst (mst r 1 2 (r.1 47 0)) 1 3 ((mst r 1 2 (r.1 47 0)).1 47 1)) := h21.mfree _ f13 r13 (by decide)
  have f25 : ∀ x y, x ≠ 1 → (mst (mst r 1 2 (r.1 47 0)) 1 3 ((mst r 1 2 (r.1 47 0)).1 47 1)).1 x y = r.1 x y := fun x y z => by rw [mst_ne _ _ _ _ _ _ z, mst_ne _ _ _ _ _ _ z]
  have v25 : (mst (mst r 1 2 (r.1 47 0)) 1 3 ((mst r 1 2 (r.1 47 0)).1 47 1)).1 1 1 = 0 := by
    show r.1 1 1 = 0
    rw [q.1.2 1 1 rfl (by decide) (by decide)]; exact v9
  have e25 : (mst (mst r 1 2 (r.1 47 0)) 1 3 ((mst r 1 2 (r.1 47 0)).1 47 1)).2 = M.2 := q.1.1.trans e9
  generalize mst (mst r 1 2 (r.1 47 0)) 1 3 ((mst r 1 2 (r.1 47 0)).1 47 1) = B at *
  have d25 : DRF B := by
    obtain ⟨d1, d2, d3, d4, d5, d6⟩ := q.2
    refine ⟨⟨by rw [f25 48 _ (by decide)]; exact d1.1, by rw [f25 48 _ (by decide)]; exact d1.2.1, fun k y k1 k8 y0 y1 => by rw [f25 _ _ (by omega)]; exact d1.2.2 k y k1 k8 y0 y1⟩, by rw [f25 57 _ (by decide), f25 57 _ (by decide)]; exact d2, by rw [f25 58 _ (by decide)]; exact d3, by rw [f25 63 _ (by decide)]; exact d4, ⟨fun y a b => by rw [f25 64 _ (by decide)]; exact d5.1 y a b, fun y a b => by rw [f25 65 _ (by decide)]; exact d5.2 y a b⟩, fun y a b => by rw [f25 66 _ (by decide)]; exact d6 y a b⟩
  have cB : CX M B := ⟨e25, fun x y z1 z2 z3 z4 => by rw [f25 x y (by omega), q.1.2 x y z1 z2 z3]; exact f9 x y (by omega)⟩
  rw [wp0_0 h25, wp0_2 h25]
  refine TT.guard (wk47 h25) (TT.ite (fun _ => TT.guard (wk1 h25) (TT.bind (toldKeep_T h25 d25 s0 s4 t0 t2) (fun z qz => TT.ok ⟨qz.1, ⟨qz.2.1.trans e25, fun x y z1 z2 z3 z4 => ?_⟩, ?_, ?_⟩))) (fun _ => TT.ok ⟨h25, cB, v25, d25.2.2.2.2.1⟩))
  · rw [qz.2.2.1 x y z4]; exact cB.2 x y z1 z2 z3 z4
  · rw [qz.2.2.2]; exact v25
  · have d := d25.2.2.2.2.1
    exact ⟨fun y a b => by rw [qz.2.2.1 64 y (by decide)]; exact d.1 y a b, fun y a b => by rw [qz.2.2.1 65 y (by decide)]; exact d.2 y a b⟩
def LC (n : Int) (M N : Mem) : Prop := N.2 = M.2 ∧ N.1 1 1 = n ∧ ∀ x y, x ≠ 2 → ¬(x = 1 ∧ y = 1) → N.1 x y = M.1 x y
theorem endX_T (hT : WT M) (n : Int) : TT (fX10_end M 0 n) (fun r => r.1 = (if 0 ≤ n ∧ n ≤ M.1 1 1 then n else -1) ∧ LC (if 0 ≤ n ∧ n ≤ M.1 1 1 then n else M.1 1 1) M r.2) := by
  unfold fX10_end
  rw [wp0_0 hT]
  refine TT.ite (fun c => TT.ok ?_) (fun c => TT.guard (wk0 hT) (TT.guard (wk1 hT) (TT.ite (fun d => TT.ok ?_) (fun d => TT.sM (TT.ok ?_)))))
  · rw [if_neg (by omega), if_neg (by omega)]; exact ⟨rfl, rfl, rfl, fun _ _ _ _ => rfl⟩
  · rw [if_neg (by omega), if_neg (by omega)]; exact ⟨rfl, rfl, rfl, fun _ _ _ _ => rfl⟩
  · rw [if_pos (by omega), if_pos (by omega)]; exact ⟨rfl, rfl, mst_at _ _ _ _, fun x y _ z => by rw [mst_r, if_neg z]⟩
theorem feedX_T (hT : WT M) (b0 b1 b2 b3 b4 : Int) : TT (fX10_feed M 0 b0 b1 b2 b3 b4) (fun r => r.1 = (if 580 < M.1 1 1 then -1 else M.1 1 1 + 20) ∧ LC (if 580 < M.1 1 1 then M.1 1 1 else M.1 1 1 + 20) M r.2) := by
  unfold fX10_feed
  have hl := tl_ hT
  rw [wp0_0 hT]
  refine TT.guard (wk0 hT) (TT.guard (wk1 hT) (TT.ite (fun c => TT.ok ?_) (fun c => ?_)))
  · rw [if_pos c, if_pos c]; exact ⟨rfl, rfl, rfl, fun _ _ _ _ => rfl⟩
  rw [if_neg c, if_neg c]
  have key : ∀ (N : Mem) (n v : Int), LC n M N → 0 ≤ n → n ≤ 596 → TT (fX6_put N 1 v) (fun r => LC (n + 4) M r) := by
    rintro N n v ⟨e1, e2, e3⟩ n0 n1
    refine (put_T (t := 2) (n := n) v (by rw [e1]; exact wk1 hT) (by rw [e3 1 0 (by decide) (fun q => absurd q.2 (by decide))]; exact wp1_0 hT) (by rw [e1]; exact wk2 hT) (by rw [e1]; exact wl2 hT) (by decide) e2 n0 n1).mono ?_
    rintro r ⟨g1, g2, g3, -⟩
    exact ⟨g1.trans e1, g2, fun x y hx hy => (g3 x y hx hy).trans (e3 x y hx hy)⟩
  have g9 : ∀ (N : Mem) (n : Int), LC n M N → N.2.1 0 = 9 := fun N n e => by rw [e.1]; exact wk0 hT
  have g6 : ∀ (N : Mem) (n : Int), LC n M N → N.1 0 0 = 1 := fun N n e => by rw [e.2.2 0 0 (by decide) (fun q => absurd q.1 (by decide)), wp0_0 hT]
  have g7 : ∀ (N : Mem) (n : Int), LC n M N → N.2.1 1 = 6 := fun N n e => by rw [e.1]; exact wk1 hT
  refine TT.bind (key M _ b0 ⟨rfl, rfl, fun _ _ _ _ => rfl⟩ hl.1 (by omega)) (fun r1 q1 => ?_)
  refine TT.guard (g9 _ _ q1) ?_
  rw [g6 _ _ q1]
  refine TT.guard (g7 _ _ q1) (TT.bind (key r1 _ b1 q1 (by omega) (by omega)) (fun r2 q2 => ?_))
  refine TT.guard (g9 _ _ q2) ?_
  rw [g6 _ _ q2]
  refine TT.guard (g7 _ _ q2) (TT.bind (key r2 _ b2 q2 (by omega) (by omega)) (fun r3 q3 => ?_))
  refine TT.guard (g9 _ _ q3) ?_
  rw [g6 _ _ q3]
  refine TT.guard (g7 _ _ q3) (TT.bind (key r3 _ b3 q3 (by omega) (by omega)) (fun r4 q4 => ?_))
  refine TT.guard (g9 _ _ q4) ?_
  rw [g6 _ _ q4]
  refine TT.guard (g7 _ _ q4) (TT.bind (key r4 _ b4 q4 (by omega) (by omega)) (fun r5 q5 => ?_))
  refine TT.guard (g9 _ _ q5) ?_
  rw [g6 _ _ q5]
  have e20 : M.1 1 1 + 4 + 4 + 4 + 4 + 4 = M.1 1 1 + 20 := by omega
  rw [e20] at q5
  exact TT.guard (g7 _ _ q5) (TT.ok ⟨q5.2.1, q5⟩)
theorem LC.wt {n : Int} (h : WT M) (q : LC n M N) (hn : 0 ≤ n ∧ n ≤ 600) : WT N := h.lenX q.1 q.2.2 (by rw [q.2.1]; exact hn)
end TextZ
