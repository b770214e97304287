/-! the class's calls from the top -/
section Cls
variable {ρ : Type} {M : Mem} {Q : ρ → Prop}
theorem cn_ (h : WT M) {i : Int} (h1 : 0 ≤ i) (h2 : i ≤ 3) : 0 ≤ M.1 3 i ∧ M.1 3 i ≤ 2 := rows_at (p := (3, 0, 3, 0, 2)) h.2.1 1 rfl h1 h2
theorem isThere_T (hT : WT M) {s : Int} (k : Int) (h0 : 0 ≤ s) (h1 : s < 4) : TT (fX6_isThere M 1 s k) (fun r => PB r (0 ≤ k ∧ k < 2 ∧ k < M.1 3 s)) := by
  unfold fX6_isThere
  rw [wp1_4 hT]
  refine TT.ite (fun _ => TT.ok PB.no) (fun _ => TT.guard (wk1 hT) (TT.guard ⟨wk3 hT, h0, by rw [wl3 hT]; omega⟩ (TT.ite (fun _ => TT.ite (fun _ => TT.ok (PB.yes (by omega))) (fun _ => TT.ok PB.no)) (fun _ => TT.ok PB.no))))
theorem townAt_T (hT : WT M) (k : Int) : TT (fX6_townAt M 1 k) (fun r => r = -1 ∨ TA r) := by
  unfold fX6_townAt
  rw [wp1_5 hT]
  refine TT.guard (wk1 hT) (TT.bind (isThere_T hT k (by decide) (by decide)) (fun r q => TT.ite (fun _ => TT.ok (Or.inl rfl)) (fun c => ?_)))
  have g := q.use c
  refine TT.guard ⟨by rw [wk4 hT]; decide, g.1, by rw [wl4 hT]; exact g.2.1⟩ (TT.ok (Or.inr ?_))
  rcases (show k = 0 ∨ k = 1 by omega) with rfl | rfl
  · exact Or.inl (wp4_0 hT)
  · exact Or.inr (wp4_1 hT)
theorem TT.btown {f : Int → Option ρ} (hT : WT M) (k : Int) (h1 : TT (f (-1)) Q) (h2 : ∀ a, TA a → ¬ a = -1 → TT (f a) Q) : TT ((fX6_townAt M 1 k).bind f) Q :=
  TT.bind (townAt_T hT k) (fun r q => q.elim (fun e => by rw [e]; exact h1) (fun e => h2 r e (by intro z; rw [z] at e; rcases e with e | e <;> cases e)))
theorem lawAt_T (hT : WT M) (k : Int) : TT (fX6_lawAt M 1 k) (fun r => r = -1 ∨ LWA r) := by
  unfold fX6_lawAt
  rw [wp1_6 hT]
  refine TT.guard (wk1 hT) (TT.bind (isThere_T hT k (by decide) (by decide)) (fun r q => TT.ite (fun _ => TT.ok (Or.inl rfl)) (fun c => ?_)))
  have g := q.use c
  refine TT.guard ⟨by rw [wk5 hT]; decide, g.1, by rw [wl5 hT]; exact g.2.1⟩ (TT.ok (Or.inr ?_))
  rcases (show k = 0 ∨ k = 1 by omega) with rfl | rfl
  · exact Or.inl (wp5_0 hT)
  · exact Or.inr (wp5_1 hT)
theorem TT.blaw {f : Int → Option ρ} (hT : WT M) (k : Int) (h1 : TT (f (-1)) Q) (h2 : ∀ a, LWA a → ¬ a = -1 → TT (f a) Q) : TT ((fX6_lawAt M 1 k).bind f) Q :=
  TT.bind (lawAt_T hT k) (fun r q => q.elim (fun e => by rw [e]; exact h1) (fun e => h2 r e (by intro z; rw [z] at e; rcases e with e | e <;> cases e)))
theorem nightsAt_T (hT : WT M) (k : Int) : TT (fX6_nightsAt M 1 k) (fun r => r = -1 ∨ NTA r) := by
  unfold fX6_nightsAt
  rw [wp1_7 hT]
  refine TT.guard (wk1 hT) (TT.bind (isThere_T hT k (by decide) (by decide)) (fun r q => TT.ite (fun _ => TT.ok (Or.inl rfl)) (fun c => ?_)))
  have g := q.use c
  refine TT.guard ⟨by rw [wk6 hT]; decide, g.1, by rw [wl6 hT]; exact g.2.1⟩ (TT.ok (Or.inr ?_))
  rcases (show k = 0 ∨ k = 1 by omega) with rfl | rfl
  · exact Or.inl (wp6_0 hT)
  · exact Or.inr (wp6_1 hT)
theorem TT.bnights {f : Int → Option ρ} (hT : WT M) (k : Int) (h1 : TT (f (-1)) Q) (h2 : ∀ a, NTA a → ¬ a = -1 → TT (f a) Q) : TT ((fX6_nightsAt M 1 k).bind f) Q :=
  TT.bind (nightsAt_T hT k) (fun r q => q.elim (fun e => by rw [e]; exact h1) (fun e => h2 r e (by intro z; rw [z] at e; rcases e with e | e <;> cases e)))
theorem sightAt_T (hT : WT M) (k : Int) : TT (fX6_sightAt M 1 k) (fun r => r = -1 ∨ SGA r) := by
  unfold fX6_sightAt
  rw [wp1_8 hT]
  refine TT.guard (wk1 hT) (TT.bind (isThere_T hT k (by decide) (by decide)) (fun r q => TT.ite (fun _ => TT.ok (Or.inl rfl)) (fun c => ?_)))
  have g := q.use c
  refine TT.guard ⟨by rw [wk7 hT]; decide, g.1, by rw [wl7 hT]; exact g.2.1⟩ (TT.ok (Or.inr ?_))
  rcases (show k = 0 ∨ k = 1 by omega) with rfl | rfl
  · exact Or.inl (wp7_0 hT)
  · exact Or.inr (wp7_1 hT)
theorem TT.bsight {f : Int → Option ρ} (hT : WT M) (k : Int) (h1 : TT (f (-1)) Q) (h2 : ∀ a, SGA a → ¬ a = -1 → TT (f a) Q) : TT ((fX6_sightAt M 1 k).bind f) Q :=
  TT.bind (sightAt_T hT k) (fun r q => q.elim (fun e => by rw [e]; exact h1) (fun e => h2 r e (by intro z; rw [z] at e; rcases e with e | e <;> cases e)))
theorem gk (h : WT M) {a : Int} (ha : SGA a) : M.2.1 a = 4 := by rcases ha with rfl | rfl <;> first | exact wk23 h | exact wk42 h
theorem gp1_ (h : WT M) {a : Int} (ha : SGA a) : M.1 a 1 = a + 1 := by rcases ha with rfl | rfl <;> first | exact wp23_1 h | exact wp42_1 h
theorem gk1_ (h : WT M) {a : Int} (ha : SGA a) : M.2.1 (a + 1) = 12 := by rcases ha with rfl | rfl <;> first | exact wk24 h | exact wk43 h
theorem gl1_ (h : WT M) {a : Int} (ha : SGA a) : M.2.2.1 (a + 1) = 8 := by rcases ha with rfl | rfl <;> first | exact wl24 h | exact wl43 h
theorem gp2_ (h : WT M) {a : Int} (ha : SGA a) : M.1 a 2 = a + 2 := by rcases ha with rfl | rfl <;> first | exact wp23_2 h | exact wp42_2 h
theorem gk2_ (h : WT M) {a : Int} (ha : SGA a) : M.2.1 (a + 2) = 12 := by rcases ha with rfl | rfl <;> first | exact wk25 h | exact wk44 h
theorem gl2_ (h : WT M) {a : Int} (ha : SGA a) : M.2.2.1 (a + 2) = 8 := by rcases ha with rfl | rfl <;> first | exact wl25 h | exact wl44 h
theorem gp3_ (h : WT M) {a : Int} (ha : SGA a) : M.1 a 3 = a + 3 := by rcases ha with rfl | rfl <;> first | exact wp23_3 h | exact wp42_3 h
theorem gk3_ (h : WT M) {a : Int} (ha : SGA a) : M.2.1 (a + 3) = 12 := by rcases ha with rfl | rfl <;> first | exact wk26 h | exact wk45 h
theorem gl3_ (h : WT M) {a : Int} (ha : SGA a) : M.2.2.1 (a + 3) = 30 := by rcases ha with rfl | rfl <;> first | exact wl26 h | exact wl45 h
theorem gd0_ (h : WT M) {a : Int} (ha : SGA a) : 0 ≤ M.1 a 0 ∧ M.1 a 0 ≤ 8 := by
  rcases ha with rfl | rfl
  · exact rows_at (p := (23, 0, 0, 0, 8)) h.2.1 28 rfl (i := 0) (by decide) (by decide)
  · exact rows_at (p := (42, 0, 0, 0, 8)) h.2.1 32 rfl (i := 0) (by decide) (by decide)
theorem gd1_ (h : WT M) {a : Int} (ha : SGA a) {i : Int} (h1 : 0 ≤ i) (h2 : i < 8) : 0 ≤ M.1 (a + 1) i ∧ M.1 (a + 1) i ≤ 5 := by
  rcases ha with rfl | rfl
  · exact rows_at (p := (24, 0, 7, 0, 5)) h.2.1 29 rfl h1 (by show i ≤ 7; omega)
  · exact rows_at (p := (43, 0, 7, 0, 5)) h.2.1 33 rfl h1 (by show i ≤ 7; omega)
theorem gd2_ (h : WT M) {a : Int} (ha : SGA a) {i : Int} (h1 : 0 ≤ i) (h2 : i < 8) : 0 ≤ M.1 (a + 2) i ∧ M.1 (a + 2) i ≤ 4 := by
  rcases ha with rfl | rfl
  · exact rows_at (p := (25, 0, 7, 0, 4)) h.2.1 30 rfl h1 (by show i ≤ 7; omega)
  · exact rows_at (p := (44, 0, 7, 0, 4)) h.2.1 34 rfl h1 (by show i ≤ 7; omega)
set_option maxHeartbeats 1000000 in
theorem faultX_T (hT_M : WT M) (x0 : Int) : TT (fX10_fault M 0 x0) (fun r => True) := by
  unfold fX10_fault
  rw [wp0_0 hT_M]
  refine TT.ite (fun c1 => ?_) (fun c1 => ?_)
  · refine TT.guard (wk0 hT_M) ?_
    refine TT.guard (wk1 hT_M) ?_
    exact TT.ok trivial
  · refine TT.ite (fun c2 => ?_) (fun c2 => ?_)
    · refine TT.guard (wk0 hT_M) ?_
      refine TT.guard (wk1 hT_M) ?_
      exact TT.ok trivial
    · exact TT.ok trivial
set_option maxHeartbeats 1000000 in
theorem countX_T (hT_M : WT M) (x0 : Int) : TT (fX10_count M 0 x0) (fun r => True) := by
  unfold fX10_count
  rw [wp0_0 hT_M]
  refine TT.ite (fun c1 => ?_) (fun c1 => ?_)
  · exact TT.ok trivial
  · refine TT.ite (fun c2 => ?_) (fun c2 => ?_)
    · refine TT.guard (wk0 hT_M) ?_
      refine TT.guard (wk1 hT_M) ?_
      refine TT.guard ⟨(by rw [wp1_4 hT_M]; exact wk3 hT_M), by omega, by rw [wp1_4 hT_M, wl3 hT_M]; omega⟩ ?_
      exact TT.ok trivial
    · exact TT.ok trivial
set_option maxHeartbeats 1000000 in
theorem lawX_T (hT_M : WT M) (x0 x1 : Int) : TT (fX10_law M 0 x0 x1) (fun r => True) := by
  unfold fX10_law
  rw [wp0_0 hT_M]
  refine TT.guard (wk0 hT_M) ?_
  refine TT.guard (wk1 hT_M) ?_
  refine TT.blaw hT_M _ ?_ (fun r2 ha_r2 hn_r2 => ?_)
  · refine TT.pos rfl ?_
    exact TT.ok trivial
  · refine TT.neg hn_r2 ?_
    refine TT.ite (fun c1 => ?_) (fun c1 => ?_)
    · refine TT.guard (lk hT_M ha_r2) ?_
      exact TT.ok trivial
    · refine TT.ite (fun c2 => ?_) (fun c2 => ?_)
      · refine TT.guard (lk hT_M ha_r2) ?_
        exact TT.ok trivial
      · refine TT.ite (fun c3 => ?_) (fun c3 => ?_)
        · exact TT.ok trivial
        · refine TT.ite (fun c4 => ?_) (fun c4 => ?_)
          · refine TT.guard (lk hT_M ha_r2) ?_
            refine TT.bind (counts_T hT_M ha_r2 _) (fun r12 h_r12 => ?_)
            exact TT.ok trivial
          · exact TT.ok trivial
set_option maxHeartbeats 1000000 in
theorem houseX_T (hT_M : WT M) (x0 x1 x2 x3 : Int) : TT (fX10_house M 0 x0 x1 x2 x3) (fun r => True) := by
  unfold fX10_house
  rw [wp0_0 hT_M]
  refine TT.guard (wk0 hT_M) ?_
  refine TT.guard (wk1 hT_M) ?_
  refine TT.btown hT_M _ ?_ (fun r2 ha_r2 hn_r2 => ?_)
  · refine TT.pos rfl ?_
    exact TT.ok trivial
  · have hd0_r2 := td0_ hT_M ha_r2
    have hd1_r2 := td1_ hT_M ha_r2
    refine TT.neg hn_r2 ?_
    refine TT.guard (tk hT_M ha_r2) ?_
    refine TT.bind (isHouse_T hT_M ha_r2 _) (fun r6 h_r6 => ?_)
    refine TT.ite (fun c1 => ?_) (fun c1 => ?_)
    · exact TT.ok trivial
    · have g_r6 := h_r6.use c1
      refine TT.bind (isGood_T _) (fun r10 h_r10 => ?_)
      refine TT.ite (fun c2 => ?_) (fun c2 => ?_)
      · exact TT.ok trivial
      · have g_r10 := h_r10.use c2
        refine TT.ite (fun c3 => ?_) (fun c3 => ?_)
        · refine TT.bind (cell_T (by omega) (by omega) (by omega) (by omega)) (fun r14 h_r14 => ?_)
          refine TT.guard ⟨(by rw [tp2_ hT_M ha_r2]; exact tk2_ hT_M ha_r2), by omega, by rw [tp2_ hT_M ha_r2, tl2_ hT_M ha_r2]; omega⟩ ?_
          exact TT.ok trivial
        · refine TT.ite (fun c4 => ?_) (fun c4 => ?_)
          · refine TT.bind (cell_T (by omega) (by omega) (by omega) (by omega)) (fun r18 h_r18 => ?_)
            refine TT.guard ⟨(by rw [tp3_ hT_M ha_r2]; exact tk3_ hT_M ha_r2), by omega, by rw [tp3_ hT_M ha_r2, tl3_ hT_M ha_r2]; omega⟩ ?_
            exact TT.ok trivial
          · refine TT.ite (fun c5 => ?_) (fun c5 => ?_)
            · refine TT.bind (spareOf_T hT_M ha_r2 _ _ (by omega) (by omega)) (fun r22 h_r22 => ?_)
              exact TT.ok trivial
            · refine TT.ite (fun c6 => ?_) (fun c6 => ?_)
              · refine TT.bind (lackOf_T hT_M ha_r2 _ _ (by omega) (by omega)) (fun r25 h_r25 => ?_)
                exact TT.ok trivial
              · exact TT.ok trivial
set_option maxHeartbeats 1000000 in
theorem prizeX_T (hT_M : WT M) (x0 x1 x2 : Int) : TT (fX10_prize M 0 x0 x1 x2) (fun r => True) := by
  unfold fX10_prize
  rw [wp0_0 hT_M]
  refine TT.guard (wk0 hT_M) ?_
  refine TT.guard (wk1 hT_M) ?_
  refine TT.btown hT_M _ ?_ (fun r2 ha_r2 hn_r2 => ?_)
  · refine TT.pos rfl ?_
    exact TT.ok trivial
  · have hd0_r2 := td0_ hT_M ha_r2
    have hd1_r2 := td1_ hT_M ha_r2
    refine TT.neg hn_r2 ?_
    refine TT.guard (tk hT_M ha_r2) ?_
    refine TT.bind (isHouse_T hT_M ha_r2 _) (fun r6 h_r6 => ?_)
    refine TT.ite (fun c1 => ?_) (fun c1 => ?_)
    · exact TT.ok trivial
    · have g_r6 := h_r6.use c1
      refine TT.bind (isHouse_T hT_M ha_r2 _) (fun r10 h_r10 => ?_)
      refine TT.ite (fun c2 => ?_) (fun c2 => ?_)
      · exact TT.ok trivial
      · have g_r10 := h_r10.use c2
        refine TT.bind (prizeOf_T hT_M ha_r2 _ _ (by omega)) (fun r13 h_r13 => ?_)
        exact TT.ok trivial
set_option maxHeartbeats 1000000 in
theorem evenX_T (hT_M : WT M) (x0 x1 : Int) : TT (fX10_even M 0 x0 x1) (fun r => True) := by
  unfold fX10_even
  rw [wp0_0 hT_M]
  refine TT.guard (wk0 hT_M) ?_
  refine TT.guard (wk1 hT_M) ?_
  refine TT.btown hT_M _ ?_ (fun r2 ha_r2 hn_r2 => ?_)
  · refine TT.pos rfl ?_
    exact TT.ok trivial
  · have hd0_r2 := td0_ hT_M ha_r2
    have hd1_r2 := td1_ hT_M ha_r2
    refine TT.neg hn_r2 ?_
    refine TT.bind (isGood_T _) (fun r6 h_r6 => ?_)
    refine TT.ite (fun c1 => ?_) (fun c1 => ?_)
    · exact TT.ok trivial
    · have g_r6 := h_r6.use c1
      refine TT.guard (tk hT_M ha_r2) ?_
      refine TT.bind (evenOut_T hT_M ha_r2 _ (by omega)) (fun r9 h_r9 => ?_)
      exact TT.ok trivial
set_option maxHeartbeats 1000000 in
theorem pairsX_T (hT_M : WT M) (x0 x1 : Int) : TT (fX10_pairs M 0 x0 x1) (fun r => True) := by
  unfold fX10_pairs
  rw [wp0_0 hT_M]
  refine TT.guard (wk0 hT_M) ?_
  refine TT.guard (wk1 hT_M) ?_
  refine TT.btown hT_M _ ?_ (fun r2 ha_r2 hn_r2 => ?_)
  · refine TT.pos rfl ?_
    exact TT.ok trivial
  · have hd0_r2 := td0_ hT_M ha_r2
    have hd1_r2 := td1_ hT_M ha_r2
    refine TT.neg hn_r2 ?_
    refine TT.ite (fun c1 => ?_) (fun c1 => ?_)
    · exact TT.ok trivial
    · refine TT.guard (tk hT_M ha_r2) ?_
      refine TT.bind (pairAt_T hT_M ha_r2 _ ) (fun r7 h_r7 => ?_)
      exact TT.ok trivial
set_option maxHeartbeats 1000000 in
theorem restX_T (hT_M : WT M) (x0 x1 : Int) : TT (fX10_rest M 0 x0 x1) (fun r => True) := by
  unfold fX10_rest
  rw [wp0_0 hT_M]
  refine TT.guard (wk0 hT_M) ?_
  refine TT.guard (wk1 hT_M) ?_
  refine TT.btown hT_M _ ?_ (fun r2 ha_r2 hn_r2 => ?_)
  · refine TT.pos rfl ?_
    exact TT.ok trivial
  · have hd0_r2 := td0_ hT_M ha_r2
    have hd1_r2 := td1_ hT_M ha_r2
    refine TT.neg hn_r2 ?_
    refine TT.ite (fun c1 => ?_) (fun c1 => ?_)
    · exact TT.ok trivial
    · refine TT.guard (tk hT_M ha_r2) ?_
      refine TT.bind (restAt_T hT_M ha_r2 _ ) (fun r7 h_r7 => ?_)
      exact TT.ok trivial
set_option maxHeartbeats 1000000 in
theorem meetsX_T (hT_M : WT M) (x0 x1 x2 : Int) : TT (fX10_meets M 0 x0 x1 x2) (fun r => True) := by
  unfold fX10_meets
  rw [wp0_0 hT_M]
  refine TT.guard (wk0 hT_M) ?_
  refine TT.guard (wk1 hT_M) ?_
  refine TT.btown hT_M _ ?_ (fun r2 ha_r2 hn_r2 => ?_)
  · refine TT.pos rfl ?_
    exact TT.ok trivial
  · have hd0_r2 := td0_ hT_M ha_r2
    have hd1_r2 := td1_ hT_M ha_r2
    refine TT.neg hn_r2 ?_
    refine TT.guard (tk hT_M ha_r2) ?_
    refine TT.bind (isHouse_T hT_M ha_r2 _) (fun r6 h_r6 => ?_)
    refine TT.ite (fun c1 => ?_) (fun c1 => ?_)
    · exact TT.ok trivial
    · have g_r6 := h_r6.use c1
      refine TT.bind (isHouse_T hT_M ha_r2 _) (fun r10 h_r10 => ?_)
      refine TT.ite (fun c2 => ?_) (fun c2 => ?_)
      · exact TT.ok trivial
      · have g_r10 := h_r10.use c2
        refine TT.bind (meeting_T hT_M ha_r2 _ _ (by omega) (by omega)) (fun r13 h_r13 => ?_)
        exact TT.ok trivial
set_option maxHeartbeats 1000000 in
theorem roundX_T (hT_M : WT M) (x0 x1 : Int) : TT (fX10_round M 0 x0 x1) (fun r => True) := by
  unfold fX10_round
  rw [wp0_0 hT_M]
  refine TT.guard (wk0 hT_M) ?_
  refine TT.guard (wk1 hT_M) ?_
  refine TT.btown hT_M _ ?_ (fun r2 ha_r2 hn_r2 => ?_)
  · refine TT.pos rfl ?_
    exact TT.ok trivial
  · have hd0_r2 := td0_ hT_M ha_r2
    have hd1_r2 := td1_ hT_M ha_r2
    refine TT.neg hn_r2 ?_
    refine TT.ite (fun c1 => ?_) (fun c1 => ?_)
    · refine TT.guard (tk hT_M ha_r2) ?_
      refine TT.bind (allHome_T hT_M ha_r2  ) (fun r7 h_r7 => ?_)
      exact TT.ok trivial
    · refine TT.guard (tk hT_M ha_r2) ?_
      refine TT.bind (isHouse_T hT_M ha_r2 _) (fun r10 h_r10 => ?_)
      refine TT.ite (fun c2 => ?_) (fun c2 => ?_)
      · exact TT.ok trivial
      · have g_r10 := h_r10.use c2
        refine TT.bind (homeAgain_T hT_M ha_r2 _ (by omega)) (fun r14 h_r14 => ?_)
        exact TT.ok trivial
set_option maxHeartbeats 1000000 in
theorem crewX_T (hT_M : WT M) (x0 x1 x2 : Int) : TT (fX10_crew M 0 x0 x1 x2) (fun r => True) := by
  unfold fX10_crew
  rw [wp0_0 hT_M]
  refine TT.guard (wk0 hT_M) ?_
  refine TT.guard (wk1 hT_M) ?_
  refine TT.btown hT_M _ ?_ (fun r2 ha_r2 hn_r2 => ?_)
  · refine TT.pos rfl ?_
    exact TT.ok trivial
  · have hd0_r2 := td0_ hT_M ha_r2
    have hd1_r2 := td1_ hT_M ha_r2
    refine TT.neg hn_r2 ?_
    refine TT.ite (fun c1 => ?_) (fun c1 => ?_)
    · exact TT.ok trivial
    · refine TT.ite (fun c2 => ?_) (fun c2 => ?_)
      · exact TT.ok trivial
      · refine TT.guard (tk hT_M ha_r2) ?_
        refine TT.bind (crewFor_T hT_M ha_r2 _ ) (fun r8 h_r8 => ?_)
        refine TT.ite (fun c3 => ?_) (fun c3 => ?_)
        · refine TT.ite (fun c4 => ?_) (fun c4 => ?_)
          · exact TT.ok trivial
          · refine TT.bind (bitCount_T _) (fun r13 h_r13 => ?_)
            exact TT.ok trivial
        · exact TT.ok trivial
set_option maxHeartbeats 1000000 in
theorem townX_T (hT_M : WT M) (x0 x1 : Int) : TT (fX10_town M 0 x0 x1) (fun r => True) := by
  unfold fX10_town
  rw [wp0_0 hT_M]
  refine TT.guard (wk0 hT_M) ?_
  refine TT.guard (wk1 hT_M) ?_
  refine TT.btown hT_M _ ?_ (fun r2 ha_r2 hn_r2 => ?_)
  · refine TT.pos rfl ?_
    exact TT.ok trivial
  · have hd0_r2 := td0_ hT_M ha_r2
    have hd1_r2 := td1_ hT_M ha_r2
    refine TT.neg hn_r2 ?_
    refine TT.ite (fun c1 => ?_) (fun c1 => ?_)
    · refine TT.guard (tk hT_M ha_r2) ?_
      exact TT.ok trivial
    · refine TT.ite (fun c2 => ?_) (fun c2 => ?_)
      · refine TT.guard (tk hT_M ha_r2) ?_
        exact TT.ok trivial
      · refine TT.ite (fun c3 => ?_) (fun c3 => ?_)
        · exact TT.ok trivial
        · refine TT.ite (fun c4 => ?_) (fun c4 => ?_)
          · try rw [w32_of (x := x1.tdiv 10) (by omega) (by omega)] at c4
            refine TT.guard (tk hT_M ha_r2) ?_
            refine TT.bind (isHouse_T hT_M ha_r2 _) (fun r12 h_r12 => ?_)
            refine TT.ite (fun c5 => ?_) (fun c5 => ?_)
            · exact TT.ok trivial
            · have g_r12 := h_r12.use c5
              refine TT.guard ⟨(by rw [tp4_ hT_M ha_r2]; exact tk4_ hT_M ha_r2), by omega, by rw [tp4_ hT_M ha_r2, tl4_ hT_M ha_r2]; omega⟩ ?_
              exact TT.ok trivial
          · try rw [w32_of (x := x1.tdiv 10) (by omega) (by omega)] at c4
            refine TT.ite (fun c6 => ?_) (fun c6 => ?_)
            · try rw [w32_of (x := x1.tdiv 10) (by omega) (by omega)] at c6
              refine TT.guard (tk hT_M ha_r2) ?_
              refine TT.bind (isHouse_T hT_M ha_r2 _) (fun r18 h_r18 => ?_)
              refine TT.ite (fun c7 => ?_) (fun c7 => ?_)
              · exact TT.ok trivial
              · have g_r18 := h_r18.use c7
                refine TT.guard ⟨(by rw [tp5_ hT_M ha_r2]; exact tk5_ hT_M ha_r2), by omega, by rw [tp5_ hT_M ha_r2, tl5_ hT_M ha_r2]; omega⟩ ?_
                exact TT.ok trivial
            · try rw [w32_of (x := x1.tdiv 10) (by omega) (by omega)] at c6
              refine TT.ite (fun c8 => ?_) (fun c8 => ?_)
              · try rw [w32_of (x := x1.tdiv 10) (by omega) (by omega)] at c8
                refine TT.bind (isGood_T _) (fun r24 h_r24 => ?_)
                refine TT.ite (fun c9 => ?_) (fun c9 => ?_)
                · exact TT.ok trivial
                · have g_r24 := h_r24.use c9
                  refine TT.guard (tk hT_M ha_r2) ?_
                  refine TT.guard ⟨(by rw [tp6_ hT_M ha_r2]; exact tk6_ hT_M ha_r2), by omega, by rw [tp6_ hT_M ha_r2, tl6_ hT_M ha_r2]; omega⟩ ?_
                  exact TT.ok trivial
              · try rw [w32_of (x := x1.tdiv 10) (by omega) (by omega)] at c8
                refine TT.ite (fun c10 => ?_) (fun c10 => ?_)
                · try rw [w32_of (x := x1.tdiv 10) (by omega) (by omega)] at c10
                  refine TT.bind (isGood_T _) (fun r30 h_r30 => ?_)
                  refine TT.ite (fun c11 => ?_) (fun c11 => ?_)
                  · exact TT.ok trivial
                  · have g_r30 := h_r30.use c11
                    refine TT.guard (tk hT_M ha_r2) ?_
                    refine TT.guard ⟨(by rw [tp7_ hT_M ha_r2]; exact tk7_ hT_M ha_r2), by omega, by rw [tp7_ hT_M ha_r2, tl7_ hT_M ha_r2]; omega⟩ ?_
                    exact TT.ok trivial
                · try rw [w32_of (x := x1.tdiv 10) (by omega) (by omega)] at c10
                  refine TT.ite (fun c12 => ?_) (fun c12 => ?_)
                  · try rw [w32_of (x := x1.tdiv 10) (by omega) (by omega)] at c12
                    refine TT.guard (tk hT_M ha_r2) ?_
                    refine TT.bind (isThief_T hT_M ha_r2 _) (fun r36 h_r36 => ?_)
                    refine TT.ite (fun c13 => ?_) (fun c13 => ?_)
                    · exact TT.ok trivial
                    · have g_r36 := h_r36.use c13
                      refine TT.guard ⟨(by rw [tp8_ hT_M ha_r2]; exact tk8_ hT_M ha_r2), by omega, by rw [tp8_ hT_M ha_r2, tl8_ hT_M ha_r2]; omega⟩ ?_
                      exact TT.ok trivial
                  · try rw [w32_of (x := x1.tdiv 10) (by omega) (by omega)] at c12
                    refine TT.ite (fun c14 => ?_) (fun c14 => ?_)
                    · try rw [w32_of (x := x1.tdiv 10) (by omega) (by omega)] at c14
                      refine TT.guard (tk hT_M ha_r2) ?_
                      refine TT.bind (isThief_T hT_M ha_r2 _) (fun r42 h_r42 => ?_)
                      refine TT.ite (fun c15 => ?_) (fun c15 => ?_)
                      · exact TT.ok trivial
                      · have g_r42 := h_r42.use c15
                        refine TT.guard ⟨(by rw [tp9_ hT_M ha_r2]; exact tk9_ hT_M ha_r2), by omega, by rw [tp9_ hT_M ha_r2, tl9_ hT_M ha_r2]; omega⟩ ?_
                        exact TT.ok trivial
                    · try rw [w32_of (x := x1.tdiv 10) (by omega) (by omega)] at c14
                      exact TT.ok trivial
set_option maxHeartbeats 1000000 in
theorem deedX_T (hT_M : WT M) (x0 x1 x2 : Int) : TT (fX10_deed M 0 x0 x1 x2) (fun r => True) := by
  unfold fX10_deed
  rw [wp0_0 hT_M]
  refine TT.guard (wk0 hT_M) ?_
  refine TT.guard (wk1 hT_M) ?_
  refine TT.bnights hT_M _ ?_ (fun r2 ha_r2 hn_r2 => ?_)
  · refine TT.pos rfl ?_
    exact TT.ok trivial
  · have hd0_r2 := nd0_ hT_M ha_r2
    refine TT.neg hn_r2 ?_
    refine TT.ite (fun c1 => ?_) (fun c1 => ?_)
    · refine TT.ite (fun c2 => ?_) (fun c2 => ?_)
      · refine TT.guard (nk hT_M ha_r2) ?_
        exact TT.ok trivial
      · exact TT.ok trivial
    · refine TT.ite (fun c3 => ?_) (fun c3 => ?_)
      · exact TT.ok trivial
      · refine TT.guard (nk hT_M ha_r2) ?_
        refine TT.ite (fun c4 => ?_) (fun c4 => ?_)
        · refine TT.ite (fun c5 => ?_) (fun c5 => ?_)
          · refine TT.guard ⟨(by rw [np1_ hT_M ha_r2]; exact nk1_ hT_M ha_r2), by omega, by rw [np1_ hT_M ha_r2, nl1_ hT_M ha_r2]; omega⟩ ?_
            exact TT.ok trivial
          · refine TT.ite (fun c6 => ?_) (fun c6 => ?_)
            · refine TT.guard ⟨(by rw [np2_ hT_M ha_r2]; exact nk2_ hT_M ha_r2), by omega, by rw [np2_ hT_M ha_r2, nl2_ hT_M ha_r2]; omega⟩ ?_
              exact TT.ok trivial
            · refine TT.ite (fun c7 => ?_) (fun c7 => ?_)
              · refine TT.guard ⟨(by rw [np3_ hT_M ha_r2]; exact nk3_ hT_M ha_r2), by omega, by rw [np3_ hT_M ha_r2, nl3_ hT_M ha_r2]; omega⟩ ?_
                exact TT.ok trivial
              · refine TT.ite (fun c8 => ?_) (fun c8 => ?_)
                · refine TT.guard ⟨(by rw [np4_ hT_M ha_r2]; exact nk4_ hT_M ha_r2), by omega, by rw [np4_ hT_M ha_r2, nl4_ hT_M ha_r2]; omega⟩ ?_
                  exact TT.ok trivial
                · exact TT.ok trivial
        · exact TT.ok trivial
set_option maxHeartbeats 1000000 in
theorem sightX_T (hT_M : WT M) (x0 x1 : Int) : TT (fX10_sight M 0 x0 x1) (fun r => True) := by
  unfold fX10_sight
  rw [wp0_0 hT_M]
  refine TT.guard (wk0 hT_M) ?_
  refine TT.guard (wk1 hT_M) ?_
  refine TT.bsight hT_M _ ?_ (fun r2 ha_r2 hn_r2 => ?_)
  · refine TT.pos rfl ?_
    exact TT.ok trivial
  · have hd0_r2 := gd0_ hT_M ha_r2
    refine TT.neg hn_r2 ?_
    refine TT.ite (fun c1 => ?_) (fun c1 => ?_)
    · refine TT.guard (gk hT_M ha_r2) ?_
      exact TT.ok trivial
    · refine TT.jI ?_
      refine TT.ite (fun c2 => ?_) (fun c2 => ?_)
      · refine TT.jI ?_
        refine TT.ite (fun c3 => ?_) (fun c3 => ?_)
        · refine TT.ite (fun c4 => ?_) (fun c4 => ?_)
          · exact TT.ok trivial
          · refine TT.ite (fun c5 => ?_) (fun c5 => ?_)
            · refine TT.guard (gk hT_M ha_r2) ?_
              refine TT.guard ⟨(by rw [gp3_ hT_M ha_r2]; exact gk3_ hT_M ha_r2), by rw [w32_of (x := x1 - 30) (by omega) (by omega)]; omega, by rw [gp3_ hT_M ha_r2, gl3_ hT_M ha_r2, w32_of (x := x1 - 30) (by omega) (by omega)]; omega⟩ ?_
              exact TT.ok trivial
            · exact TT.ok trivial
        · refine TT.guard (gk hT_M ha_r2) ?_
          refine TT.ite (fun c6 => ?_) (fun c6 => ?_)
          · try rw [w32_of (x := 20 + (M.1 r2 0)) (by omega) (by omega)] at c6
            refine TT.guard ⟨(by rw [gp2_ hT_M ha_r2]; exact gk2_ hT_M ha_r2), by rw [w32_of (x := x1 - 20) (by omega) (by omega)]; omega, by rw [gp2_ hT_M ha_r2, gl2_ hT_M ha_r2, w32_of (x := x1 - 20) (by omega) (by omega)]; omega⟩ ?_
            exact TT.ok trivial
          · try rw [w32_of (x := 20 + (M.1 r2 0)) (by omega) (by omega)] at c6
            refine TT.ite (fun c7 => ?_) (fun c7 => ?_)
            · exact TT.ok trivial
            · refine TT.ite (fun c8 => ?_) (fun c8 => ?_)
              · refine TT.guard (gk hT_M ha_r2) ?_
                refine TT.guard ⟨(by rw [gp3_ hT_M ha_r2]; exact gk3_ hT_M ha_r2), by rw [w32_of (x := x1 - 30) (by omega) (by omega)]; omega, by rw [gp3_ hT_M ha_r2, gl3_ hT_M ha_r2, w32_of (x := x1 - 30) (by omega) (by omega)]; omega⟩ ?_
                exact TT.ok trivial
              · exact TT.ok trivial
      · refine TT.guard (gk hT_M ha_r2) ?_
        refine TT.ite (fun c9 => ?_) (fun c9 => ?_)
        · try rw [w32_of (x := 10 + (M.1 r2 0)) (by omega) (by omega)] at c9
          refine TT.guard ⟨(by rw [gp1_ hT_M ha_r2]; exact gk1_ hT_M ha_r2), by rw [w32_of (x := x1 - 10) (by omega) (by omega)]; omega, by rw [gp1_ hT_M ha_r2, gl1_ hT_M ha_r2, w32_of (x := x1 - 10) (by omega) (by omega)]; omega⟩ ?_
          exact TT.ok trivial
        · try rw [w32_of (x := 10 + (M.1 r2 0)) (by omega) (by omega)] at c9
          refine TT.jI ?_
          refine TT.ite (fun c10 => ?_) (fun c10 => ?_)
          · refine TT.ite (fun c11 => ?_) (fun c11 => ?_)
            · exact TT.ok trivial
            · refine TT.ite (fun c12 => ?_) (fun c12 => ?_)
              · refine TT.guard (gk hT_M ha_r2) ?_
                refine TT.guard ⟨(by rw [gp3_ hT_M ha_r2]; exact gk3_ hT_M ha_r2), by rw [w32_of (x := x1 - 30) (by omega) (by omega)]; omega, by rw [gp3_ hT_M ha_r2, gl3_ hT_M ha_r2, w32_of (x := x1 - 30) (by omega) (by omega)]; omega⟩ ?_
                exact TT.ok trivial
              · exact TT.ok trivial
          · refine TT.guard (gk hT_M ha_r2) ?_
            refine TT.ite (fun c13 => ?_) (fun c13 => ?_)
            · try rw [w32_of (x := 20 + (M.1 r2 0)) (by omega) (by omega)] at c13
              refine TT.guard ⟨(by rw [gp2_ hT_M ha_r2]; exact gk2_ hT_M ha_r2), by rw [w32_of (x := x1 - 20) (by omega) (by omega)]; omega, by rw [gp2_ hT_M ha_r2, gl2_ hT_M ha_r2, w32_of (x := x1 - 20) (by omega) (by omega)]; omega⟩ ?_
              exact TT.ok trivial
            · try rw [w32_of (x := 20 + (M.1 r2 0)) (by omega) (by omega)] at c13
              refine TT.ite (fun c14 => ?_) (fun c14 => ?_)
              · exact TT.ok trivial
              · refine TT.ite (fun c15 => ?_) (fun c15 => ?_)
                · refine TT.guard (gk hT_M ha_r2) ?_
                  refine TT.guard ⟨(by rw [gp3_ hT_M ha_r2]; exact gk3_ hT_M ha_r2), by rw [w32_of (x := x1 - 30) (by omega) (by omega)]; omega, by rw [gp3_ hT_M ha_r2, gl3_ hT_M ha_r2, w32_of (x := x1 - 30) (by omega) (by omega)]; omega⟩ ?_
                  exact TT.ok trivial
                · exact TT.ok trivial
set_option maxHeartbeats 1000000 in
theorem firstQuit_T (hT_M : WT M) {a : Int} (ha : LWA a) (o g f : Int) (hf : 0 ≤ f ∧ f ≤ 19) : TT (fX0_firstQuit M a o g f) (fun r => True) := by
  unfold fX0_firstQuit
  refine TT.iter (fun (s : Int × Int) => 0 ≤ s.2 ∧ s.2 ≤ 61) (fun s => (61 - s.2).toNat) ?_ _ _ ⟨by (try dsimp only [w32]); omega, by (try dsimp only [w32]); omega⟩ (by unfold BIG; (try dsimp only [w32]); omega)
  rintro rec1 s2 ⟨hl_s2, hu_s2⟩ hr_rec1
  refine TT.ite (fun c1 => ?_) (fun c1 => ?_)
  · exact TT.ok trivial
  · refine TT.guard (lk hT_M ha) ?_
    refine TT.bind (counts_T hT_M ha _) (fun r4 h_r4 => ?_)
    refine TT.ite (fun c2 => ?_) (fun c2 => ?_)
    · try rw [w32_of (x := g * r4) (by omega) (by omega)] at c2
      try rw [w32_of (x := s2.1 + ((g * r4))) (by omega) (by omega)] at c2
      exact hr_rec1 _ ⟨by (try dsimp only [w32]); omega, by (try dsimp only [w32]); omega⟩ (by (try dsimp only [w32]); omega)
    · try rw [w32_of (x := g * r4) (by omega) (by omega)] at c2
      try rw [w32_of (x := s2.1 + ((g * r4))) (by omega) (by omega)] at c2
      exact TT.ok trivial
set_option maxHeartbeats 1000000 in
theorem fewestGifts_T (hT_M : WT M) {a : Int} (ha : LWA a) (o g f u : Int) (hf : 0 ≤ f ∧ f ≤ 19) (hu : u ≤ 60) : TT (fX0_fewestGifts M a o g f u) (fun r => True) := by
  unfold fX0_fewestGifts
  refine TT.ite (fun c1 => ?_) (fun c1 => ?_)
  · exact TT.ok trivial
  · refine TT.iter (fun (s : Int × Int × Int) => 0 ≤ s.2.2 ∧ s.2.2 ≤ 61) (fun s => (61 - s.2.2).toNat) ?_ _ _ ⟨by (try dsimp only [w32]); omega, by (try dsimp only [w32]); omega⟩ (by unfold BIG; (try dsimp only [w32]); omega)
    rintro rec2 s3 ⟨hl_s3, hu_s3⟩ hr_rec2
    refine TT.ite (fun c2 => ?_) (fun c2 => ?_)
    · refine TT.ite (fun c3 => ?_) (fun c3 => ?_)
      · try rw [w32_of (x := o + 1) (by omega) (by omega)] at c3
        try rw [w32_of (x := ((o + 1)).tdiv 2) (by omega) (by omega)] at c3
        try rw [w32_of (x := 2 * (imin s3.1 ((((o + 1)).tdiv 2)))) (by omega) (by omega)] at c3
        try rw [w32_of (x := o - ((2 * (imin s3.1 ((((o + 1)).tdiv 2)))))) (by omega) (by omega)] at c3
        exact TT.ok trivial
      · try rw [w32_of (x := o + 1) (by omega) (by omega)] at c3
        try rw [w32_of (x := ((o + 1)).tdiv 2) (by omega) (by omega)] at c3
        try rw [w32_of (x := 2 * (imin s3.1 ((((o + 1)).tdiv 2)))) (by omega) (by omega)] at c3
        try rw [w32_of (x := o - ((2 * (imin s3.1 ((((o + 1)).tdiv 2)))))) (by omega) (by omega)] at c3
        exact TT.ok trivial
    · refine TT.guard (lk hT_M ha) ?_
      refine TT.bind (counts_T hT_M ha _) (fun r6 h_r6 => ?_)
      refine TT.ite (fun c4 => ?_) (fun c4 => ?_)
      · exact hr_rec2 _ ⟨by (try dsimp only [w32]); omega, by (try dsimp only [w32]); omega⟩ (by (try dsimp only [w32]); omega)
      · exact hr_rec2 _ ⟨by (try dsimp only [w32]); omega, by (try dsimp only [w32]); omega⟩ (by (try dsimp only [w32]); omega)
set_option maxHeartbeats 1000000 in
theorem quitX_T (hT_M : WT M) (x0 x1 x2 x3 x4 : Int) : TT (fX10_quit M 0 x0 x1 x2 x3 x4) (fun r => True) := by
  unfold fX10_quit
  rw [wp0_0 hT_M]
  refine TT.guard (wk0 hT_M) ?_
  refine TT.guard (wk1 hT_M) ?_
  refine TT.blaw hT_M _ ?_ (fun r2 ha_r2 hn_r2 => ?_)
  · refine TT.pos rfl ?_
    exact TT.ok trivial
  · refine TT.neg hn_r2 ?_
    refine TT.ite (fun c1 => ?_) (fun c1 => ?_)
    · exact TT.ok trivial
    · refine TT.ite (fun c2 => ?_) (fun c2 => ?_)
      · exact TT.ok trivial
      · refine TT.ite (fun c3 => ?_) (fun c3 => ?_)
        · exact TT.ok trivial
        · refine TT.ite (fun c4 => ?_) (fun c4 => ?_)
          · exact TT.ok trivial
          · refine TT.ite (fun c5 => ?_) (fun c5 => ?_)
            · exact TT.ok trivial
            · refine TT.ite (fun c6 => ?_) (fun c6 => ?_)
              · refine TT.ite (fun c7 => ?_) (fun c7 => ?_)
                · exact TT.ok trivial
                · refine TT.ite (fun c8 => ?_) (fun c8 => ?_)
                  · exact TT.ok trivial
                  · refine TT.ite (fun c9 => ?_) (fun c9 => ?_)
                    · refine TT.guard (lk hT_M ha_r2) ?_
                      refine TT.bind (firstQuit_T hT_M ha_r2 _ _ _ (by omega)) (fun r15 h_r15 => ?_)
                      exact TT.ok trivial
                    · refine TT.guard (lk hT_M ha_r2) ?_
                      refine TT.bind (fewestGifts_T hT_M ha_r2 _ _ _ _ (by omega) (by omega)) (fun r18 h_r18 => ?_)
                      exact TT.ok trivial
              · exact TT.ok trivial
set_option maxHeartbeats 1000000 in
theorem isTold_T (hT_M : WT M) {a b : Int} (ha : SGA a) (hb : TA b) (g : Int) (hg : 0 ≤ g ∧ g < 5) : TT (fX4_isTold M a b g) (fun r => True) := by
  unfold fX4_isTold
  have hh0 := td0_ hT_M hb
  refine TT.iter (fun (s : Int) => 0 ≤ s ∧ s ≤ 6) (fun s => (6 - s).toNat) ?_ _ _ ⟨by (try dsimp only [w32]); omega, by (try dsimp only [w32]); omega⟩ (by unfold BIG; (try dsimp only [w32]); omega)
  rintro rec1 s2 ⟨hl_s2, hu_s2⟩ hr_rec1
  refine TT.guard (tk hT_M hb) ?_
  refine TT.ite (fun c1 => ?_) (fun c1 => ?_)
  · refine TT.guard (gk hT_M ha) ?_
    refine TT.bind (cell_T (by omega) (by omega) (by omega) (by omega)) (fun r6 h_r6 => ?_)
    refine TT.guard ⟨(by rw [gp3_ hT_M ha]; exact gk3_ hT_M ha), by omega, by rw [gp3_ hT_M ha, gl3_ hT_M ha]; omega⟩ ?_
    refine TT.ite (fun c2 => ?_) (fun c2 => ?_)
    · exact TT.ok trivial
    · exact hr_rec1 _ ⟨by (try dsimp only [w32]); omega, by (try dsimp only [w32]); omega⟩ (by (try dsimp only [w32]); omega)
  · exact TT.ok trivial
set_option maxHeartbeats 1000000 in
theorem movedOf_T (hT_M : WT M) {a b : Int} (ha : SGA a) (hb : TA b) (g u : Int) (hg : 0 ≤ g ∧ g < 5) : TT (fX4_movedOf M a b g u) (fun r => True) := by
  unfold fX4_movedOf
  have hh0 := td0_ hT_M hb
  refine TT.iter (fun (s : Int × Int × Int × Int) => 0 ≤ s.2.2.2 ∧ s.2.2.2 ≤ 6) (fun s => (6 - s.2.2.2).toNat) ?_ _ _ ⟨by (try dsimp only [w32]); omega, by (try dsimp only [w32]); omega⟩ (by unfold BIG; (try dsimp only [w32]); omega)
  rintro rec1 s2 ⟨hl_s2, hu_s2⟩ hr_rec1
  refine TT.guard (tk hT_M hb) ?_
  refine TT.ite (fun c1 => ?_) (fun c1 => ?_)
  · refine TT.bind (cell_T (by omega) (by omega) (by omega) (by omega)) (fun r5 h_r5 => ?_)
    refine TT.guard ⟨(by rw [tp2_ hT_M hb]; exact tk2_ hT_M hb), by omega, by rw [tp2_ hT_M hb, tl2_ hT_M hb]; omega⟩ ?_
    refine TT.guard (gk hT_M ha) ?_
    refine TT.bind (cell_T (by omega) (by omega) (by omega) (by omega)) (fun r9 h_r9 => ?_)
    refine TT.guard ⟨(by rw [gp3_ hT_M ha]; exact gk3_ hT_M ha), by omega, by rw [gp3_ hT_M ha, gl3_ hT_M ha]; omega⟩ ?_
    exact hr_rec1 _ ⟨by (try dsimp only [w32]); omega, by (try dsimp only [w32]); omega⟩ (by (try dsimp only [w32]); omega)
  · refine TT.ite (fun c2 => ?_) (fun c2 => ?_)
    · refine TT.ite (fun c3 => ?_) (fun c3 => ?_)
      · exact TT.ok trivial
      · exact TT.ok trivial
    · exact TT.ok trivial
set_option maxHeartbeats 1000000 in
theorem movedFrom_T (hT_M : WT M) {a b : Int} (ha : SGA a) (hb : TA b) (u : Int) : TT (fX4_movedFrom M a b u) (fun r => True) := by
  unfold fX4_movedFrom
  refine TT.iter (fun (s : Int × Int) => 0 ≤ s.2 ∧ s.2 ≤ 5) (fun s => (5 - s.2).toNat) ?_ _ _ ⟨by (try dsimp only [w32]); omega, by (try dsimp only [w32]); omega⟩ (by unfold BIG; (try dsimp only [w32]); omega)
  rintro rec1 s2 ⟨hl_s2, hu_s2⟩ hr_rec1
  refine TT.ite (fun c1 => ?_) (fun c1 => ?_)
  · refine TT.guard (gk hT_M ha) ?_
    refine TT.bind (isTold_T hT_M ha hb _ (by omega)) (fun r4 h_r4 => ?_)
    refine TT.ite (fun c2 => ?_) (fun c2 => ?_)
    · exact hr_rec1 _ ⟨by (try dsimp only [w32]); omega, by (try dsimp only [w32]); omega⟩ (by (try dsimp only [w32]); omega)
    · refine TT.bind (movedOf_T hT_M ha hb _ _ (by omega)) (fun r8 h_r8 => ?_)
      refine TT.ite (fun c3 => ?_) (fun c3 => ?_)
      · exact TT.ok trivial
      · exact hr_rec1 _ ⟨by (try dsimp only [w32]); omega, by (try dsimp only [w32]); omega⟩ (by (try dsimp only [w32]); omega)
  · exact TT.ok trivial
set_option maxHeartbeats 1000000 in
theorem movedX_T (hT_M : WT M) (x0 x1 x2 : Int) : TT (fX10_moved M 0 x0 x1 x2) (fun r => True) := by
  unfold fX10_moved
  rw [wp0_0 hT_M]
  refine TT.guard (wk0 hT_M) ?_
  refine TT.guard (wk1 hT_M) ?_
  refine TT.btown hT_M _ ?_ (fun r2 ha_r2 hn_r2 => ?_)
  · refine TT.bsight hT_M _ ?_ (fun r5 ha_r5 hn_r5 => ?_)
    · refine TT.pos rfl ?_
      exact TT.ok trivial
    · have hd0_r5 := gd0_ hT_M ha_r5
      refine TT.pos rfl ?_
      exact TT.ok trivial
  · have hd0_r2 := td0_ hT_M ha_r2
    have hd1_r2 := td1_ hT_M ha_r2
    refine TT.bsight hT_M _ ?_ (fun r5 ha_r5 hn_r5 => ?_)
    · refine TT.neg hn_r2 ?_
      refine TT.pos rfl ?_
      exact TT.ok trivial
    · have hd0_r5 := gd0_ hT_M ha_r5
      refine TT.neg hn_r2 ?_
      refine TT.neg hn_r5 ?_
      refine TT.guard (gk hT_M ha_r5) ?_
      refine TT.bind (movedFrom_T hT_M ha_r5 ha_r2 _ ) (fun r9 h_r9 => ?_)
      exact TT.ok trivial
set_option maxHeartbeats 1000000 in
theorem shareX_T (hT_M : WT M) (x0 x1 x2 : Int) : TT (fX10_share M 0 x0 x1 x2) (fun r => True) := by
  unfold fX10_share
  rw [wp0_0 hT_M]
  refine TT.guard (wk0 hT_M) ?_
  refine TT.guard (wk1 hT_M) ?_
  refine TT.btown hT_M _ ?_ (fun r2 ha_r2 hn_r2 => ?_)
  · refine TT.pos rfl ?_
    exact TT.ok trivial
  · have hd0_r2 := td0_ hT_M ha_r2
    have hd1_r2 := td1_ hT_M ha_r2
    refine TT.neg hn_r2 ?_
    refine TT.guard (tk hT_M ha_r2) ?_
    refine TT.bind (isHouse_T hT_M ha_r2 _) (fun r6 h_r6 => ?_)
    refine TT.ite (fun c1 => ?_) (fun c1 => ?_)
    · exact TT.ok trivial
    · have g_r6 := h_r6.use c1
      refine TT.iter (fun (s : Int × Int) => 0 ≤ s.2 ∧ s.2 ≤ 6) (fun s => (6 - s.2).toNat) ?_ _ _ ⟨by (try dsimp only [w32]); omega, by (try dsimp only [w32]); omega⟩ (by unfold BIG; (try dsimp only [w32]); omega)
      rintro rec10 s11 ⟨hl_s11, hu_s11⟩ hr_rec10
      refine TT.ite (fun c2 => ?_) (fun c2 => ?_)
      · refine TT.bind (worthIn_T hT_M ha_r2 (by rw [tp2_ hT_M ha_r2]; exact tk2_ hT_M ha_r2) (by rw [tp2_ hT_M ha_r2]; exact tl2_ hT_M ha_r2) _ (by omega) (by omega)) (fun r13 h_r13 => ?_)
        exact hr_rec10 _ ⟨by (try dsimp only [w32]); omega, by (try dsimp only [w32]); omega⟩ (by (try dsimp only [w32]); omega)
      · refine TT.bind (worthIn_T hT_M ha_r2 (by rw [tp2_ hT_M ha_r2]; exact tk2_ hT_M ha_r2) (by rw [tp2_ hT_M ha_r2]; exact tl2_ hT_M ha_r2) _ (by omega) (by omega)) (fun r15 h_r15 => ?_)
        refine TT.bind (lt_T _ _ _) (fun r17 h_r17 => ?_)
        exact TT.ok trivial
theorem walkTo_T (hT : WT M) (t l n k : Int) : TT (fX10_walkTo M 0 t l n k) (fun r => B01 r.1 ∧ Keep M r.2 ∧ (r.1 ≠ 0 → TA (r.2.1 68 0) ∧ LWA (r.2.1 68 1) ∧ 0 ≤ r.2.1 68 15 ∧ r.2.1 68 15 ≤ 40)) := by
  unfold fX10_walkTo
  rw [wp0_0 hT, wp0_3 hT]
  refine TT.guard (wk0 hT) (TT.guard (wk1 hT) (TT.bind (townAt_T hT t) (fun r2 h2 => TT.bind (lawAt_T hT l) (fun r5 h5 => TT.bind (nightsAt_T hT n) (fun r7 h7 => ?_)))))
  have no : TT (some ((0 : Int), M)) (fun r => B01 r.1 ∧ Keep M r.2 ∧ (r.1 ≠ 0 → TA (r.2.1 68 0) ∧ LWA (r.2.1 68 1) ∧ 0 ≤ r.2.1 68 15 ∧ r.2.1 68 15 ≤ 40)) := TT.ok ⟨Or.inl rfl, Keep.self, fun h => absurd rfl h⟩
  refine TT.ite (fun _ => no) (fun n2 => TT.ite (fun _ => no) (fun n5 => TT.ite (fun _ => no) (fun n7 => ?_)))
  have h2' := h2.resolve_left n2
  have h5' := h5.resolve_left n5
  have h7' := h7.resolve_left n7
  refine TT.guard (wk68 hT) (TT.bind (begin_T hT h2' h5') (fun r12 q => ?_))
  have hT12 := hT.keep q.1
  rw [wp0_3 hT12]
  refine TT.guard (wk0 hT12) (TT.guard (wk68 hT12) (TT.bind (follow_T hT12 (by rw [q.2.1]; exact h2') (by rw [q.2.2.1]; exact h5') h7' k q.2.2.2) (fun r16 g => TT.ok ⟨Or.inr rfl, q.1.trans g.1.1, fun _ => ⟨?_, ?_, g.2⟩⟩)))
  · show TA (r16.1 68 0)
    rw [g.1.2.1, q.2.1]; exact h2'
  · show LWA (r16.1 68 1)
    rw [g.1.2.2, q.2.2.1]; exact h5'
theorem walkJust_T (hT : WT M) (t l n k : Int) : TT (fX10_walkJust M 0 t l n k) (fun r => B01 r.1 ∧ Keep M r.2 ∧ (r.1 ≠ 0 → TA (r.2.1 68 0) ∧ LWA (r.2.1 68 1) ∧ 0 ≤ r.2.1 68 15 ∧ r.2.1 68 15 ≤ 40)) := by
  unfold fX10_walkJust
  have no : ∀ N : Mem, Keep M N → TT (some ((0 : Int), N)) (fun r => B01 r.1 ∧ Keep M r.2 ∧ (r.1 ≠ 0 → TA (r.2.1 68 0) ∧ LWA (r.2.1 68 1) ∧ 0 ≤ r.2.1 68 15 ∧ r.2.1 68 15 ≤ 40)) := fun N hN => TT.ok ⟨Or.inl rfl, hN, fun h => absurd rfl h⟩
  refine TT.ite (fun _ => no M Keep.self) (fun _ => TT.ite (fun _ => no M Keep.self) (fun _ => TT.guard (wk0 hT) (TT.bind (walkTo_T hT t l n k) (fun r q => TT.ite (fun _ => no _ q.2.1) (fun c => ?_)))))
  have hTr := hT.keep q.2.1
  rw [wp0_3 hTr]
  exact TT.guard (wk0 hTr) (TT.guard (wk68 hTr) (TT.ite (fun _ => TT.ok ⟨Or.inr rfl, q.2.1, fun _ => q.2.2 c⟩) (fun _ => no _ q.2.1)))
theorem stopX_T (hT : WT M) (t l n : Int) : TT (fX10_stop M 0 t l n) (fun r => Keep M r.2) := by
  unfold fX10_stop
  refine TT.guard (wk0 hT) (TT.bind (walkTo_T hT t l n 40) (fun r q => TT.ite (fun _ => TT.ok q.2.1) (fun c => ?_)))
  have hTr := hT.keep q.2.1
  rw [wp0_3 hTr]
  exact TT.guard (wk0 hTr) (TT.guard (wk68 hTr) (TT.ok q.2.1))
theorem stateX_T (hT : WT M) (t l n k x : Int) : TT (fX10_state M 0 t l n k x) (fun r => Keep M r.2) := by
  unfold fX10_state
  refine TT.guard (wk0 hT) (TT.bind (walkJust_T hT t l n k) (fun r q => TT.ite (fun _ => TT.ok q.2.1) (fun c => ?_)))
  have hTr := hT.keep q.2.1
  obtain ⟨hA, hL, -⟩ := q.2.2 c
  rw [wp0_3 hTr]
  have seen : TT (if r.2.2.1 0 = 9 then (fX8_seen r.2 68 x).bind fun r11 => some (r11, r.2) else none) (fun r => Keep M r.2) := TT.guard (wk0 hTr) (TT.bind (seen_T hTr hA hL x) (fun _ _ => TT.ok q.2.1))
  refine TT.ite (fun _ => TT.guard (wk0 hTr) (TT.guard (wk68 hTr) (TT.ok q.2.1))) (fun _ => TT.jI (TT.ite (fun _ => seen) (fun _ => TT.ite (fun _ => TT.guard (wk0 hTr) (TT.bind (queued_T hTr hA hL _) (fun _ _ => TT.ok q.2.1))) (fun _ => seen))))
theorem wealthX_T (hT : WT M) (t l n k x : Int) : TT (fX10_wealth M 0 t l n k x) (fun r => Keep M r.2) := by
  unfold fX10_wealth
  refine TT.guard (wk0 hT) (TT.bind (walkJust_T hT t l n k) (fun r q => TT.ite (fun _ => TT.ok q.2.1) (fun c => ?_)))
  have hTr := hT.keep q.2.1
  obtain ⟨hA, hL, -⟩ := q.2.2 c
  rw [wp0_3 hTr]
  exact TT.guard (wk0 hTr) (TT.bind (rich_T hTr hA hL x) (fun _ _ => TT.ok q.2.1))
set_option maxHeartbeats 1000000 in
theorem choices_T (x n : Int) (hn : n ≤ 8) : TT (fX4_choices M x n) (fun r => True) := by
  unfold fX4_choices
  refine TT.iter (fun (s : Int × Int) => 1 ≤ s.2 ∧ s.2 ≤ 9) (fun s => (9 - s.2).toNat) ?_ _ _ ⟨by (try dsimp only [w32]); omega, by (try dsimp only [w32]); omega⟩ (by unfold BIG; (try dsimp only [w32]); omega)
  rintro rec1 s2 ⟨hl_s2, hu_s2⟩ hr_rec1
  refine TT.ite (fun c1 => ?_) (fun c1 => ?_)
  · exact TT.ok trivial
  · refine TT.guard (by first | omega | (simp only [w32]; omega)) ?_
    exact hr_rec1 _ ⟨by (try dsimp only [w32]); omega, by (try dsimp only [w32]); omega⟩ (by (try dsimp only [w32]); omega)
theorem imin_le (x y : Int) : imin x y ≤ x ∧ imin x y ≤ y := by unfold imin; split <;> omega
theorem waysOf_T (hT : WT M) {at' : Int} (ha0 : 0 ≤ at') (ha1 : at' < 30) : ∀ (fu : Nat) (t k : Int), 0 ≤ t → t ≤ 4 → 5 - t ≤ fu → k ≤ 8 → TT (fX4_waysOf fu M 68 at' t k) (fun r => True)
  | 0, t, k, h0, h1, h2, h3 => by exfalso; omega
  | fu + 1, t, k, h0, h1, h2, h3 => by
    unfold fX4_waysOf
    refine TT.ite (fun c => ?_) (fun _ => TT.ite (fun _ => TT.ok trivial) (fun _ => TT.ok trivial))
    rw [wp68_5 hT, w32_of (x := 30 * t) (by omega) (by omega), w32_of (x := 30 * t + at') (by omega) (by omega)]
    refine TT.guard (wk68 hT) (TT.guard ⟨wk72 hT, by omega, by rw [wl72 hT]; omega⟩ (TT.iter (fun (s : Int × Int) => 0 ≤ s.2 ∧ s.2 ≤ 9) (fun s => (9 - s.2).toNat) ?_ _ _ ⟨by dsimp only; omega, by dsimp only; omega⟩ (by unfold BIG; dsimp only; omega)))
    rintro rec s ⟨hl, hu⟩ hr
    refine TT.ite (fun _ => TT.ok trivial) (fun c2 => ?_)
    have hi := imin_le k (M.1 72 (30 * t + at'))
    refine TT.bind (choices_T _ _ (by omega)) (fun r7 _ => ?_)
    rw [w32_of (x := t + 1) (by omega) (by omega), w32_of (x := k - s.2) (by omega) (by omega)]
    refine TT.bind (waysOf_T hT ha0 ha1 fu (t + 1) (k - s.2) (by omega) (by omega) (by omega) (by omega)) (fun r9 _ => ?_)
    exact hr _ ⟨by dsimp only [w32]; omega, by dsimp only [w32]; omega⟩ (by dsimp only [w32]; omega)
set_option maxHeartbeats 1000000 in
theorem alike_T (hT_M : WT M) {a : Int} (ha : SGA a) (i x y : Int) (hi : 0 ≤ i ∧ i < 8) (hx : 0 ≤ x ∧ x ≤ 8) (hy : y ≤ 8) : TT (fX4_alike M a i x y) (fun r => 0 ≤ r ∧ r ≤ 8) := by
  unfold fX4_alike
  refine TT.iter (fun (s : Int × Int) => (0 ≤ s.2 ∧ s.2 ≤ 8) ∧ 0 ≤ s.1 ∧ s.1 ≤ s.2) (fun s => (8 - s.2).toNat) ?_ _ _ (by (try dsimp only [w32]); omega) (by unfold BIG; (try dsimp only [w32]); omega)
  rintro rec1 s2 ⟨⟨hl1, hu1⟩, hl2, hu2⟩ hr_rec1
  refine TT.ite (fun c1 => ?_) (fun c1 => ?_)
  · refine TT.guard (gk hT_M ha) ?_
    refine TT.guard ⟨(by rw [gp1_ hT_M ha]; exact gk1_ hT_M ha), by omega, by rw [gp1_ hT_M ha, gl1_ hT_M ha]; omega⟩ ?_
    refine TT.guard ⟨(by rw [gp1_ hT_M ha]; exact gk1_ hT_M ha), by omega, by rw [gp1_ hT_M ha, gl1_ hT_M ha]; omega⟩ ?_
    refine TT.ite (fun c2 => ?_) (fun c2 => ?_)
    · refine TT.guard ⟨(by rw [gp2_ hT_M ha]; exact gk2_ hT_M ha), by omega, by rw [gp2_ hT_M ha, gl2_ hT_M ha]; omega⟩ ?_
      refine TT.guard ⟨(by rw [gp2_ hT_M ha]; exact gk2_ hT_M ha), by omega, by rw [gp2_ hT_M ha, gl2_ hT_M ha]; omega⟩ ?_
      refine TT.ite (fun c3 => ?_) (fun c3 => ?_)
      · exact hr_rec1 _ (by (try dsimp only [w32]); omega) (by (try dsimp only [w32]); omega)
      · exact hr_rec1 _ (by (try dsimp only [w32]); omega) (by (try dsimp only [w32]); omega)
    · exact hr_rec1 _ (by (try dsimp only [w32]); omega) (by (try dsimp only [w32]); omega)
  · exact TT.ok (by omega)
set_option maxHeartbeats 1000000 in
theorem ways_T (hT_M : WT M) {a : Int} (ha : SGA a) : TT (fX4_ways M a 68) (fun r => True) := by
  unfold fX4_ways
  have hd := gd0_ hT_M ha
  refine TT.iter (fun (s : Int × Int) => 0 ≤ s.2 ∧ s.2 ≤ 8) (fun s => (8 - s.2).toNat) ?_ _ _ ⟨by (try dsimp only [w32]); omega, by (try dsimp only [w32]); omega⟩ (by unfold BIG; (try dsimp only [w32]); omega)
  rintro rec1 s2 ⟨hl_s2, hu_s2⟩ hr_rec1
  have hg1 : ∀ i, 0 ≤ i → i < 8 → 0 ≤ M.1 (M.1 a 1) i ∧ M.1 (M.1 a 1) i ≤ 5 := fun i h1 h2 => by rw [gp1_ hT_M ha]; exact gd1_ hT_M ha h1 h2
  have hg2 : ∀ i, 0 ≤ i → i < 8 → 0 ≤ M.1 (M.1 a 2) i ∧ M.1 (M.1 a 2) i ≤ 4 := fun i h1 h2 => by rw [gp2_ hT_M ha]; exact gd2_ hT_M ha h1 h2
  refine TT.guard (gk hT_M ha) ?_
  refine TT.ite (fun c1 => ?_) (fun c1 => ?_)
  · refine TT.bind (alike_T hT_M ha _ _ _ (by omega) (by omega) (by omega)) (fun r5 h_r5 => ?_)
    refine TT.ite (fun c2 => ?_) (fun c2 => ?_)
    · refine TT.guard ⟨(by rw [gp1_ hT_M ha]; exact gk1_ hT_M ha), by omega, by rw [gp1_ hT_M ha, gl1_ hT_M ha]; omega⟩ ?_
      refine TT.guard ⟨(by rw [gp2_ hT_M ha]; exact gk2_ hT_M ha), by omega, by rw [gp2_ hT_M ha, gl2_ hT_M ha]; omega⟩ ?_
      refine TT.bind (cell_T (hg1 _ (by omega) (by omega)).1 (by have := (hg1 _ (by omega) (by omega) : 0 ≤ M.1 (M.1 a 1) s2.2 ∧ _); omega) (hg2 _ (by omega) (by omega)).1 (by have := (hg2 _ (by omega) (by omega) : 0 ≤ M.1 (M.1 a 2) s2.2 ∧ _); omega)) (fun r10 h_r10 => ?_)
      refine TT.bind (alike_T hT_M ha _ _ _ (by omega) (by omega) (by omega)) (fun r12 h_r12 => ?_)
      refine TT.bind (waysOf_T hT_M (by omega) (by omega) 20 0 _ (by decide) (by decide) (by decide) (by omega)) (fun r14 h_r14 => ?_)
      exact hr_rec1 _ ⟨by (try dsimp only [w32]); omega, by (try dsimp only [w32]); omega⟩ (by (try dsimp only [w32]); omega)
    · exact hr_rec1 _ ⟨by (try dsimp only [w32]); omega, by (try dsimp only [w32]); omega⟩ (by (try dsimp only [w32]); omega)
  · exact TT.ok trivial
theorem mayBe_T (hT : WT M) {a : Int} (ha : SGA a) (i : Int) (h0 : 0 ≤ i) (h1 : i < 8) : TT (fX4_mayBe M a 68 i) (fun r => True) := by
  unfold fX4_mayBe
  refine TT.guard (gk hT ha) (TT.bind (ways_T hT ha) (fun r1 _ => TT.ite (fun _ => TT.ok trivial) (fun _ => ?_)))
  have g1 := gd1_ hT ha h0 h1
  have g2 := gd2_ hT ha h0 h1
  rw [gp1_ hT ha, gp2_ hT ha, wp68_5 hT]
  refine TT.iter (fun (s : Int × Int) => 0 ≤ s.2 ∧ s.2 ≤ 4) (fun s => (4 - s.2).toNat) ?_ _ _ ⟨by dsimp only; omega, by dsimp only; omega⟩ (by unfold BIG; dsimp only; omega)
  rintro rec s ⟨hl, hu⟩ hr
  refine TT.ite (fun c => ?_) (fun _ => TT.ok trivial)
  refine TT.guard (wk68 hT) (TT.guard ⟨gk1_ hT ha, h0, by rw [gl1_ hT ha]; exact h1⟩ (TT.guard ⟨gk2_ hT ha, h0, by rw [gl2_ hT ha]; exact h1⟩ (TT.bind (cell3_T (by omega) (by omega) (by omega) (by omega) (by omega) (by omega)) (fun r11 q => TT.guard ⟨wk72 hT, by omega, by rw [wl72 hT]; omega⟩ ?_))))
  exact TT.ite (fun _ => hr _ ⟨by dsimp only [w32]; omega, by dsimp only [w32]; omega⟩ (by dsimp only [w32]; omega)) (fun _ => hr _ ⟨by dsimp only [w32]; omega, by dsimp only [w32]; omega⟩ (by dsimp only [w32]; omega))
theorem handsX_T (hT : WT M) (t l n s i : Int) : TT (fX10_hands M 0 t l n s i) (fun r => Keep M r.2) := by
  unfold fX10_hands
  rw [wp0_0 hT]
  refine TT.guard (wk0 hT) (TT.guard (wk1 hT) (TT.bsight hT _ (TT.pos rfl (TT.ok Keep.self)) (fun a ha hn => TT.neg hn (TT.ite (fun _ => TT.ok Keep.self) (fun c1 => TT.guard (gk hT ha) (TT.ite (fun c2 => ?_) (fun _ => TT.ok Keep.self)))))))
  have hd := gd0_ hT ha
  refine TT.bind (walkTo_T hT t l n 40) (fun r q => TT.ite (fun _ => TT.ok q.2.1) (fun c => ?_))
  have hTr := hT.keep q.2.1
  rw [wp0_3 hTr]
  exact TT.ite (fun _ => TT.guard (wk0 hTr) (TT.guard (gk hTr ha) (TT.bind (ways_T hTr ha) (fun _ _ => TT.ok q.2.1)))) (fun c3 => TT.guard (wk0 hTr) (TT.guard (gk hTr ha) (TT.bind (mayBe_T hTr ha i (by omega) (by omega)) (fun _ _ => TT.ok q.2.1))))
theorem goodsX_T (hT : WT M) (t l n k x y z : Int) : TT (fX10_goods M 0 t l n k x y z) (fun r => Keep M r.2) := by
  unfold fX10_goods
  refine TT.bind (isGood_T z) (fun r1 h1 => TT.ite (fun _ => TT.ok Keep.self) (fun c1 => TT.guard (wk0 hT) (TT.bind (walkJust_T hT t l n k) (fun r q => TT.ite (fun _ => TT.ok q.2.1) (fun c => ?_)))))
  have gz := h1.use c1
  have hTr := hT.keep q.2.1
  obtain ⟨hA, hL, -⟩ := q.2.2 c
  rw [wp0_3 hTr, wp68_2 hTr, wp68_3 hTr, wp68_4 hTr]
  refine TT.guard (wk0 hTr) (TT.guard (wk68 hTr) (TT.guard (tk hTr hA) (TT.bind (isThief_T hTr hA x) (fun r10 h10 => TT.bind (isHouse_T hTr hA y) (fun r13 h13 => ?_)))))
  refine TT.ite (fun _ => TT.ite (fun _ => TT.ok q.2.1) (fun c13 => ?_)) (fun _ => TT.ite (fun _ => TT.ite (fun _ => TT.ok q.2.1) (fun c10 => ?_)) (fun _ => TT.ite (fun _ => TT.ok q.2.1) (fun c10 => TT.ite (fun _ => TT.ok q.2.1) (fun c13 => ?_))))
  · have g := h13.use c13
    exact TT.bind (cell_T (by omega) (by omega) (by omega) (by omega)) (fun r17 e => TT.guard ⟨wk69 hTr, by omega, by rw [wl69 hTr]; omega⟩ (TT.ok q.2.1))
  · have g := h10.use c10
    rw [w32_of (x := 5 * x) (by omega) (by omega), w32_of (x := 5 * x + z) (by omega) (by omega)]
    exact TT.guard ⟨wk70 hTr, by omega, by rw [wl70 hTr]; omega⟩ (TT.ok q.2.1)
  · have g := h10.use c10
    have g' := h13.use c13
    exact TT.bind (cell3_T (by omega) (by omega) (by omega) (by omega) (by omega) (by omega)) (fun r17 e => TT.guard ⟨wk71 hTr, by omega, by rw [wl71 hTr]; omega⟩ (TT.ok q.2.1))
theorem drawnX_T (hT : WT M) (t l sd n x : Int) : TT (fX10_drawn M 0 t l sd n x) (fun r => Keep M r.2) := by
  unfold fX10_drawn
  rw [wp0_0 hT, wp0_3 hT]
  refine TT.guard (wk0 hT) (TT.guard (wk1 hT) (TT.bind (townAt_T hT t) (fun r2 h2 => TT.bind (lawAt_T hT l) (fun r5 h5 => TT.ite (fun _ => TT.ok Keep.self) (fun n2 => TT.ite (fun _ => TT.ok Keep.self) (fun n5 => TT.ite (fun _ => TT.ok Keep.self) (fun c3 => TT.ite (fun _ => TT.ok Keep.self) (fun c4 => ?_))))))))
  have h2' := h2.resolve_left n2
  have h5' := h5.resolve_left n5
  refine TT.guard (wk68 hT) (TT.bind (begin_T hT h2' h5') (fun r11 q => ?_))
  have hT11 := hT.keep q.1
  have hA11 : TA (r11.1 68 0) := by rw [q.2.1]; exact h2'
  have hL11 : LWA (r11.1 68 1) := by rw [q.2.2.1]; exact h5'
  rw [wp0_3 hT11]
  refine TT.guard (wk0 hT11) (TT.guard (wk68 hT11) (TT.bind (drawNights_T hT11 hA11 hL11 sd n (by omega)) (fun r15 g => ?_)))
  have hK := q.1.trans g.1
  have hTr := hT.keep hK
  have hA : TA (r15.1 68 0) := by rw [g.2.1]; exact hA11
  have hL : LWA (r15.1 68 1) := by rw [g.2.2.1]; exact hL11
  have hd := td0_ hTr h2'
  rw [wp0_3 hTr, wp68_2 hTr]
  have seen : TT (if r15.2.1 0 = 9 then (fX8_seen r15 68 x).bind fun r21 => some (r21, r15) else none) (fun r => Keep M r.2) := TT.guard (wk0 hTr) (TT.bind (seen_T hTr hA hL x) (fun _ _ => TT.ok hK))
  refine TT.jI (TT.ite (fun _ => seen) (fun c => TT.guard (tk hTr h2') ?_))
  rw [w32_of (x := 5 * r15.1 r2 0) (by omega) (by omega), w32_of (x := 70 + 5 * r15.1 r2 0) (by omega) (by omega)]
  refine TT.ite (fun c6 => ?_) (fun _ => seen)
  rw [w32_of (x := x - 70) (by omega) (by omega)]
  exact TT.guard (wk0 hTr) (TT.guard (wk68 hTr) (TT.guard ⟨wk69 hTr, by omega, by rw [wl69 hTr]; omega⟩ (TT.ok hK)))
theorem dv5 {y : Int} (h0 : 0 ≤ y) (h1 : y < 30) : (0 ≤ w32 (y.tdiv 5) ∧ w32 (y.tdiv 5) < 6) ∧ (0 ≤ y.tmod 5 ∧ y.tmod 5 < 5) := by
  rw [Int.tdiv_eq_ediv_of_nonneg h0, Int.tmod_eq_emod_of_nonneg h0, w32_of (by omega) (by omega)]; omega
theorem isAsked_T (hT : WT M) {a : Int} (ha : TA a) (x : Int) : TT (fX5_isAsked M a x) (fun r => PB r (x < 10 ∨ x < 10 + 5 * M.1 a 0)) := by
  unfold fX5_isAsked
  have hd := td0_ hT ha
  rw [w32_of (x := 5 * M.1 a 0) (by omega) (by omega), w32_of (x := 10 + 5 * M.1 a 0) (by omega) (by omega)]
  have k2 : TT (if x < 10 then (some 0) else (if M.2.1 a = 7 then if x < 10 + 5 * M.1 a 0 then (some 1) else (some 0) else none)) (fun r => PB r (x < 10 ∨ x < 10 + 5 * M.1 a 0)) := TT.ite (fun _ => TT.ok PB.no) (fun _ => TT.guard (tk hT ha) (TT.ite (fun c => TT.ok (PB.yes (Or.inr c))) (fun _ => TT.ok PB.no)))
  exact TT.jI (TT.ite (fun _ => k2) (fun _ => TT.ite (fun _ => k2) (fun c => TT.ok (PB.yes (Or.inl (by omega))))))
set_option maxHeartbeats 1000000 in
theorem answer_T (hT_M : WT M) {a : Int} (ha : TA a) (x : Int) (hq : (0 ≤ w32 ((w32 (x - 10)).tdiv 5) ∧ w32 ((w32 (x - 10)).tdiv 5) < 6) ∧ (0 ≤ (w32 (x - 10)).tmod 5 ∧ (w32 (x - 10)).tmod 5 < 5) ∨ x < 10) : TT (fX5_answer M a x) (fun r => True) := by
  unfold fX5_answer
  have hh0 := td0_ hT_M ha
  replace hq := fun c : ¬ x < 10 => hq.resolve_right c
  refine TT.ite (fun c1 => ?_) (fun c1 => ?_)
  · refine TT.iter (fun (s : Int × Int × Int) => 0 ≤ s.2.2 ∧ s.2.2 ≤ 6) (fun s => (6 - s.2.2).toNat) ?_ _ _ ⟨by (try dsimp only [w32]); omega, by (try dsimp only [w32]); omega⟩ (by unfold BIG; (try dsimp only [w32]); omega)
    rintro rec2 s3 ⟨hl_s3, hu_s3⟩ hr_rec2
    refine TT.guard (tk hT_M ha) ?_
    refine TT.ite (fun c2 => ?_) (fun c2 => ?_)
    · refine TT.iter (fun (s : Int × Int × Int) => 0 ≤ s.2.2 ∧ s.2.2 ≤ 5) (fun s => (5 - s.2.2).toNat) ?_ _ _ ⟨by (try dsimp only [w32]); omega, by (try dsimp only [w32]); omega⟩ (by unfold BIG; (try dsimp only [w32]); omega)
      rintro rec6 s7 ⟨hl_s7, hu_s7⟩ hr_rec6
      refine TT.ite (fun c3 => ?_) (fun c3 => ?_)
      · refine TT.bind (takenFrom_T hT_M ha _ _ (by omega) (by omega)) (fun r9 h_r9 => ?_)
        refine TT.guard ⟨(by rw [tp4_ hT_M ha]; exact tk4_ hT_M ha), by omega, by rw [tp4_ hT_M ha, tl4_ hT_M ha]; omega⟩ ?_
        exact hr_rec6 _ ⟨by (try dsimp only [w32]); omega, by (try dsimp only [w32]); omega⟩ (by (try dsimp only [w32]); omega)
      · exact hr_rec2 _ ⟨by (try dsimp only [w32]); omega, by (try dsimp only [w32]); omega⟩ (by (try dsimp only [w32]); omega)
    · refine TT.ite (fun c4 => ?_) (fun c4 => ?_)
      · exact TT.ok trivial
      · refine TT.ite (fun c5 => ?_) (fun c5 => ?_)
        · exact TT.ok trivial
        · refine TT.bind (limitAll_T hT_M ha  ) (fun r14 h_r14 => ?_)
          refine TT.bind (nightsFor_T _ _) (fun r16 h_r16 => ?_)
          exact TT.ok trivial
  · refine TT.bind (takenFrom_T hT_M ha _ _ (hq c1).1 (hq c1).2) (fun r18 h_r18 => ?_)
    exact TT.ok trivial
theorem aidX_T (hT : WT M) (t x : Int) : TT (fX10_aid M 0 t x) (fun r => True) := by
  unfold fX10_aid
  rw [wp0_0 hT]
  refine TT.guard (wk0 hT) (TT.guard (wk1 hT) (TT.btown hT _ (TT.pos rfl (TT.ok trivial)) (fun a ha hn => TT.neg hn (TT.bind (isAsked_T hT ha x) (fun r6 h6 => TT.ite (fun _ => TT.ok trivial) (fun c => TT.bind (isEnough_T hT ha) (fun r9 _ => TT.ite (fun _ => TT.ok trivial) (fun _ => ?_))))))))
  have hd := td0_ hT ha
  have g := h6.use c
  refine TT.bind (answer_T hT ha x ?_) (fun _ _ => TT.ok trivial)
  by_cases e : x < 10
  · exact Or.inr e
  · left
    rw [w32_of (x := x - 10) (by omega) (by omega)]
    exact dv5 (by omega) (by omega)
/-! the porter -/
theorem keepBetter_T (hT : WT M) (v : Int) : TT (fX2_keepBetter M 82 v) (fun r => Keep M r ∧ r.1 82 3 = M.1 82 3 ∧ r.1 82 4 = M.1 82 4) := by
  unfold fX2_keepBetter
  refine TT.guard (wk82 hT) (TT.ite (fun _ => TT.sM ?_) (fun _ => TT.ok ⟨Keep.self, rfl, rfl⟩))
  have hK : Keep M (mst M 82 1 v) := Keep.self.st rfl
  have hT2 := hT.keep hK
  have e3 : (mst M 82 1 v).1 82 3 = M.1 82 3 := mst_nf _ _ _ _ _ _ (by decide)
  have e4 : (mst M 82 1 v).1 82 4 = M.1 82 4 := mst_nf _ _ _ _ _ _ (by decide)
  generalize mst M 82 1 v = N at *
  rw [wp82_2 hT2, wp82_0 hT2]
  refine TT.bind (cpRow_T (n := 5) (wk84 hT2) (wl84 hT2) (wk83 hT2) (wl83 hT2) (by decide)) (fun r q => TT.ok ⟨hK.trans (Keep.of q.1 q.2.1 (fun _ => rfl)), ?_, ?_⟩)
  · rw [q.2.1 82 3 (by decide), e3]
  · rw [q.2.1 82 4 (by decide), e4]
theorem pick_T : ∀ (fu : Nat) (M : Mem) (g n v x : Int), WT M → TA (M.1 82 3) → 0 ≤ M.1 82 4 ∧ M.1 82 4 < 6 → 0 ≤ g → g ≤ 5 → 6 - g ≤ fu → TT (fX2_pick fu M 82 g n v x) (fun r => Keep M r ∧ r.1 82 3 = M.1 82 3 ∧ r.1 82 4 = M.1 82 4)
  | 0, M, g, n, v, x, hT, hA, hH, h0, h1, h2 => by exfalso; omega
  | fu + 1, M, g, n, v, x, hT, hA, hH, h0, h1, h2 => by
    unfold fX2_pick
    refine TT.ite (fun c => ?_) (fun _ => TT.guard (wk82 hT) (TT.bind (keepBetter_T hT x) (fun r q => TT.ok q)))
    refine TT.guard (wk82 hT) (TT.guard (tk hT hA) (TT.bind (cell_T (by omega) (by omega) (by omega) (by omega)) (fun r4 q4 => ?_)))
    have hm := td2_ hT hA (i := r4) (by omega) (by omega)
    rw [tp2_ hT hA]
    have hi := imin_le n (M.1 (M.1 82 3 + 1) r4)
    refine TT.guard ⟨tk2_ hT hA, by omega, by rw [tl2_ hT hA]; omega⟩ (TT.iter (fun (s : Int × Mem) => s.1 ≤ 9 ∧ Keep M s.2 ∧ s.2.1 82 3 = M.1 82 3 ∧ s.2.1 82 4 = M.1 82 4) (fun s => (s.1 + 1).toNat) ?_ _ _ ⟨by dsimp only; omega, Keep.self, rfl, rfl⟩ (by unfold BIG; dsimp only; omega))
    rintro rec s ⟨hl, hK, e3, e4⟩ hr
    have hTs := hT.keep hK
    have hAs : TA (s.2.1 82 3) := by rw [e3]; exact hA
    refine TT.ite (fun _ => TT.ok ⟨hK, e3, e4⟩) (fun c1 => ?_)
    rw [tp6_ hTs hAs, wp82_2 hTs]
    refine TT.guard (wk82 hTs) (TT.guard (tk hTs hAs) (TT.guard ⟨tk6_ hTs hAs, by omega, by rw [tl6_ hTs hAs]; omega⟩ (TT.ite (fun _ => ?_) (fun _ => ?_))))
    · exact hr _ ⟨by dsimp only [w32]; omega, hK, e3, e4⟩ (by dsimp only [w32]; omega)
    · refine TT.guard ⟨wk84 hTs, by omega, by rw [wl84 hTs]; omega⟩ (TT.sM ?_)
      have hK5 : Keep M (mst s.2 84 g s.1) := hK.st rfl
      have f3 : (mst s.2 84 g s.1).1 82 3 = M.1 82 3 := by rw [mst_ne _ _ _ _ _ _ (by decide), e3]
      have f4 : (mst s.2 84 g s.1).1 82 4 = M.1 82 4 := by rw [mst_ne _ _ _ _ _ _ (by decide), e4]
      generalize mst s.2 84 g s.1 = N at *
      have hT5 := hT.keep hK5
      have hA5 : TA (N.1 82 3) := by rw [f3]; exact hA
      rw [tp7_ hT5 hA5]
      refine TT.guard (tk hT5 hA5) (TT.guard ⟨tk7_ hT5 hA5, by omega, by rw [tl7_ hT5 hA5]; omega⟩ ?_)
      rw [w32_of (x := g + 1) (by omega) (by omega)]
      refine TT.bind (pick_T fu N (g + 1) _ _ _ hT5 hA5 (by rw [f4]; exact hH) (by omega) (by omega) (by omega)) (fun r19 q => ?_)
      exact hr _ ⟨by dsimp only [w32]; omega, hK5.trans q.1, q.2.1.trans f3, q.2.2.trans f4⟩ (by dsimp only [w32]; omega)
theorem choose_T (hT : WT M) {a : Int} (ha : TA a) (h n v : Int) (h0 : 0 ≤ h) (h1 : h < 6) : TT (fX2_choose M 82 a h n v) (fun r => Keep M r) := by
  unfold fX2_choose
  refine TT.guard (wk82 hT) (TT.guard (by rcases ha with rfl | rfl <;> decide) (TT.sM (TT.sM (TT.sM ?_))))
  have hK : Keep M (mst (mst (mst M 82 3 a) 82 4 h) 82 1 (-1)) := ((Keep.self.st rfl).st rfl).st rfl
  have e3 : (mst (mst (mst M 82 3 a) 82 4 h) 82 1 (-1)).1 82 3 = a := by rw [mst_nf _ _ _ _ _ _ (by decide), mst_nf _ _ _ _ _ _ (by decide), mst_at]
  have e4 : (mst (mst (mst M 82 3 a) 82 4 h) 82 1 (-1)).1 82 4 = h := by rw [mst_nf _ _ _ _ _ _ (by decide), mst_at]
  generalize mst (mst (mst M 82 3 a) 82 4 h) 82 1 (-1) = N at *
  have hTN := hT.keep hK
  rw [wp82_0 hTN]
  refine TT.bind (fillRow_T (n := 5) 0 (wk83 hTN) (wl83 hTN) (by decide) (by decide)) (fun r9 q => ?_)
  have hK9 : Keep M r9 := hK.trans (Keep.of q.1 q.2.1 (fun _ => rfl))
  have hT9 := hT.keep hK9
  rw [wp82_2 hT9]
  refine TT.guard (wk82 hT9) (TT.bind (fillRow_T (n := 5) 0 (wk84 hT9) (wl84 hT9) (by decide) (by decide)) (fun r12 p => ?_))
  have hK12 : Keep M r12 := hK9.trans (Keep.of p.1 p.2.1 (fun _ => rfl))
  have hT12 := hT.keep hK12
  have f3 : r12.1 82 3 = a := by rw [p.2.1 82 3 (by decide), q.2.1 82 3 (by decide), e3]
  have f4 : r12.1 82 4 = h := by rw [p.2.1 82 4 (by decide), q.2.1 82 4 (by decide), e4]
  exact TT.bind (pick_T 20 r12 0 n v 0 hT12 (by rw [f3]; exact ha) (by rw [f4]; exact ⟨h0, h1⟩) (by decide) (by decide) (by decide)) (fun r14 z => TT.ok (hK12.trans z.1))
theorem haulX_T (hT : WT M) (t h n v x : Int) : TT (fX10_haul M 0 t h n v x) (fun r => Keep M r.2) := by
  unfold fX10_haul
  rw [wp0_0 hT, wp0_5 hT]
  refine TT.guard (wk0 hT) (TT.guard (wk1 hT) (TT.btown hT _ (TT.pos rfl (TT.ok Keep.self)) (fun a ha hn => TT.neg hn (TT.guard (tk hT ha) (TT.bind (isHouse_T hT ha h) (fun r6 h6 => TT.ite (fun _ => TT.ok Keep.self) (fun c => TT.ite (fun _ => TT.ok Keep.self) (fun _ => TT.ite (fun _ => TT.ok Keep.self) (fun _ => TT.ite (fun _ => TT.ok Keep.self) (fun _ => TT.ite (fun _ => TT.ok Keep.self) (fun _ => ?_)))))))))))
  have g := h6.use c
  refine TT.join (fun _ => x = 0 ∨ (10 ≤ x ∧ x < 15)) (fun _ hx => ?_) (fun j hj => TT.ite (fun e => hj () (Or.inl e)) (fun _ => TT.ite (fun _ => TT.ok Keep.self) (fun _ => TT.ite (fun _ => hj () (Or.inr (by omega))) (fun _ => TT.ok Keep.self))))
  refine TT.guard (wk82 hT) (TT.bind (choose_T hT ha h n v g.1 g.2.1) (fun r q => ?_))
  have hTr := hT.keep q
  rw [wp0_5 hTr, wp82_0 hTr]
  refine TT.ite (fun _ => TT.guard (wk0 hTr) (TT.guard (wk82 hTr) (TT.ok q))) (fun c0 => TT.guard (wk0 hTr) (TT.guard (wk82 hTr) ?_))
  have hx2 := hx.resolve_left c0
  rw [w32_of (x := x - 10) (by omega) (by omega)]
  exact TT.guard ⟨wk83 hTr, by omega, by rw [wl83 hTr]; omega⟩ (TT.ok q)
/-! carrying: the two rows change places -/
def CD (c d : Int) : Prop := (c = 80 ∧ d = 81) ∨ (c = 81 ∧ d = 80)
def SC (M : Mem) : Prop := CD (M.1 79 0) (M.1 79 1)
theorem CD.k {c d : Int} (h : CD c d) (hT : WT M) : (M.2.1 c = 12 ∧ M.2.2.1 c = 109 ∧ (∀ y, scr c y = true) ∧ c ≠ 79 ∧ -1 ≤ c) ∧ (M.2.1 d = 12 ∧ M.2.2.1 d = 109 ∧ (∀ y, scr d y = true) ∧ d ≠ 79 ∧ -1 ≤ d) := by
  rcases h with ⟨rfl, rfl⟩ | ⟨rfl, rfl⟩
  · exact ⟨⟨wk80 hT, wl80 hT, fun _ => rfl, by decide, by decide⟩, wk81 hT, wl81 hT, fun _ => rfl, by decide, by decide⟩
  · exact ⟨⟨wk81 hT, wl81 hT, fun _ => rfl, by decide, by decide⟩, wk80 hT, wl80 hT, fun _ => rfl, by decide, by decide⟩
theorem CD.sw {c d : Int} (h : CD c d) : CD d c := by
  rcases h with ⟨rfl, rfl⟩ | ⟨rfl, rfl⟩
  · exact Or.inr ⟨rfl, rfl⟩
  · exact Or.inl ⟨rfl, rfl⟩
theorem leastOf_T (hT : WT M) (hS : SC M) (x y : Int) (hx : x ≤ 200) : TT (fX5_leastOf M 79 x y) (fun r => True) := by
  unfold fX5_leastOf
  have hk := (CD.k hS hT).1
  have hm : -54 ≤ imax x (-54) ∧ imax x (-54) ≤ 200 := by unfold imax; split <;> omega
  refine TT.iter (fun (s : Int × Int) => -54 ≤ s.2 ∧ s.2 ≤ 200) (fun s => (200 - s.2).toNat) ?_ _ _ hm (by unfold BIG; dsimp only; omega)
  rintro rec s ⟨hl, hu⟩ hr
  refine TT.ite (fun _ => TT.ok trivial) (fun _ => TT.ite (fun _ => TT.ok trivial) (fun c => ?_))
  rw [w32_of (x := 54 + s.2) (by omega) (by omega)]
  refine TT.guard (wk79 hT) (TT.guard ⟨hk.1, by omega, by rw [hk.2.1]; omega⟩ ?_)
  exact hr _ ⟨by dsimp only [w32]; omega, by dsimp only [w32]; omega⟩ (by dsimp only [w32]; omega)
def KeepC (M N : Mem) : Prop := N.2 = M.2 ∧ ∀ x y, scr x y = false → x ≠ 79 → N.1 x y = M.1 x y
theorem KeepC.self {M : Mem} : KeepC M M := ⟨Eq.refl _, fun _ _ _ _ => Eq.refl _⟩
theorem Keep.c {M N : Mem} (h : Keep M N) : KeepC M N := ⟨h.1, fun x y q _ => h.2 x y q⟩
theorem KeepC.trans {M N O : Mem} (h : KeepC M N) (g : KeepC N O) : KeepC M O := ⟨g.1.trans h.1, fun x y q z => (g.2 x y q z).trans (h.2 x y q z)⟩
theorem KeepC.st {M N : Mem} (h : KeepC M N) {a i v : Int} (hs : scr a i = true) : KeepC M (mst N a i v) := ⟨h.1, fun x y q z => by
  rw [mst_r, if_neg, h.2 x y q z]
  rintro ⟨e1, e2⟩
  rw [e1, e2, hs] at q
  cases q⟩
theorem KeepC.st79 {M N : Mem} (h : KeepC M N) {i v : Int} : KeepC M (mst N 79 i v) := ⟨h.1, fun x y q z => by
  rw [mst_ne _ _ _ _ _ _ z, h.2 x y q z]⟩
theorem KeepC.of {M N : Mem} {b : Int} (h1 : N.2 = M.2) (h2 : ∀ x y, x ≠ b → N.1 x y = M.1 x y) (h3 : ∀ y, scr b y = true) : KeepC M N := (Keep.of h1 h2 h3).c
theorem PL_79 : (PL.all fun p => decide (p.1 ≠ 79)) = true := by decide +kernel
theorem WT.keepC {M N : Mem} (h : WT M) (k : KeepC M N) : WT N := by
  have e : Keep M (fun x y => if x = 79 then M.1 79 y else N.1 x y, N.2) := ⟨k.1, fun x y q => by
    show (if x = 79 then M.1 79 y else N.1 x y) = _
    by_cases z : x = 79
    · rw [if_pos z, z]
    · rw [if_neg z]; exact k.2 x y q z⟩
  obtain ⟨⟨g1, g2⟩, g3, g4, g5⟩ := h.keep e
  refine ⟨⟨g1, ?_⟩, ?_, ?_, ?_⟩
  · unfold hold at *
    rw [List.all_eq_true] at *
    intro p hp
    have a := g2 p hp
    have b := List.all_eq_true.mp PL_79 p hp
    simp only [decide_eq_true_eq] at a b ⊢
    rw [if_neg b] at a; exact a
  · intro p hp i hi hj
    have g := List.all_eq_true.mp RGL_keep p hp
    simp only [Bool.and_eq_true, decide_eq_true_eq] at g
    have a := g3 p hp i hi hj
    have z : p.1 ≠ 79 := by omega
    simp only [if_neg z] at a; exact a
  · exact g4
  · exact g5
set_option maxHeartbeats 1000000 in
theorem carryGood_T (hT : WT M) (hS : SC M) {a : Int} (ha : TA a) (g : Int) (g0 : 0 ≤ g) (g1 : g < 5) : TT (fX5_carryGood M 79 a g) (fun r => Any r.1 ∧ KeepC M r.2 ∧ SC r.2) := by
  unfold fX5_carryGood
  refine TT.guard (tk hT ha) (TT.bind (lackAll_T hT ha g ⟨g0, g1⟩) (fun r1 q1 => TT.ite (fun _ => TT.ok ⟨trivial, KeepC.self, hS⟩) (fun c0 => TT.guard (wk79 hT) ?_)))
  have hi := imin_le 54 r1
  have hi2 : 0 ≤ imin 54 r1 := by unfold imin; split <;> omega
  generalize imin 54 r1 = F at *
  have hk := CD.k hS hT
  refine TT.bind (fillRow_T (n := 109) 1000000 hk.1.1 hk.1.2.1 (by decide) (by decide)) (fun r6 q6 => ?_)
  have hK6 : KeepC M r6 := KeepC.of q6.1 q6.2.1 hk.1.2.2.1
  have hT6 := hT.keepC hK6
  have a0 : r6.1 79 0 = M.1 79 0 := q6.2.1 79 0 (fun e => hk.1.2.2.2.1 e.symm)
  have a1 : r6.1 79 1 = M.1 79 1 := q6.2.1 79 1 (fun e => hk.1.2.2.2.1 e.symm)
  have hS6 : SC r6 := by unfold SC; rw [a0, a1]; exact hS
  have hk6 := CD.k hS6 hT6
  refine TT.guard (wk79 hT6) (TT.bind (fillRow_T (n := 109) 1000000 hk6.2.1 hk6.2.2.1 (by decide) (by decide)) (fun r9 q9 => ?_))
  have hK9 : KeepC M r9 := hK6.trans (KeepC.of q9.1 q9.2.1 hk6.2.2.2.1)
  have hT9 := hT.keepC hK9
  have b0 : r9.1 79 0 = r6.1 79 0 := q9.2.1 79 0 (fun e => hk6.2.2.2.2.1 e.symm)
  have b1 : r9.1 79 1 = r6.1 79 1 := q9.2.1 79 1 (fun e => hk6.2.2.2.2.1 e.symm)
  have hS9 : SC r9 := by unfold SC; rw [b0, b1]; exact hS6
  have hk9 := CD.k hS9 hT9
  refine TT.guard (wk79 hT9) (TT.guard ⟨hk9.1.1, by decide, by rw [hk9.1.2.1]; decide⟩ (TT.sM ?_))
  have hK13 : KeepC M (mst r9 (r9.1 79 0) 54 0) := hK9.st (hk9.1.2.2.1 _)
  have hS13 : SC (mst r9 (r9.1 79 0) 54 0) := by
    unfold SC; rw [mst_ne _ _ _ _ _ _ (fun e => hk9.1.2.2.2.1 e.symm), mst_ne _ _ _ _ _ _ (fun e => hk9.1.2.2.2.1 e.symm)]; exact hS9
  generalize mst r9 (r9.1 79 0) 54 0 = M13 at *
  refine TT.iter (fun (s : Int × Mem) => (0 ≤ s.1 ∧ s.1 ≤ 6) ∧ KeepC M s.2 ∧ SC s.2) (fun s => (6 - s.1).toNat) ?_ _ _ ⟨⟨by dsimp only; omega, by dsimp only; omega⟩, hK13, hS13⟩ (by unfold BIG; dsimp only; omega)
  rintro rec s ⟨⟨hl, hu⟩, hK, hSs⟩ hr
  have hTs := hT.keepC hK
  have hd := td0_ hTs ha
  have hks := CD.k hSs hTs
  refine TT.guard (tk hTs ha) (TT.ite (fun c1 => ?_) (fun _ => TT.guard (wk79 hTs) (TT.guard ⟨hks.1.1, by decide, by rw [hks.1.2.1]; decide⟩ (TT.ok ⟨trivial, hK, hSs⟩))))
  rw [w32_of (x := -F) (by omega) (by omega)]
  refine TT.iter (fun (u : Int × Mem) => (-54 ≤ u.1 ∧ u.1 ≤ 55) ∧ KeepC M u.2 ∧ SC u.2) (fun u => (55 - u.1).toNat) ?_ _ _ ⟨⟨by dsimp only; omega, by dsimp only; omega⟩, hK, hSs⟩ (by unfold BIG; dsimp only; omega)
  rintro rec2 u ⟨⟨hl2, hu2⟩, hK2, hS2⟩ hr2
  have hTu := hT.keepC hK2
  have hku := CD.k hS2 hTu
  refine TT.ite (fun c2 => ?_) (fun c2 => ?_)
  · refine TT.guard (wk79 hTu) (TT.guard hku.2.2.2.2.2 (TT.sM (TT.guard hku.1.2.2.2.2 (TT.sM (hr _ ⟨⟨by dsimp only [w32]; omega, by dsimp only [w32]; omega⟩, hK2.st79.st79, ?_⟩ (by dsimp only [w32]; omega))))))
    show CD ((mst _ 79 1 _).1 79 0) ((mst _ 79 1 _).1 79 1)
    rw [mst_at, mst_nf _ _ _ _ _ _ (by decide), mst_at]
    exact CD.sw hS2
  · refine TT.guard (tk hTu ha) (TT.bind (lackOf_T hTu ha s.1 g (by omega) ⟨g0, g1⟩) (fun r29 q29 => TT.bind (spareOf_T hTu ha s.1 g (by omega) ⟨g0, g1⟩) (fun r32 q32 => TT.guard (wk79 hTu) ?_)))
    rw [w32_of (x := u.1 + r29) (by omega) (by omega), w32_of (x := u.1 + r29 - r32) (by omega) (by omega), w32_of (x := 54 + u.1) (by omega) (by omega)]
    refine TT.bind (leastOf_T hTu hS2 _ _ (by omega)) (fun r34 _ => TT.guard ⟨hku.2.1, by omega, by rw [hku.2.2.1]; omega⟩ (TT.sM ?_))
    refine hr2 _ ⟨⟨by dsimp only [w32]; omega, by dsimp only [w32]; omega⟩, hK2.st (hku.2.2.2.1 _), ?_⟩ (by dsimp only [w32]; omega)
    show CD ((mst _ _ _ _).1 79 0) ((mst _ _ _ _).1 79 1)
    rw [mst_ne _ _ _ _ _ _ (fun e => hku.2.2.2.2.1 e.symm), mst_ne _ _ _ _ _ _ (fun e => hku.2.2.2.2.1 e.symm)]; exact hS2
theorem carryX_T (hT : WT M) (hS : SC M) (t : Int) : TT (fX10_carry M 0 t) (fun r => KeepC M r.2 ∧ SC r.2) := by
  unfold fX10_carry
  rw [wp0_0 hT, wp0_4 hT]
  refine TT.guard (wk0 hT) (TT.guard (wk1 hT) (TT.btown hT _ (TT.pos rfl (TT.ok ⟨KeepC.self, hS⟩)) (fun a ha hn => TT.neg hn (TT.guard (wk79 hT) ?_))))
  refine TT.bind (P := fun r => KeepC M r.2 ∧ SC r.2) ?_ (fun r q => TT.ok q)
  unfold fX5_carryAll
  refine TT.bind (isEnough_T hT ha) (fun r1 _ => TT.ite (fun _ => TT.ok ⟨KeepC.self, hS⟩) (fun _ => ?_))
  refine TT.iter (fun (s : Int × Int × Mem) => (0 ≤ s.2.1 ∧ s.2.1 ≤ 5) ∧ KeepC M s.2.2 ∧ SC s.2.2) (fun s => (5 - s.2.1).toNat) ?_ _ _ ⟨⟨by dsimp only; omega, by dsimp only; omega⟩, KeepC.self, hS⟩ (by unfold BIG; dsimp only; omega)
  rintro rec s ⟨⟨hl, hu⟩, hK, hSs⟩ hr
  have hTs := hT.keepC hK
  refine TT.ite (fun c => ?_) (fun _ => TT.ok ⟨hK, hSs⟩)
  rw [tp6_ hTs ha]
  refine TT.guard (tk hTs ha) (TT.guard ⟨tk6_ hTs ha, by omega, by rw [tl6_ hTs ha]; omega⟩ (TT.guard (wk79 hTs) (TT.bind (carryGood_T hTs hSs ha s.2.1 hl c) (fun r9 q => ?_))))
  exact hr _ ⟨⟨by dsimp only [w32]; omega, by dsimp only [w32]; omega⟩, hK.trans q.2.1, q.2.2⟩ (by dsimp only [w32]; omega)
end Cls
