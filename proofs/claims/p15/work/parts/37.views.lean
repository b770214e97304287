/-! views of the walk, the town's own calls: none ends in none -/
section Views
variable {M : Mem}
theorem shl1 {t : Int} (h0 : 0 ≤ t) (h4 : t ≤ 4) : 1 ≤ bShl 1 t ∧ bShl 1 t ≤ 16 := by
  rcases (show t = 0 ∨ t = 1 ∨ t = 2 ∨ t = 3 ∨ t = 4 by omega) with rfl | rfl | rfl | rfl | rfl <;> decide
theorem cd_loop (M : Mem) (x y : Int) : TT (fX10_commonDivisor M x y) (fun r => True) := by
  unfold fX10_commonDivisor
  refine TT.iter (fun (s : Int × Int × Int) => 0 ≤ s.2.2 ∧ s.2.2 ≤ 64) (fun s => (64 - s.2.2).toNat) ?_ _ _ ⟨by dsimp only; omega, by dsimp only; omega⟩ (by unfold BIG; dsimp only; omega)
  rintro rec1 s1 ⟨hl1, hu1⟩ hr1
  refine TT.ite (fun c => TT.ite (fun c2 => TT.guard (by omega) (hr1 _ ⟨by dsimp only [w32]; omega, by dsimp only [w32]; omega⟩ (by dsimp only [w32]; omega))) (fun _ => TT.ok trivial)) (fun _ => TT.ok trivial)
theorem lt_T (x y z : Int) : TT (fX10_leastTerms M x y z) (fun r => True) := by
  unfold fX10_leastTerms
  refine TT.bind (cd_loop M x y) (fun r1 _ => TT.jI (TT.ite (fun _ => TT.ite (fun c => TT.jI (TT.ite (fun _ => TT.guard (by omega) (TT.ok trivial)) (fun _ => TT.guard (by omega) (TT.ok trivial)))) (fun _ => TT.ite (fun _ => TT.ok trivial) (fun _ => TT.ok trivial))) (fun _ => TT.ite (fun _ => TT.ok trivial) (fun _ => TT.ok trivial))))
theorem worthIn_T (hT_M : WT M) {a : Int} (ha : TA a) {b : Int} (hk : M.2.1 b = 12) (hl : M.2.2.1 b = 30) (h : Int) (h0 : 0 ≤ h) (h1 : h < 6) : TT (fX7_worthIn M a b h) (fun r => True) := by
  unfold fX7_worthIn
  refine TT.iter (fun (s : Int × Int) => 0 ≤ s.2 ∧ s.2 ≤ 5) (fun s => (5 - s.2).toNat) ?_ _ _ ⟨by dsimp only; omega, by dsimp only; omega⟩ (by unfold BIG; dsimp only; omega)
  rintro rec1 s1 ⟨hl1, hu1⟩ hr1
  refine TT.ite (fun c => ?_) (fun _ => TT.ok trivial)
  refine TT.guard (tk hT_M ha) (TT.guard ⟨(by rw [tp7_ hT_M ha]; exact tk7_ hT_M ha), by omega, by rw [tp7_ hT_M ha, tl7_ hT_M ha]; omega⟩ (TT.bind (cell_T (by omega) (by omega) (by omega) (by omega)) (fun r h_r => TT.guard ⟨hk, by omega, by rw [hl]; omega⟩ ?_)))
  exact hr1 _ ⟨by dsimp only [w32]; omega, by dsimp only [w32]; omega⟩ (by dsimp only [w32]; omega)
set_option maxHeartbeats 1000000 in
theorem lackW_T (hT_M : WT M) (hA_M : TA (M.1 68 0)) (hL_M : LWA (M.1 68 1)) (h g : Int) (hh : 0 ≤ h ∧ h < 6) (hg : 0 ≤ g ∧ g < 5) : TT (fX9_lackOf M 68 h g) (fun r => True) := by
  unfold fX9_lackOf
  refine TT.guard (wk68 hT_M) ?_
  refine TT.guard (tk hT_M hA_M) ?_
  refine TT.bind (cell_T (by omega) (by omega) (by omega) (by omega)) (fun r3 h_r3 => ?_)
  refine TT.guard ⟨(by rw [tp3_ hT_M hA_M]; exact tk3_ hT_M hA_M), by omega, by rw [tp3_ hT_M hA_M, tl3_ hT_M hA_M]; omega⟩ ?_
  refine TT.bind (cell_T (by omega) (by omega) (by omega) (by omega)) (fun r6 h_r6 => ?_)
  refine TT.guard ⟨(by rw [wp68_2 hT_M]; exact wk69 hT_M), by omega, by rw [wp68_2 hT_M, wl69 hT_M]; omega⟩ ?_
  exact TT.ok trivial
set_option maxHeartbeats 1000000 in
theorem want_T (hT_M : WT M) (hA_M : TA (M.1 68 0)) (hL_M : LWA (M.1 68 1)) : TT (fX8_want M 68) (fun r => True) := by
  unfold fX8_want
  have hh0 := td0_ hT_M hA_M
  have hh1 := td1_ hT_M hA_M
  refine TT.iter (fun (s : Int × Int) => 0 ≤ s.2 ∧ s.2 ≤ 6) (fun s => (6 - s.2).toNat) ?_ _ _ ⟨by (try dsimp only [w32]); omega, by (try dsimp only [w32]); omega⟩ (by unfold BIG; (try dsimp only [w32]); omega)
  rintro rec1 s2 ⟨hl_s2, hu_s2⟩ hr_rec1
  refine TT.guard (wk68 hT_M) ?_
  refine TT.guard (tk hT_M hA_M) ?_
  refine TT.ite (fun c1 => ?_) (fun c1 => ?_)
  · refine TT.iter (fun (s : Int × Int) => 0 ≤ s.2 ∧ s.2 ≤ 5) (fun s => (5 - s.2).toNat) ?_ _ _ ⟨by (try dsimp only [w32]); omega, by (try dsimp only [w32]); omega⟩ (by unfold BIG; (try dsimp only [w32]); omega)
    rintro rec6 s7 ⟨hl_s7, hu_s7⟩ hr_rec6
    refine TT.ite (fun c2 => ?_) (fun c2 => ?_)
    · refine TT.bind (lackW_T hT_M hA_M hL_M _ _ (by omega) (by omega)) (fun r9 h_r9 => ?_)
      exact hr_rec6 _ ⟨by (try dsimp only [w32]); omega, by (try dsimp only [w32]); omega⟩ (by (try dsimp only [w32]); omega)
    · exact hr_rec1 _ ⟨by (try dsimp only [w32]); omega, by (try dsimp only [w32]); omega⟩ (by (try dsimp only [w32]); omega)
  · exact TT.ok trivial
set_option maxHeartbeats 1000000 in
theorem pious_T (hT_M : WT M) (hA_M : TA (M.1 68 0)) (hL_M : LWA (M.1 68 1)) : TT (fX8_pious M 68) (fun r => True) := by
  unfold fX8_pious
  have hh0 := td0_ hT_M hA_M
  have hh1 := td1_ hT_M hA_M
  refine TT.iter (fun (s : Int × Int) => (0 ≤ s.2 ∧ s.2 ≤ 4) ∧ -1 ≤ s.1 ∧ s.1 < 4) (fun s => (4 - s.2).toNat) ?_ _ _ (by (try dsimp only [w32]); omega) (by unfold BIG; (try dsimp only [w32]); omega)
  rintro rec1 s2 ⟨⟨hl1, hu1⟩, hl2, hu2⟩ hr_rec1
  refine TT.guard (wk68 hT_M) ?_
  refine TT.guard (tk hT_M hA_M) ?_
  refine TT.ite (fun c1 => ?_) (fun c1 => ?_)
  · refine TT.ite (fun c2 => ?_) (fun c2 => ?_)
    · exact hr_rec1 _ (by (try dsimp only [w32]); omega) (by (try dsimp only [w32]); omega)
    · refine TT.bind (owesOf_T hT_M hA_M hL_M _ (by omega)) (fun r7 h_r7 => ?_)
      refine TT.bind (owesOf_T hT_M hA_M hL_M _ (by omega)) (fun r9 h_r9 => ?_)
      refine TT.ite (fun c3 => ?_) (fun c3 => ?_)
      · exact hr_rec1 _ (by (try dsimp only [w32]); omega) (by (try dsimp only [w32]); omega)
      · exact hr_rec1 _ (by (try dsimp only [w32]); omega) (by (try dsimp only [w32]); omega)
  · exact TT.ok trivial
set_option maxHeartbeats 1000000 in
theorem tookFrom_T (hT_M : WT M) (hA_M : TA (M.1 68 0)) (hL_M : LWA (M.1 68 1)) (t h : Int) (ht : 0 ≤ t ∧ t < 4) (hh : 0 ≤ h ∧ h < 6) : TT (fX8_tookFrom M 68 t h) (fun r => True) := by
  unfold fX8_tookFrom
  refine TT.iter (fun (s : Int × Int) => 0 ≤ s.2 ∧ s.2 ≤ 5) (fun s => (5 - s.2).toNat) ?_ _ _ ⟨by (try dsimp only [w32]); omega, by (try dsimp only [w32]); omega⟩ (by unfold BIG; (try dsimp only [w32]); omega)
  rintro rec1 s2 ⟨hl_s2, hu_s2⟩ hr_rec1
  refine TT.ite (fun c1 => ?_) (fun c1 => ?_)
  · refine TT.guard (wk68 hT_M) ?_
    refine TT.bind (cell3_T (by omega) (by omega) (by omega) (by omega) (by omega) (by omega)) (fun r5 h_r5 => ?_)
    refine TT.guard ⟨(by rw [wp68_4 hT_M]; exact wk71 hT_M), by omega, by rw [wp68_4 hT_M, wl71 hT_M]; omega⟩ ?_
    exact hr_rec1 _ ⟨by (try dsimp only [w32]); omega, by (try dsimp only [w32]); omega⟩ (by (try dsimp only [w32]); omega)
  · exact TT.ok trivial
set_option maxHeartbeats 1000000 in
theorem lost_T (hT_M : WT M) (hA_M : TA (M.1 68 0)) (hL_M : LWA (M.1 68 1)) (h : Int) (hh : 0 ≤ h ∧ h < 6) : TT (fX8_lost M 68 h) (fun r => True) := by
  unfold fX8_lost
  have hh0 := td0_ hT_M hA_M
  have hh1 := td1_ hT_M hA_M
  refine TT.iter (fun (s : Int × Int) => 0 ≤ s.2 ∧ s.2 ≤ 4) (fun s => (4 - s.2).toNat) ?_ _ _ ⟨by (try dsimp only [w32]); omega, by (try dsimp only [w32]); omega⟩ (by unfold BIG; (try dsimp only [w32]); omega)
  rintro rec1 s2 ⟨hl_s2, hu_s2⟩ hr_rec1
  refine TT.guard (wk68 hT_M) ?_
  refine TT.guard (tk hT_M hA_M) ?_
  refine TT.ite (fun c1 => ?_) (fun c1 => ?_)
  · refine TT.bind (tookFrom_T hT_M hA_M hL_M _ _ (by omega) (by omega)) (fun r6 h_r6 => ?_)
    exact hr_rec1 _ ⟨by (try dsimp only [w32]); omega, by (try dsimp only [w32]); omega⟩ (by (try dsimp only [w32]); omega)
  · exact TT.ok trivial
set_option maxHeartbeats 1000000 in
theorem seenOf_T (hT_M : WT M) (hA_M : TA (M.1 68 0)) (hL_M : LWA (M.1 68 1)) (x y : Int) : TT (fX8_seenOf M 68 x y) (fun r => True) := by
  unfold fX8_seenOf
  refine TT.ite (fun c1 => ?_) (fun c1 => ?_)
  · refine TT.guard (wk68 hT_M) ?_
    refine TT.guard (tk hT_M hA_M) ?_
    refine TT.bind (isHouse_T hT_M hA_M _) (fun r3 h_r3 => ?_)
    refine TT.ite (fun c2 => ?_) (fun c2 => ?_)
    · exact TT.ok trivial
    · have g_r3 := h_r3.use c2
      refine TT.bind (lost_T hT_M hA_M hL_M _ (by omega)) (fun r7 h_r7 => ?_)
      exact TT.ok trivial
  · refine TT.guard (wk68 hT_M) ?_
    refine TT.guard (tk hT_M hA_M) ?_
    refine TT.bind (isThief_T hT_M hA_M _) (fun r10 h_r10 => ?_)
    refine TT.ite (fun c3 => ?_) (fun c3 => ?_)
    · exact TT.ok trivial
    · have g_r10 := h_r10.use c3
      refine TT.ite (fun c4 => ?_) (fun c4 => ?_)
      · refine TT.guard ⟨(by rw [wp68_6 hT_M]; exact wk73 hT_M), by omega, by rw [wp68_6 hT_M, wl73 hT_M]; omega⟩ ?_
        exact TT.ok trivial
      · refine TT.ite (fun c5 => ?_) (fun c5 => ?_)
        · refine TT.guard ⟨(by rw [wp68_7 hT_M]; exact wk74 hT_M), by omega, by rw [wp68_7 hT_M, wl74 hT_M]; omega⟩ ?_
          exact TT.ok trivial
        · refine TT.ite (fun c6 => ?_) (fun c6 => ?_)
          · refine TT.bind (owesOf_T hT_M hA_M hL_M _ (by omega)) (fun r19 h_r19 => ?_)
            exact TT.ok trivial
          · refine TT.guard ⟨(by rw [wp68_8 hT_M]; exact wk75 hT_M), by omega, by rw [wp68_8 hT_M, wl75 hT_M]; omega⟩ ?_
            exact TT.ok trivial
set_option maxHeartbeats 1000000 in
theorem seen_T (hT_M : WT M) (hA_M : TA (M.1 68 0)) (hL_M : LWA (M.1 68 1)) (x : Int) : TT (fX8_seen M 68 x) (fun r => True) := by
  unfold fX8_seen
  refine TT.ite (fun c1 => ?_) (fun c1 => ?_)
  · refine TT.bind (want_T hT_M hA_M hL_M  ) (fun r2 h_r2 => ?_)
    exact TT.ok trivial
  · refine TT.ite (fun c2 => ?_) (fun c2 => ?_)
    · refine TT.guard (wk68 hT_M) ?_
      exact TT.ok trivial
    · refine TT.ite (fun c3 => ?_) (fun c3 => ?_)
      · refine TT.bind (pious_T hT_M hA_M hL_M  ) (fun r7 h_r7 => ?_)
        exact TT.ok trivial
      · refine TT.ite (fun c4 => ?_) (fun c4 => ?_)
        · exact TT.ok trivial
        · refine TT.ite (fun c5 => ?_) (fun c5 => ?_)
          · refine TT.bind (seenOf_T hT_M hA_M hL_M _ _ ) (fun r11 h_r11 => ?_)
            exact TT.ok trivial
          · exact TT.ok trivial
set_option maxHeartbeats 1000000 in
theorem isOdd_T (hT_M : WT M) (hA_M : TA (M.1 68 0)) (hL_M : LWA (M.1 68 1)) (t : Int) (ht : 0 ≤ t ∧ t < 4) : TT (fX8_isOdd M 68 t) (fun r => True) := by
  unfold fX8_isOdd
  refine TT.guard (wk68 hT_M) ?_
  refine TT.guard ⟨(by rw [wp68_6 hT_M]; exact wk73 hT_M), by omega, by rw [wp68_6 hT_M, wl73 hT_M]; omega⟩ ?_
  refine TT.guard (lk hT_M hL_M) ?_
  refine TT.bind (oddOf_T hT_M hL_M _) (fun r3 h_r3 => ?_)
  refine TT.ite (fun c1 => ?_) (fun c1 => ?_)
  · exact TT.ok trivial
  · exact TT.ok trivial
set_option maxHeartbeats 1000000 in
theorem placeQ_T (hT_M : WT M) (hA_M : TA (M.1 68 0)) (hL_M : LWA (M.1 68 1)) (t : Int) (ht : 0 ≤ t ∧ t < 4) : TT (fX8_placeInQueue M 68 t) (fun r => True) := by
  unfold fX8_placeInQueue
  have hh0 := td0_ hT_M hA_M
  have hh1 := td1_ hT_M hA_M
  refine TT.iter (fun (s : Int × Int) => 0 ≤ s.2 ∧ s.2 ≤ 4) (fun s => (4 - s.2).toNat) ?_ _ _ ⟨by (try dsimp only [w32]); omega, by (try dsimp only [w32]); omega⟩ (by unfold BIG; (try dsimp only [w32]); omega)
  rintro rec1 s2 ⟨hl_s2, hu_s2⟩ hr_rec1
  refine TT.guard (wk68 hT_M) ?_
  refine TT.guard (tk hT_M hA_M) ?_
  refine TT.ite (fun c1 => ?_) (fun c1 => ?_)
  · refine TT.bind (isOdd_T hT_M hA_M hL_M _ (by omega)) (fun r6 h_r6 => ?_)
    refine TT.ite (fun c2 => ?_) (fun c2 => ?_)
    · exact hr_rec1 _ ⟨by (try dsimp only [w32]); omega, by (try dsimp only [w32]); omega⟩ (by (try dsimp only [w32]); omega)
    · refine TT.guard ⟨(by rw [wp68_11 hT_M]; exact wk78 hT_M), by omega, by rw [wp68_11 hT_M, wl78 hT_M]; omega⟩ ?_
      refine TT.guard ⟨(by rw [wp68_11 hT_M]; exact wk78 hT_M), by omega, by rw [wp68_11 hT_M, wl78 hT_M]; omega⟩ ?_
      refine TT.ite (fun c3 => ?_) (fun c3 => ?_)
      · exact hr_rec1 _ ⟨by (try dsimp only [w32]); omega, by (try dsimp only [w32]); omega⟩ (by (try dsimp only [w32]); omega)
      · exact hr_rec1 _ ⟨by (try dsimp only [w32]); omega, by (try dsimp only [w32]); omega⟩ (by (try dsimp only [w32]); omega)
  · exact TT.ok trivial
set_option maxHeartbeats 1000000 in
theorem queued_T (hT_M : WT M) (hA_M : TA (M.1 68 0)) (hL_M : LWA (M.1 68 1)) (k : Int) : TT (fX8_queued M 68 k) (fun r => True) := by
  unfold fX8_queued
  have hh0 := td0_ hT_M hA_M
  have hh1 := td1_ hT_M hA_M
  refine TT.iter (fun (s : Int) => 0 ≤ s ∧ s ≤ 4) (fun s => (4 - s).toNat) ?_ _ _ ⟨by (try dsimp only [w32]); omega, by (try dsimp only [w32]); omega⟩ (by unfold BIG; (try dsimp only [w32]); omega)
  rintro rec1 s2 ⟨hl_s2, hu_s2⟩ hr_rec1
  refine TT.guard (wk68 hT_M) ?_
  refine TT.guard (tk hT_M hA_M) ?_
  refine TT.ite (fun c1 => ?_) (fun c1 => ?_)
  · refine TT.bind (isOdd_T hT_M hA_M hL_M _ (by omega)) (fun r6 h_r6 => ?_)
    refine TT.ite (fun c2 => ?_) (fun c2 => ?_)
    · exact hr_rec1 _ ⟨by (try dsimp only [w32]); omega, by (try dsimp only [w32]); omega⟩ (by (try dsimp only [w32]); omega)
    · refine TT.bind (placeQ_T hT_M hA_M hL_M _ (by omega)) (fun r9 h_r9 => ?_)
      refine TT.ite (fun c3 => ?_) (fun c3 => ?_)
      · exact TT.ok trivial
      · exact hr_rec1 _ ⟨by (try dsimp only [w32]); omega, by (try dsimp only [w32]); omega⟩ (by (try dsimp only [w32]); omega)
  · exact TT.ok trivial
set_option maxHeartbeats 1000000 in
theorem isReached_T (hT_M : WT M) (hA_M : TA (M.1 68 0)) (hL_M : LWA (M.1 68 1)) (d t : Int) (ht : 0 ≤ t ∧ t < 4) : TT (fX8_isReached M 68 d t) (fun r => True) := by
  unfold fX8_isReached
  have hh0 := td0_ hT_M hA_M
  have hh1 := td1_ hT_M hA_M
  refine TT.iter (fun (s : Int) => 0 ≤ s ∧ s ≤ 4) (fun s => (4 - s).toNat) ?_ _ _ ⟨by (try dsimp only [w32]); omega, by (try dsimp only [w32]); omega⟩ (by unfold BIG; (try dsimp only [w32]); omega)
  rintro rec1 s2 ⟨hl_s2, hu_s2⟩ hr_rec1
  refine TT.guard (wk68 hT_M) ?_
  refine TT.guard (tk hT_M hA_M) ?_
  refine TT.ite (fun c1 => ?_) (fun c1 => ?_)
  · refine TT.jI ?_
    refine TT.jI ?_
    refine TT.ite (fun c2 => ?_) (fun c2 => ?_)
    · refine TT.bind (isFree_T hT_M hA_M hL_M _) (fun r15 h_r15 => ?_)
      refine TT.ite (fun c3 => ?_) (fun c3 => ?_)
      · refine TT.ite (fun c4 => ?_) (fun c4 => ?_)
        · exact hr_rec1 _ ⟨by (try dsimp only [w32]); omega, by (try dsimp only [w32]); omega⟩ (by (try dsimp only [w32]); omega)
        · refine TT.bind (areKin_T hT_M hA_M _ _ (by omega) (by omega)) (fun r9 h_r9 => ?_)
          refine TT.ite (fun c5 => ?_) (fun c5 => ?_)
          · exact TT.ok trivial
          · exact hr_rec1 _ ⟨by (try dsimp only [w32]); omega, by (try dsimp only [w32]); omega⟩ (by (try dsimp only [w32]); omega)
      · have g_r15 := h_r15.use c3
        refine TT.bind (owesOf_T hT_M hA_M hL_M _ (by omega)) (fun r18 h_r18 => ?_)
        refine TT.ite (fun c6 => ?_) (fun c6 => ?_)
        · refine TT.ite (fun c7 => ?_) (fun c7 => ?_)
          · exact hr_rec1 _ ⟨by (try dsimp only [w32]); omega, by (try dsimp only [w32]); omega⟩ (by (try dsimp only [w32]); omega)
          · refine TT.bind (areKin_T hT_M hA_M _ _ (by omega) (by omega)) (fun r9 h_r9 => ?_)
            refine TT.ite (fun c8 => ?_) (fun c8 => ?_)
            · exact TT.ok trivial
            · exact hr_rec1 _ ⟨by (try dsimp only [w32]); omega, by (try dsimp only [w32]); omega⟩ (by (try dsimp only [w32]); omega)
        · refine TT.ite (fun c9 => ?_) (fun c9 => ?_)
          · exact hr_rec1 _ ⟨by (try dsimp only [w32]); omega, by (try dsimp only [w32]); omega⟩ (by (try dsimp only [w32]); omega)
          · refine TT.bind (areKin_T hT_M hA_M _ _ (by omega) (by omega)) (fun r9 h_r9 => ?_)
            refine TT.ite (fun c10 => ?_) (fun c10 => ?_)
            · exact TT.ok trivial
            · exact hr_rec1 _ ⟨by (try dsimp only [w32]); omega, by (try dsimp only [w32]); omega⟩ (by (try dsimp only [w32]); omega)
    · refine TT.ite (fun c11 => ?_) (fun c11 => ?_)
      · exact hr_rec1 _ ⟨by (try dsimp only [w32]); omega, by (try dsimp only [w32]); omega⟩ (by (try dsimp only [w32]); omega)
      · refine TT.bind (areKin_T hT_M hA_M _ _ (by omega) (by omega)) (fun r9 h_r9 => ?_)
        refine TT.ite (fun c12 => ?_) (fun c12 => ?_)
        · exact TT.ok trivial
        · exact hr_rec1 _ ⟨by (try dsimp only [w32]); omega, by (try dsimp only [w32]); omega⟩ (by (try dsimp only [w32]); omega)
  · exact TT.ok trivial
set_option maxHeartbeats 1000000 in
theorem cut_T (hT_M : WT M) (hA_M : TA (M.1 68 0)) (hL_M : LWA (M.1 68 1)) (d : Int) : TT (fX8_cut M 68 d) (fun r => True) := by
  unfold fX8_cut
  have hh0 := td0_ hT_M hA_M
  have hh1 := td1_ hT_M hA_M
  refine TT.iter (fun (s : Int × Int) => 0 ≤ s.2 ∧ s.2 ≤ 4) (fun s => (4 - s.2).toNat) ?_ _ _ ⟨by (try dsimp only [w32]); omega, by (try dsimp only [w32]); omega⟩ (by unfold BIG; (try dsimp only [w32]); omega)
  rintro rec1 s2 ⟨hl_s2, hu_s2⟩ hr_rec1
  refine TT.guard (wk68 hT_M) ?_
  refine TT.guard (tk hT_M hA_M) ?_
  refine TT.ite (fun c1 => ?_) (fun c1 => ?_)
  · refine TT.bind (owesOf_T hT_M hA_M hL_M _ (by omega)) (fun r6 h_r6 => ?_)
    refine TT.bind (isFree_T hT_M hA_M hL_M _) (fun r8 h_r8 => ?_)
    refine TT.ite (fun c2 => ?_) (fun c2 => ?_)
    · exact hr_rec1 _ ⟨by (try dsimp only [w32]); omega, by (try dsimp only [w32]); omega⟩ (by (try dsimp only [w32]); omega)
    · have g_r8 := h_r8.use c2
      refine TT.jI ?_
      refine TT.ite (fun c3 => ?_) (fun c3 => ?_)
      · refine TT.ite (fun c4 => ?_) (fun c4 => ?_)
        · exact hr_rec1 _ ⟨by (try dsimp only [w32]); omega, by (try dsimp only [w32]); omega⟩ (by (try dsimp only [w32]); omega)
        · refine TT.ite (fun c5 => ?_) (fun c5 => ?_)
          · refine TT.bind (isReached_T hT_M hA_M hL_M _ _ (by omega)) (fun r14 h_r14 => ?_)
            refine TT.ite (fun c6 => ?_) (fun c6 => ?_)
            · exact hr_rec1 _ ⟨by (try dsimp only [w32]); omega, by (try dsimp only [w32]); omega⟩ (by (try dsimp only [w32]); omega)
            · exact hr_rec1 _ ⟨by (try dsimp only [w32]); omega, by (try dsimp only [w32]); omega⟩ (by (try dsimp only [w32]); omega)
          · exact hr_rec1 _ ⟨by (try dsimp only [w32]); omega, by (try dsimp only [w32]); omega⟩ (by (try dsimp only [w32]); omega)
      · refine TT.ite (fun c7 => ?_) (fun c7 => ?_)
        · refine TT.bind (isReached_T hT_M hA_M hL_M _ _ (by omega)) (fun r14 h_r14 => ?_)
          refine TT.ite (fun c8 => ?_) (fun c8 => ?_)
          · exact hr_rec1 _ ⟨by (try dsimp only [w32]); omega, by (try dsimp only [w32]); omega⟩ (by (try dsimp only [w32]); omega)
          · exact hr_rec1 _ ⟨by (try dsimp only [w32]); omega, by (try dsimp only [w32]); omega⟩ (by (try dsimp only [w32]); omega)
        · exact hr_rec1 _ ⟨by (try dsimp only [w32]); omega, by (try dsimp only [w32]); omega⟩ (by (try dsimp only [w32]); omega)
  · exact TT.ok trivial
set_option maxHeartbeats 1000000 in
theorem settle_T (hT_M : WT M) (hA_M : TA (M.1 68 0)) (hL_M : LWA (M.1 68 1)) : TT (fX8_settle M 68) (fun r => True) := by
  unfold fX8_settle
  have hh0 := td0_ hT_M hA_M
  have hh1 := td1_ hT_M hA_M
  have hb := shl1 hh1.1 hh1.2
  refine TT.bind (cut_T hT_M hA_M hL_M _ ) (fun r1 h_r1 => ?_)
  refine TT.iter (fun (s : Int × Int) => 1 ≤ s.2 ∧ s.2 ≤ 16) (fun s => (16 - s.2).toNat) ?_ _ _ ⟨by (try dsimp only [w32]); omega, by (try dsimp only [w32]); omega⟩ (by unfold BIG; (try dsimp only [w32]); omega)
  rintro rec3 s4 ⟨hl_s4, hu_s4⟩ hr_rec3
  refine TT.guard (wk68 hT_M) ?_
  refine TT.guard (tk hT_M hA_M) ?_
  refine TT.ite (fun c1 => ?_) (fun c1 => ?_)
  · refine TT.bind (cut_T hT_M hA_M hL_M _ ) (fun r8 h_r8 => ?_)
    exact hr_rec3 _ ⟨by (try dsimp only [w32]); omega, by (try dsimp only [w32]); omega⟩ (by (try dsimp only [w32]); omega)
  · exact TT.ok trivial
set_option maxHeartbeats 1000000 in
theorem wealthOf_T (hT_M : WT M) (hA_M : TA (M.1 68 0)) (hL_M : LWA (M.1 68 1)) (h : Int) : TT (fX8_wealthOf M 68 h) (fun r => True) := by
  unfold fX8_wealthOf
  refine TT.guard (wk68 hT_M) ?_
  refine TT.guard (tk hT_M hA_M) ?_
  refine TT.bind (isHouse_T hT_M hA_M _) (fun r2 h_r2 => ?_)
  refine TT.ite (fun c1 => ?_) (fun c1 => ?_)
  · exact TT.ok trivial
  · have g_r2 := h_r2.use c1
    refine TT.bind (worthIn_T hT_M hA_M (by rw [wp68_2 hT_M]; exact wk69 hT_M) (by rw [wp68_2 hT_M]; exact wl69 hT_M) _ (by omega) (by omega)) (fun r6 h_r6 => ?_)
    exact TT.ok trivial
set_option maxHeartbeats 1000000 in
theorem gap_T (hT_M : WT M) (hA_M : TA (M.1 68 0)) (hL_M : LWA (M.1 68 1)) : TT (fX8_gap M 68) (fun r => True) := by
  unfold fX8_gap
  have hh0 := td0_ hT_M hA_M
  have hh1 := td1_ hT_M hA_M
  refine TT.bind (wealthOf_T hT_M hA_M hL_M _ ) (fun r1 h_r1 => ?_)
  refine TT.iter (fun (s : Int × Int × Int) => 1 ≤ s.2.2 ∧ s.2.2 ≤ 6) (fun s => (6 - s.2.2).toNat) ?_ _ _ ⟨by (try dsimp only [w32]); omega, by (try dsimp only [w32]); omega⟩ (by unfold BIG; (try dsimp only [w32]); omega)
  rintro rec3 s4 ⟨hl_s4, hu_s4⟩ hr_rec3
  refine TT.guard (wk68 hT_M) ?_
  refine TT.guard (tk hT_M hA_M) ?_
  refine TT.ite (fun c1 => ?_) (fun c1 => ?_)
  · refine TT.bind (wealthOf_T hT_M hA_M hL_M _ ) (fun r8 h_r8 => ?_)
    refine TT.bind (wealthOf_T hT_M hA_M hL_M _ ) (fun r10 h_r10 => ?_)
    exact hr_rec3 _ ⟨by (try dsimp only [w32]); omega, by (try dsimp only [w32]); omega⟩ (by (try dsimp only [w32]); omega)
  · exact TT.ok trivial
set_option maxHeartbeats 1000000 in
theorem unlike_T (hT_M : WT M) (hA_M : TA (M.1 68 0)) (hL_M : LWA (M.1 68 1)) (u : Int) : TT (fX8_unlike M 68 u) (fun r => True) := by
  unfold fX8_unlike
  have hh0 := td0_ hT_M hA_M
  have hh1 := td1_ hT_M hA_M
  refine TT.iter (fun (s : Int × Int × Int) => 0 ≤ s.2.2 ∧ s.2.2 ≤ 6) (fun s => (6 - s.2.2).toNat) ?_ _ _ ⟨by (try dsimp only [w32]); omega, by (try dsimp only [w32]); omega⟩ (by unfold BIG; (try dsimp only [w32]); omega)
  rintro rec1 s2 ⟨hl_s2, hu_s2⟩ hr_rec1
  refine TT.guard (wk68 hT_M) ?_
  refine TT.guard (tk hT_M hA_M) ?_
  refine TT.ite (fun c1 => ?_) (fun c1 => ?_)
  · refine TT.bind (wealthOf_T hT_M hA_M hL_M _ ) (fun r6 h_r6 => ?_)
    refine TT.iter (fun (s : Int × Int) => 1 ≤ s.2 ∧ s.2 ≤ 7) (fun s => (7 - s.2).toNat) ?_ _ _ ⟨by (try dsimp only [w32]); omega, by (try dsimp only [w32]); omega⟩ (by unfold BIG; (try dsimp only [w32]); omega)
    rintro rec8 s9 ⟨hl_s9, hu_s9⟩ hr_rec8
    refine TT.ite (fun c2 => ?_) (fun c2 => ?_)
    · refine TT.bind (wealthOf_T hT_M hA_M hL_M _ ) (fun r11 h_r11 => ?_)
      exact hr_rec8 _ ⟨by (try dsimp only [w32]); omega, by (try dsimp only [w32]); omega⟩ (by (try dsimp only [w32]); omega)
    · exact hr_rec1 _ ⟨by (try dsimp only [w32]); omega, by (try dsimp only [w32]); omega⟩ (by (try dsimp only [w32]); omega)
  · refine TT.bind (lt_T _ _ _) (fun r13 h_r13 => ?_)
    exact TT.ok trivial
set_option maxHeartbeats 1000000 in
theorem robbed_T (hT_M : WT M) (hA_M : TA (M.1 68 0)) (hL_M : LWA (M.1 68 1)) : TT (fX8_robbed M 68) (fun r => True) := by
  unfold fX8_robbed
  have hh0 := td0_ hT_M hA_M
  have hh1 := td1_ hT_M hA_M
  refine TT.iter (fun (s : Int × Int) => 0 ≤ s.2 ∧ s.2 ≤ 6) (fun s => (6 - s.2).toNat) ?_ _ _ ⟨by (try dsimp only [w32]); omega, by (try dsimp only [w32]); omega⟩ (by unfold BIG; (try dsimp only [w32]); omega)
  rintro rec1 s2 ⟨hl_s2, hu_s2⟩ hr_rec1
  refine TT.guard (wk68 hT_M) ?_
  refine TT.guard (tk hT_M hA_M) ?_
  refine TT.ite (fun c1 => ?_) (fun c1 => ?_)
  · refine TT.iter (fun (s : Int × Int) => 0 ≤ s.2 ∧ s.2 ≤ 4) (fun s => (4 - s.2).toNat) ?_ _ _ ⟨by (try dsimp only [w32]); omega, by (try dsimp only [w32]); omega⟩ (by unfold BIG; (try dsimp only [w32]); omega)
    rintro rec6 s7 ⟨hl_s7, hu_s7⟩ hr_rec6
    refine TT.ite (fun c2 => ?_) (fun c2 => ?_)
    · refine TT.bind (tookFrom_T hT_M hA_M hL_M _ _ (by omega) (by omega)) (fun r9 h_r9 => ?_)
      refine TT.ite (fun c3 => ?_) (fun c3 => ?_)
      · exact hr_rec6 _ ⟨by (try dsimp only [w32]); omega, by (try dsimp only [w32]); omega⟩ (by (try dsimp only [w32]); omega)
      · exact hr_rec6 _ ⟨by (try dsimp only [w32]); omega, by (try dsimp only [w32]); omega⟩ (by (try dsimp only [w32]); omega)
    · refine TT.ite (fun c4 => ?_) (fun c4 => ?_)
      · exact hr_rec1 _ ⟨by (try dsimp only [w32]); omega, by (try dsimp only [w32]); omega⟩ (by (try dsimp only [w32]); omega)
      · exact hr_rec1 _ ⟨by (try dsimp only [w32]); omega, by (try dsimp only [w32]); omega⟩ (by (try dsimp only [w32]); omega)
  · exact TT.ok trivial
set_option maxHeartbeats 1000000 in
theorem can_T (hT_M : WT M) (hA_M : TA (M.1 68 0)) (hL_M : LWA (M.1 68 1)) (t : Int) (ht : 0 ≤ t ∧ t < 4) : TT (fX8_can M 68 t) (fun r => True) := by
  unfold fX8_can
  have hh0 := td0_ hT_M hA_M
  have hh1 := td1_ hT_M hA_M
  refine TT.guard (wk68 hT_M) ?_
  refine TT.bind (isFree_T hT_M hA_M hL_M _) (fun r1 h_r1 => ?_)
  refine TT.ite (fun c1 => ?_) (fun c1 => ?_)
  · exact TT.ok trivial
  · have g_r1 := h_r1.use c1
    refine TT.iter (fun (s : Int × Int) => 0 ≤ s.2 ∧ s.2 ≤ 5) (fun s => (5 - s.2).toNat) ?_ _ _ ⟨by (try dsimp only [w32]); omega, by (try dsimp only [w32]); omega⟩ (by unfold BIG; (try dsimp only [w32]); omega)
    rintro rec5 s6 ⟨hl_s6, hu_s6⟩ hr_rec5
    refine TT.ite (fun c2 => ?_) (fun c2 => ?_)
    · refine TT.iter (fun (s : Int × Int) => 0 ≤ s.2 ∧ s.2 ≤ 6) (fun s => (6 - s.2).toNat) ?_ _ _ ⟨by (try dsimp only [w32]); omega, by (try dsimp only [w32]); omega⟩ (by unfold BIG; (try dsimp only [w32]); omega)
      rintro rec8 s9 ⟨hl_s9, hu_s9⟩ hr_rec8
      refine TT.guard (tk hT_M hA_M) ?_
      refine TT.ite (fun c3 => ?_) (fun c3 => ?_)
      · refine TT.bind (takesGift_T hT_M hA_M hL_M _ _ _ (by omega) (by omega) (by omega)) (fun r12 h_r12 => ?_)
        refine TT.ite (fun c4 => ?_) (fun c4 => ?_)
        · exact hr_rec8 _ ⟨by (try dsimp only [w32]); omega, by (try dsimp only [w32]); omega⟩ (by (try dsimp only [w32]); omega)
        · refine TT.bind (lackW_T hT_M hA_M hL_M _ _ (by omega) (by omega)) (fun r15 h_r15 => ?_)
          exact hr_rec8 _ ⟨by (try dsimp only [w32]); omega, by (try dsimp only [w32]); omega⟩ (by (try dsimp only [w32]); omega)
      · refine TT.guard ⟨(by rw [wp68_3 hT_M]; exact wk70 hT_M), by rw [w32_of (x := 5 * t) (by omega) (by omega), w32_of (x := ((5 * t)) + s6.2) (by omega) (by omega)]; omega, by rw [wp68_3 hT_M, wl70 hT_M, w32_of (x := 5 * t) (by omega) (by omega), w32_of (x := ((5 * t)) + s6.2) (by omega) (by omega)]; omega⟩ ?_
        exact hr_rec5 _ ⟨by (try dsimp only [w32]); omega, by (try dsimp only [w32]); omega⟩ (by (try dsimp only [w32]); omega)
    · exact TT.ok trivial
set_option maxHeartbeats 1000000 in
theorem rankOf_T (hT_M : WT M) (hA_M : TA (M.1 68 0)) (hL_M : LWA (M.1 68 1)) (h : Int) : TT (fX8_rankOf M 68 h) (fun r => True) := by
  unfold fX8_rankOf
  have hh0 := td0_ hT_M hA_M
  have hh1 := td1_ hT_M hA_M
  refine TT.bind (wealthOf_T hT_M hA_M hL_M _ ) (fun r1 h_r1 => ?_)
  refine TT.iter (fun (s : Int × Int) => 0 ≤ s.2 ∧ s.2 ≤ 6) (fun s => (6 - s.2).toNat) ?_ _ _ ⟨by (try dsimp only [w32]); omega, by (try dsimp only [w32]); omega⟩ (by unfold BIG; (try dsimp only [w32]); omega)
  rintro rec3 s4 ⟨hl_s4, hu_s4⟩ hr_rec3
  refine TT.guard (wk68 hT_M) ?_
  refine TT.guard (tk hT_M hA_M) ?_
  refine TT.ite (fun c1 => ?_) (fun c1 => ?_)
  · refine TT.bind (wealthOf_T hT_M hA_M hL_M _ ) (fun r8 h_r8 => ?_)
    refine TT.ite (fun c2 => ?_) (fun c2 => ?_)
    · exact hr_rec3 _ ⟨by (try dsimp only [w32]); omega, by (try dsimp only [w32]); omega⟩ (by (try dsimp only [w32]); omega)
    · refine TT.ite (fun c3 => ?_) (fun c3 => ?_)
      · refine TT.ite (fun c4 => ?_) (fun c4 => ?_)
        · exact hr_rec3 _ ⟨by (try dsimp only [w32]); omega, by (try dsimp only [w32]); omega⟩ (by (try dsimp only [w32]); omega)
        · exact hr_rec3 _ ⟨by (try dsimp only [w32]); omega, by (try dsimp only [w32]); omega⟩ (by (try dsimp only [w32]); omega)
      · exact hr_rec3 _ ⟨by (try dsimp only [w32]); omega, by (try dsimp only [w32]); omega⟩ (by (try dsimp only [w32]); omega)
  · exact TT.ok trivial
set_option maxHeartbeats 1000000 in
theorem ranked_T (hT_M : WT M) (hA_M : TA (M.1 68 0)) (hL_M : LWA (M.1 68 1)) (k : Int) : TT (fX8_ranked M 68 k) (fun r => True) := by
  unfold fX8_ranked
  have hh0 := td0_ hT_M hA_M
  have hh1 := td1_ hT_M hA_M
  refine TT.iter (fun (s : Int) => 0 ≤ s ∧ s ≤ 6) (fun s => (6 - s).toNat) ?_ _ _ ⟨by (try dsimp only [w32]); omega, by (try dsimp only [w32]); omega⟩ (by unfold BIG; (try dsimp only [w32]); omega)
  rintro rec1 s2 ⟨hl_s2, hu_s2⟩ hr_rec1
  refine TT.guard (wk68 hT_M) ?_
  refine TT.guard (tk hT_M hA_M) ?_
  refine TT.ite (fun c1 => ?_) (fun c1 => ?_)
  · refine TT.bind (rankOf_T hT_M hA_M hL_M _ ) (fun r6 h_r6 => ?_)
    refine TT.ite (fun c2 => ?_) (fun c2 => ?_)
    · exact TT.ok trivial
    · exact hr_rec1 _ ⟨by (try dsimp only [w32]); omega, by (try dsimp only [w32]); omega⟩ (by (try dsimp only [w32]); omega)
  · exact TT.ok trivial
set_option maxHeartbeats 1000000 in
theorem richOf_T (hT_M : WT M) (hA_M : TA (M.1 68 0)) (hL_M : LWA (M.1 68 1)) (x y : Int) : TT (fX8_richOf M 68 x y) (fun r => True) := by
  unfold fX8_richOf
  refine TT.ite (fun c1 => ?_) (fun c1 => ?_)
  · refine TT.guard (wk68 hT_M) ?_
    refine TT.guard (tk hT_M hA_M) ?_
    refine TT.bind (isThief_T hT_M hA_M _) (fun r3 h_r3 => ?_)
    refine TT.ite (fun c2 => ?_) (fun c2 => ?_)
    · exact TT.ok trivial
    · have g_r3 := h_r3.use c2
      refine TT.bind (can_T hT_M hA_M hL_M _ (by omega)) (fun r7 h_r7 => ?_)
      exact TT.ok trivial
  · refine TT.guard (wk68 hT_M) ?_
    refine TT.guard (tk hT_M hA_M) ?_
    refine TT.bind (isHouse_T hT_M hA_M _) (fun r10 h_r10 => ?_)
    refine TT.ite (fun c3 => ?_) (fun c3 => ?_)
    · exact TT.ok trivial
    · have g_r10 := h_r10.use c3
      refine TT.ite (fun c4 => ?_) (fun c4 => ?_)
      · refine TT.bind (wealthOf_T hT_M hA_M hL_M _ ) (fun r15 h_r15 => ?_)
        exact TT.ok trivial
      · refine TT.bind (ranked_T hT_M hA_M hL_M _ ) (fun r17 h_r17 => ?_)
        exact TT.ok trivial
set_option maxHeartbeats 1000000 in
theorem rich_T (hT_M : WT M) (hA_M : TA (M.1 68 0)) (hL_M : LWA (M.1 68 1)) (x : Int) : TT (fX8_rich M 68 x) (fun r => True) := by
  unfold fX8_rich
  refine TT.ite (fun c1 => ?_) (fun c1 => ?_)
  · refine TT.bind (settle_T hT_M hA_M hL_M  ) (fun r2 h_r2 => ?_)
    exact TT.ok trivial
  · refine TT.ite (fun c2 => ?_) (fun c2 => ?_)
    · refine TT.bind (gap_T hT_M hA_M hL_M  ) (fun r5 h_r5 => ?_)
      exact TT.ok trivial
    · refine TT.ite (fun c3 => ?_) (fun c3 => ?_)
      · refine TT.bind (unlike_T hT_M hA_M hL_M _ ) (fun r8 h_r8 => ?_)
        exact TT.ok trivial
      · refine TT.ite (fun c4 => ?_) (fun c4 => ?_)
        · refine TT.bind (unlike_T hT_M hA_M hL_M _ ) (fun r11 h_r11 => ?_)
          exact TT.ok trivial
        · refine TT.ite (fun c5 => ?_) (fun c5 => ?_)
          · refine TT.bind (robbed_T hT_M hA_M hL_M  ) (fun r14 h_r14 => ?_)
            exact TT.ok trivial
          · refine TT.ite (fun c6 => ?_) (fun c6 => ?_)
            · exact TT.ok trivial
            · refine TT.ite (fun c7 => ?_) (fun c7 => ?_)
              · refine TT.bind (richOf_T hT_M hA_M hL_M _ _ ) (fun r18 h_r18 => ?_)
                exact TT.ok trivial
              · exact TT.ok trivial
theorem sub9 {x y : Int} (hx : 0 ≤ x ∧ x ≤ 9) (hy : 0 ≤ y ∧ y ≤ 9) : 0 ≤ imax 0 (w32 (x - y)) ∧ imax 0 (w32 (x - y)) ≤ 9 := by
  rw [w32_of (x := x - y) (by omega) (by omega)]; unfold imax; split <;> omega
set_option maxHeartbeats 1000000 in
theorem spareOf_T (hT_M : WT M) {a : Int} (ha : TA a) (h g : Int) (hh : 0 ≤ h ∧ h < 6) (hg : 0 ≤ g ∧ g < 5) : TT (fX7_spareOf M a h g) (fun r => 0 ≤ r ∧ r ≤ 9) := by
  unfold fX7_spareOf
  refine TT.guard (tk hT_M ha) ?_
  refine TT.bind (cell_T (by omega) (by omega) (by omega) (by omega)) (fun r2 h_r2 => ?_)
  refine TT.guard ⟨(by rw [tp2_ hT_M ha]; exact tk2_ hT_M ha), by omega, by rw [tp2_ hT_M ha, tl2_ hT_M ha]; omega⟩ ?_
  refine TT.bind (cell_T (by omega) (by omega) (by omega) (by omega)) (fun r5 h_r5 => ?_)
  refine TT.guard ⟨(by rw [tp3_ hT_M ha]; exact tk3_ hT_M ha), by omega, by rw [tp3_ hT_M ha, tl3_ hT_M ha]; omega⟩ ?_
  exact TT.ok (by rw [tp2_ hT_M ha, tp3_ hT_M ha]; exact sub9 (td2_ hT_M ha (by omega) (by omega)) (td3_ hT_M ha (by omega) (by omega)))
set_option maxHeartbeats 1000000 in
theorem lackOf_T (hT_M : WT M) {a : Int} (ha : TA a) (h g : Int) (hh : 0 ≤ h ∧ h < 6) (hg : 0 ≤ g ∧ g < 5) : TT (fX7_lackOf M a h g) (fun r => 0 ≤ r ∧ r ≤ 9) := by
  unfold fX7_lackOf
  refine TT.guard (tk hT_M ha) ?_
  refine TT.bind (cell_T (by omega) (by omega) (by omega) (by omega)) (fun r2 h_r2 => ?_)
  refine TT.guard ⟨(by rw [tp3_ hT_M ha]; exact tk3_ hT_M ha), by omega, by rw [tp3_ hT_M ha, tl3_ hT_M ha]; omega⟩ ?_
  refine TT.bind (cell_T (by omega) (by omega) (by omega) (by omega)) (fun r5 h_r5 => ?_)
  refine TT.guard ⟨(by rw [tp2_ hT_M ha]; exact tk2_ hT_M ha), by omega, by rw [tp2_ hT_M ha, tl2_ hT_M ha]; omega⟩ ?_
  exact TT.ok (by rw [tp3_ hT_M ha, tp2_ hT_M ha]; exact sub9 (td3_ hT_M ha (by omega) (by omega)) (td2_ hT_M ha (by omega) (by omega)))
set_option maxHeartbeats 1000000 in
theorem spareAll_T (hT_M : WT M) {a : Int} (ha : TA a) (g : Int) (hg : 0 ≤ g ∧ g < 5) : TT (fX7_spareOfAll M a g) (fun r => 0 ≤ r ∧ r ≤ 54) := by
  unfold fX7_spareOfAll
  have hh0 := td0_ hT_M ha
  have hh1 := td1_ hT_M ha
  refine TT.iter (fun (s : Int × Int) => (0 ≤ s.2 ∧ s.2 ≤ 6) ∧ 0 ≤ s.1 ∧ s.1 ≤ 9 * s.2) (fun s => (6 - s.2).toNat) ?_ _ _ (by (try dsimp only [w32]); omega) (by unfold BIG; (try dsimp only [w32]); omega)
  rintro rec1 s2 ⟨⟨hl1, hu1⟩, hl2, hu2⟩ hr_rec1
  refine TT.guard (tk hT_M ha) ?_
  refine TT.ite (fun c1 => ?_) (fun c1 => ?_)
  · refine TT.bind (spareOf_T hT_M ha _ _ (by omega) (by omega)) (fun r5 h_r5 => ?_)
    exact hr_rec1 _ (by (try dsimp only [w32]); omega) (by (try dsimp only [w32]); omega)
  · exact TT.ok (by omega)
set_option maxHeartbeats 1000000 in
theorem lackAll_T (hT_M : WT M) {a : Int} (ha : TA a) (g : Int) (hg : 0 ≤ g ∧ g < 5) : TT (fX7_lackOfAll M a g) (fun r => 0 ≤ r ∧ r ≤ 54) := by
  unfold fX7_lackOfAll
  have hh0 := td0_ hT_M ha
  have hh1 := td1_ hT_M ha
  refine TT.iter (fun (s : Int × Int) => (0 ≤ s.2 ∧ s.2 ≤ 6) ∧ 0 ≤ s.1 ∧ s.1 ≤ 9 * s.2) (fun s => (6 - s.2).toNat) ?_ _ _ (by (try dsimp only [w32]); omega) (by unfold BIG; (try dsimp only [w32]); omega)
  rintro rec1 s2 ⟨⟨hl1, hu1⟩, hl2, hu2⟩ hr_rec1
  refine TT.guard (tk hT_M ha) ?_
  refine TT.ite (fun c1 => ?_) (fun c1 => ?_)
  · refine TT.bind (lackOf_T hT_M ha _ _ (by omega) (by omega)) (fun r5 h_r5 => ?_)
    exact hr_rec1 _ (by (try dsimp only [w32]); omega) (by (try dsimp only [w32]); omega)
  · exact TT.ok (by omega)
set_option maxHeartbeats 1000000 in
theorem limitAll_T (hT_M : WT M) {a : Int} (ha : TA a) : TT (fX7_limitOfAll M a) (fun r => True) := by
  unfold fX7_limitOfAll
  have hh0 := td0_ hT_M ha
  have hh1 := td1_ hT_M ha
  refine TT.iter (fun (s : Int × Int) => 0 ≤ s.2 ∧ s.2 ≤ 4) (fun s => (4 - s.2).toNat) ?_ _ _ ⟨by (try dsimp only [w32]); omega, by (try dsimp only [w32]); omega⟩ (by unfold BIG; (try dsimp only [w32]); omega)
  rintro rec1 s2 ⟨hl_s2, hu_s2⟩ hr_rec1
  refine TT.guard (tk hT_M ha) ?_
  refine TT.ite (fun c1 => ?_) (fun c1 => ?_)
  · refine TT.guard ⟨(by rw [tp8_ hT_M ha]; exact tk8_ hT_M ha), by omega, by rw [tp8_ hT_M ha, tl8_ hT_M ha]; omega⟩ ?_
    exact hr_rec1 _ ⟨by (try dsimp only [w32]); omega, by (try dsimp only [w32]); omega⟩ (by (try dsimp only [w32]); omega)
  · exact TT.ok trivial
set_option maxHeartbeats 1000000 in
theorem evenOut_T (hT_M : WT M) {a : Int} (ha : TA a) (g : Int) (hg : 0 ≤ g ∧ g < 5) : TT (fX7_evenOut M a g) (fun r => True) := by
  unfold fX7_evenOut
  have hh0 := td0_ hT_M ha
  have hh1 := td1_ hT_M ha
  refine TT.guard (tk hT_M ha) ?_
  refine TT.ite (fun c1 => ?_) (fun c1 => ?_)
  · exact TT.ok trivial
  · refine TT.iter (fun (s : Int × Int) => 0 ≤ s.2 ∧ s.2 ≤ 6) (fun s => (6 - s.2).toNat) ?_ _ _ ⟨by (try dsimp only [w32]); omega, by (try dsimp only [w32]); omega⟩ (by unfold BIG; (try dsimp only [w32]); omega)
    rintro rec3 s4 ⟨hl_s4, hu_s4⟩ hr_rec3
    refine TT.ite (fun c2 => ?_) (fun c2 => ?_)
    · refine TT.bind (cell_T (by omega) (by omega) (by omega) (by omega)) (fun r6 h_r6 => ?_)
      refine TT.guard ⟨(by rw [tp2_ hT_M ha]; exact tk2_ hT_M ha), by omega, by rw [tp2_ hT_M ha, tl2_ hT_M ha]; omega⟩ ?_
      exact hr_rec3 _ ⟨by (try dsimp only [w32]); omega, by (try dsimp only [w32]); omega⟩ (by (try dsimp only [w32]); omega)
    · refine TT.guard (by first | omega | (simp only [w32]; omega)) ?_
      refine TT.iter (fun (s : Int × Int × Int) => 0 ≤ s.2.2 ∧ s.2.2 ≤ 6) (fun s => (6 - s.2.2).toNat) ?_ _ _ ⟨by (try dsimp only [w32]); omega, by (try dsimp only [w32]); omega⟩ (by unfold BIG; (try dsimp only [w32]); omega)
      rintro rec10 s11 ⟨hl_s11, hu_s11⟩ hr_rec10
      refine TT.ite (fun c3 => ?_) (fun c3 => ?_)
      · refine TT.bind (cell_T (by omega) (by omega) (by omega) (by omega)) (fun r13 h_r13 => ?_)
        refine TT.guard ⟨(by rw [tp2_ hT_M ha]; exact tk2_ hT_M ha), by omega, by rw [tp2_ hT_M ha, tl2_ hT_M ha]; omega⟩ ?_
        refine TT.ite (fun c4 => ?_) (fun c4 => ?_)
        · try rw [w32_of (x := s4.1.tdiv (M.1 a 0)) (by omega) (by omega)] at c4
          refine TT.bind (cell_T (by omega) (by omega) (by omega) (by omega)) (fun r17 h_r17 => ?_)
          refine TT.guard ⟨(by rw [tp2_ hT_M ha]; exact tk2_ hT_M ha), by omega, by rw [tp2_ hT_M ha, tl2_ hT_M ha]; omega⟩ ?_
          exact hr_rec10 _ ⟨by (try dsimp only [w32]); omega, by (try dsimp only [w32]); omega⟩ (by (try dsimp only [w32]); omega)
        · try rw [w32_of (x := s4.1.tdiv (M.1 a 0)) (by omega) (by omega)] at c4
          exact hr_rec10 _ ⟨by (try dsimp only [w32]); omega, by (try dsimp only [w32]); omega⟩ (by (try dsimp only [w32]); omega)
      · refine TT.guard (by first | omega | (simp only [w32]; omega)) ?_
        exact TT.ok trivial
set_option maxHeartbeats 1000000 in
theorem limitOf_T (hT_M : WT M) {a : Int} (ha : TA a) (x : Int) : TT (fX7_limitOf M a x) (fun r => True) := by
  unfold fX7_limitOf
  have hh0 := td0_ hT_M ha
  have hh1 := td1_ hT_M ha
  refine TT.iter (fun (s : Int × Int) => 0 ≤ s.2 ∧ s.2 ≤ 4) (fun s => (4 - s.2).toNat) ?_ _ _ ⟨by (try dsimp only [w32]); omega, by (try dsimp only [w32]); omega⟩ (by unfold BIG; (try dsimp only [w32]); omega)
  rintro rec1 s2 ⟨hl_s2, hu_s2⟩ hr_rec1
  refine TT.guard (tk hT_M ha) ?_
  refine TT.ite (fun c1 => ?_) (fun c1 => ?_)
  · refine TT.ite (fun c2 => ?_) (fun c2 => ?_)
    · refine TT.guard ⟨(by rw [tp8_ hT_M ha]; exact tk8_ hT_M ha), by omega, by rw [tp8_ hT_M ha, tl8_ hT_M ha]; omega⟩ ?_
      exact hr_rec1 _ ⟨by (try dsimp only [w32]); omega, by (try dsimp only [w32]); omega⟩ (by (try dsimp only [w32]); omega)
    · exact hr_rec1 _ ⟨by (try dsimp only [w32]); omega, by (try dsimp only [w32]); omega⟩ (by (try dsimp only [w32]); omega)
  · exact TT.ok trivial
theorem bitCount_T (x : Int) : TT (fJ6_bitCount_0f7a4 M x) (fun r => True) := ⟨_, rfl, trivial⟩
set_option maxHeartbeats 1000000 in
theorem crewFor_T (hT_M : WT M) {a : Int} (ha : TA a) (n : Int) : TT (fX7_crewFor M a n) (fun r => True) := by
  unfold fX7_crewFor
  have hh0 := td0_ hT_M ha
  have hh1 := td1_ hT_M ha
  have hb := shl1 hh1.1 hh1.2
  refine TT.iter (fun (s : Int × Int) => 1 ≤ s.2 ∧ s.2 ≤ 16) (fun s => (16 - s.2).toNat) ?_ _ _ ⟨by (try dsimp only [w32]); omega, by (try dsimp only [w32]); omega⟩ (by unfold BIG; (try dsimp only [w32]); omega)
  rintro rec1 s2 ⟨hl_s2, hu_s2⟩ hr_rec1
  refine TT.guard (tk hT_M ha) ?_
  refine TT.ite (fun c1 => ?_) (fun c1 => ?_)
  · refine TT.jI ?_
    refine TT.jI ?_
    refine TT.ite (fun c2 => ?_) (fun c2 => ?_)
    · refine TT.ite (fun c3 => ?_) (fun c3 => ?_)
      · exact hr_rec1 _ ⟨by (try dsimp only [w32]); omega, by (try dsimp only [w32]); omega⟩ (by (try dsimp only [w32]); omega)
      · refine TT.bind (limitOf_T hT_M ha _ ) (fun r8 h_r8 => ?_)
        refine TT.ite (fun c4 => ?_) (fun c4 => ?_)
        · exact hr_rec1 _ ⟨by (try dsimp only [w32]); omega, by (try dsimp only [w32]); omega⟩ (by (try dsimp only [w32]); omega)
        · exact hr_rec1 _ ⟨by (try dsimp only [w32]); omega, by (try dsimp only [w32]); omega⟩ (by (try dsimp only [w32]); omega)
    · refine TT.bind (bitCount_T _) (fun r14 h_r14 => ?_)
      refine TT.bind (bitCount_T _) (fun r16 h_r16 => ?_)
      refine TT.ite (fun c5 => ?_) (fun c5 => ?_)
      · refine TT.ite (fun c6 => ?_) (fun c6 => ?_)
        · exact hr_rec1 _ ⟨by (try dsimp only [w32]); omega, by (try dsimp only [w32]); omega⟩ (by (try dsimp only [w32]); omega)
        · refine TT.bind (limitOf_T hT_M ha _ ) (fun r8 h_r8 => ?_)
          refine TT.ite (fun c7 => ?_) (fun c7 => ?_)
          · exact hr_rec1 _ ⟨by (try dsimp only [w32]); omega, by (try dsimp only [w32]); omega⟩ (by (try dsimp only [w32]); omega)
          · exact hr_rec1 _ ⟨by (try dsimp only [w32]); omega, by (try dsimp only [w32]); omega⟩ (by (try dsimp only [w32]); omega)
      · refine TT.ite (fun c8 => ?_) (fun c8 => ?_)
        · exact hr_rec1 _ ⟨by (try dsimp only [w32]); omega, by (try dsimp only [w32]); omega⟩ (by (try dsimp only [w32]); omega)
        · refine TT.bind (limitOf_T hT_M ha _ ) (fun r8 h_r8 => ?_)
          refine TT.ite (fun c9 => ?_) (fun c9 => ?_)
          · exact hr_rec1 _ ⟨by (try dsimp only [w32]); omega, by (try dsimp only [w32]); omega⟩ (by (try dsimp only [w32]); omega)
          · exact hr_rec1 _ ⟨by (try dsimp only [w32]); omega, by (try dsimp only [w32]); omega⟩ (by (try dsimp only [w32]); omega)
  · exact TT.ok trivial
set_option maxHeartbeats 1000000 in
theorem helps_T (hT_M : WT M) {a : Int} (ha : TA a) (x y : Int) (hx : 0 ≤ x ∧ x < 6) (hy : 0 ≤ y ∧ y < 6) : TT (fX7_helps M a x y) (fun r => True) := by
  unfold fX7_helps
  refine TT.iter (fun (s : Int) => 0 ≤ s ∧ s ≤ 5) (fun s => (5 - s).toNat) ?_ _ _ ⟨by (try dsimp only [w32]); omega, by (try dsimp only [w32]); omega⟩ (by unfold BIG; (try dsimp only [w32]); omega)
  rintro rec1 s2 ⟨hl_s2, hu_s2⟩ hr_rec1
  refine TT.ite (fun c1 => ?_) (fun c1 => ?_)
  · refine TT.guard (tk hT_M ha) ?_
    refine TT.bind (spareOf_T hT_M ha _ _ (by omega) (by omega)) (fun r4 h_r4 => ?_)
    refine TT.ite (fun c2 => ?_) (fun c2 => ?_)
    · refine TT.bind (lackOf_T hT_M ha _ _ (by omega) (by omega)) (fun r8 h_r8 => ?_)
      refine TT.ite (fun c3 => ?_) (fun c3 => ?_)
      · exact TT.ok trivial
      · exact hr_rec1 _ ⟨by (try dsimp only [w32]); omega, by (try dsimp only [w32]); omega⟩ (by (try dsimp only [w32]); omega)
    · exact hr_rec1 _ ⟨by (try dsimp only [w32]); omega, by (try dsimp only [w32]); omega⟩ (by (try dsimp only [w32]); omega)
  · exact TT.ok trivial
set_option maxHeartbeats 1000000 in
theorem pairAt_T (hT_M : WT M) {a : Int} (ha : TA a) (k : Int) : TT (fX7_pairAt M a k) (fun r => True) := by
  unfold fX7_pairAt
  have hh0 := td0_ hT_M ha
  have hh1 := td1_ hT_M ha
  refine TT.iter (fun (s : Int × Int) => 0 ≤ s.2 ∧ s.2 ≤ 6) (fun s => (6 - s.2).toNat) ?_ _ _ ⟨by (try dsimp only [w32]); omega, by (try dsimp only [w32]); omega⟩ (by unfold BIG; (try dsimp only [w32]); omega)
  rintro rec1 s2 ⟨hl_s2, hu_s2⟩ hr_rec1
  refine TT.guard (tk hT_M ha) ?_
  refine TT.ite (fun c1 => ?_) (fun c1 => ?_)
  · refine TT.iter (fun (s : Int × Int) => 1 ≤ s.2 ∧ s.2 ≤ 7) (fun s => (7 - s.2).toNat) ?_ _ _ ⟨by (try dsimp only [w32]); omega, by (try dsimp only [w32]); omega⟩ (by unfold BIG; (try dsimp only [w32]); omega)
    rintro rec5 s6 ⟨hl_s6, hu_s6⟩ hr_rec5
    refine TT.ite (fun c2 => ?_) (fun c2 => ?_)
    · refine TT.bind (helps_T hT_M ha _ _ (by omega) (by omega)) (fun r8 h_r8 => ?_)
      refine TT.ite (fun c3 => ?_) (fun c3 => ?_)
      · exact hr_rec5 _ ⟨by (try dsimp only [w32]); omega, by (try dsimp only [w32]); omega⟩ (by (try dsimp only [w32]); omega)
      · refine TT.bind (helps_T hT_M ha _ _ (by omega) (by omega)) (fun r11 h_r11 => ?_)
        refine TT.ite (fun c4 => ?_) (fun c4 => ?_)
        · exact hr_rec5 _ ⟨by (try dsimp only [w32]); omega, by (try dsimp only [w32]); omega⟩ (by (try dsimp only [w32]); omega)
        · refine TT.ite (fun c5 => ?_) (fun c5 => ?_)
          · exact TT.ok trivial
          · exact hr_rec5 _ ⟨by (try dsimp only [w32]); omega, by (try dsimp only [w32]); omega⟩ (by (try dsimp only [w32]); omega)
    · exact hr_rec1 _ ⟨by (try dsimp only [w32]); omega, by (try dsimp only [w32]); omega⟩ (by (try dsimp only [w32]); omega)
  · refine TT.ite (fun c6 => ?_) (fun c6 => ?_)
    · exact TT.ok trivial
    · exact TT.ok trivial
set_option maxHeartbeats 1000000 in
theorem homeAgain_T (hT_M : WT M) {a : Int} (ha : TA a) (h : Int) (hh : 0 ≤ h ∧ h < 6) : TT (fX7_homeAgain M a h) (fun r => True) := by
  unfold fX7_homeAgain
  refine TT.iter (fun (s : Int × Int) => (1 ≤ s.2 ∧ s.2 ≤ 7) ∧ 0 ≤ s.1 ∧ s.1 < 6) (fun s => (7 - s.2).toNat) ?_ _ _ (by (try dsimp only [w32]); omega) (by unfold BIG; (try dsimp only [w32]); omega)
  rintro rec1 s2 ⟨⟨hl1, hu1⟩, hl2, hu2⟩ hr_rec1
  have hp := td5_ hT_M ha (i := s2.1) (by omega) (by omega)
  rw [← tp5_ hT_M ha] at hp
  refine TT.ite (fun c1 => ?_) (fun c1 => ?_)
  · exact TT.ok trivial
  · refine TT.guard (tk hT_M ha) ?_
    refine TT.guard ⟨(by rw [tp5_ hT_M ha]; exact tk5_ hT_M ha), by omega, by rw [tp5_ hT_M ha, tl5_ hT_M ha]; omega⟩ ?_
    refine TT.ite (fun c2 => ?_) (fun c2 => ?_)
    · exact TT.ok trivial
    · exact hr_rec1 _ (by (try dsimp only [w32]); omega) (by (try dsimp only [w32]); omega)
set_option maxHeartbeats 1000000 in
theorem meeting_T (hT_M : WT M) {a : Int} (ha : TA a) (x y : Int) (hx : 0 ≤ x ∧ x < 6) (hy : 0 ≤ y ∧ y < 6) : TT (fX7_meeting M a x y) (fun r => True) := by
  unfold fX7_meeting
  refine TT.iter (fun (s : Int × Int × Int) => (0 ≤ s.2.2 ∧ s.2.2 ≤ 41) ∧ (0 ≤ s.1 ∧ s.1 < 6) ∧ 0 ≤ s.2.1 ∧ s.2.1 < 6) (fun s => (41 - s.2.2).toNat) ?_ _ _ (by (try dsimp only [w32]); omega) (by unfold BIG; (try dsimp only [w32]); omega)
  rintro rec1 s2 ⟨⟨hl1, hu1⟩, ⟨hl2, hu2⟩, hl3, hu3⟩ hr_rec1
  have hp := td5_ hT_M ha (i := s2.1) (by omega) (by omega)
  have hq := td5_ hT_M ha (i := s2.2.1) (by omega) (by omega)
  rw [← tp5_ hT_M ha] at hp hq
  refine TT.ite (fun c1 => ?_) (fun c1 => ?_)
  · exact TT.ok trivial
  · refine TT.ite (fun c2 => ?_) (fun c2 => ?_)
    · exact TT.ok trivial
    · refine TT.guard (tk hT_M ha) ?_
      refine TT.guard ⟨(by rw [tp5_ hT_M ha]; exact tk5_ hT_M ha), by omega, by rw [tp5_ hT_M ha, tl5_ hT_M ha]; omega⟩ ?_
      refine TT.guard ⟨(by rw [tp5_ hT_M ha]; exact tk5_ hT_M ha), by omega, by rw [tp5_ hT_M ha, tl5_ hT_M ha]; omega⟩ ?_
      exact hr_rec1 _ (by (try dsimp only [w32]); omega) (by (try dsimp only [w32]); omega)
set_option maxHeartbeats 1000000 in
theorem allHome_T (hT_M : WT M) {a : Int} (ha : TA a) : TT (fX7_allHome M a) (fun r => True) := by
  unfold fX7_allHome
  have hh0 := td0_ hT_M ha
  have hh1 := td1_ hT_M ha
  refine TT.iter (fun (s : Int × Int) => 0 ≤ s.2 ∧ s.2 ≤ 6) (fun s => (6 - s.2).toNat) ?_ _ _ ⟨by (try dsimp only [w32]); omega, by (try dsimp only [w32]); omega⟩ (by unfold BIG; (try dsimp only [w32]); omega)
  rintro rec1 s2 ⟨hl_s2, hu_s2⟩ hr_rec1
  refine TT.guard (tk hT_M ha) ?_
  refine TT.ite (fun c1 => ?_) (fun c1 => ?_)
  · refine TT.bind (homeAgain_T hT_M ha _ (by omega)) (fun r5 h_r5 => ?_)
    refine TT.bind (cd_loop _ _ _) (fun r7 h_r7 => ?_)
    refine TT.ite (fun c2 => ?_) (fun c2 => ?_)
    · exact TT.ok trivial
    · refine TT.ite (fun c3 => ?_) (fun c3 => ?_)
      · exact TT.ok trivial
      · refine TT.guard (by first | omega | (simp only [w32]; omega)) ?_
        exact hr_rec1 _ ⟨by (try dsimp only [w32]); omega, by (try dsimp only [w32]); omega⟩ (by (try dsimp only [w32]); omega)
  · exact TT.ok trivial
set_option maxHeartbeats 1000000 in
theorem prizeOf_T (hT_M : WT M) {a : Int} (ha : TA a) (x y : Int) (hx : 0 ≤ x ∧ x < 6) : TT (fX7_prizeOf M a x y) (fun r => True) := by
  unfold fX7_prizeOf
  refine TT.guard (tk hT_M ha) ?_
  refine TT.bind (worthIn_T hT_M ha (by rw [tp2_ hT_M ha]; exact tk2_ hT_M ha) (by rw [tp2_ hT_M ha]; exact tl2_ hT_M ha) _ (by omega) (by omega)) (fun r2 h_r2 => ?_)
  refine TT.ite (fun c1 => ?_) (fun c1 => ?_)
  · refine TT.guard ⟨(by rw [tp4_ hT_M ha]; exact tk4_ hT_M ha), by omega, by rw [tp4_ hT_M ha, tl4_ hT_M ha]; omega⟩ ?_
    exact TT.ok trivial
  · refine TT.guard ⟨(by rw [tp4_ hT_M ha]; exact tk4_ hT_M ha), by omega, by rw [tp4_ hT_M ha, tl4_ hT_M ha]; omega⟩ ?_
    exact TT.ok trivial
set_option maxHeartbeats 1000000 in
theorem isBest_T (hT_M : WT M) {a : Int} (ha : TA a) (x y : Int) (hx : 0 ≤ x ∧ x < 6) : TT (fX7_isBest M a x y) (fun r => True) := by
  unfold fX7_isBest
  have hh0 := td0_ hT_M ha
  have hh1 := td1_ hT_M ha
  refine TT.iter (fun (s : Int) => 0 ≤ s ∧ s ≤ 6) (fun s => (6 - s).toNat) ?_ _ _ ⟨by (try dsimp only [w32]); omega, by (try dsimp only [w32]); omega⟩ (by unfold BIG; (try dsimp only [w32]); omega)
  rintro rec1 s2 ⟨hl_s2, hu_s2⟩ hr_rec1
  refine TT.guard (tk hT_M ha) ?_
  refine TT.ite (fun c1 => ?_) (fun c1 => ?_)
  · refine TT.bind (prizeOf_T hT_M ha _ _ (by omega)) (fun r5 h_r5 => ?_)
    refine TT.bind (prizeOf_T hT_M ha _ _ (by omega)) (fun r7 h_r7 => ?_)
    refine TT.ite (fun c2 => ?_) (fun c2 => ?_)
    · exact TT.ok trivial
    · exact hr_rec1 _ ⟨by (try dsimp only [w32]); omega, by (try dsimp only [w32]); omega⟩ (by (try dsimp only [w32]); omega)
  · exact TT.ok trivial
set_option maxHeartbeats 1000000 in
theorem restAt_T (hT_M : WT M) {a : Int} (ha : TA a) (k : Int) : TT (fX7_restAt M a k) (fun r => True) := by
  unfold fX7_restAt
  have hh0 := td0_ hT_M ha
  have hh1 := td1_ hT_M ha
  refine TT.iter (fun (s : Int × Int) => 0 ≤ s.2 ∧ s.2 ≤ 6) (fun s => (6 - s.2).toNat) ?_ _ _ ⟨by (try dsimp only [w32]); omega, by (try dsimp only [w32]); omega⟩ (by unfold BIG; (try dsimp only [w32]); omega)
  rintro rec1 s2 ⟨hl_s2, hu_s2⟩ hr_rec1
  refine TT.guard (tk hT_M ha) ?_
  refine TT.ite (fun c1 => ?_) (fun c1 => ?_)
  · refine TT.iter (fun (s : Int × Int) => 0 ≤ s.2 ∧ s.2 ≤ 6) (fun s => (6 - s.2).toNat) ?_ _ _ ⟨by (try dsimp only [w32]); omega, by (try dsimp only [w32]); omega⟩ (by unfold BIG; (try dsimp only [w32]); omega)
    rintro rec5 s6 ⟨hl_s6, hu_s6⟩ hr_rec5
    refine TT.ite (fun c2 => ?_) (fun c2 => ?_)
    · refine TT.bind (isBest_T hT_M ha _ _ (by omega)) (fun r8 h_r8 => ?_)
      refine TT.ite (fun c3 => ?_) (fun c3 => ?_)
      · exact hr_rec5 _ ⟨by (try dsimp only [w32]); omega, by (try dsimp only [w32]); omega⟩ (by (try dsimp only [w32]); omega)
      · refine TT.bind (isBest_T hT_M ha _ _ (by omega)) (fun r11 h_r11 => ?_)
        refine TT.ite (fun c4 => ?_) (fun c4 => ?_)
        · exact hr_rec5 _ ⟨by (try dsimp only [w32]); omega, by (try dsimp only [w32]); omega⟩ (by (try dsimp only [w32]); omega)
        · refine TT.ite (fun c5 => ?_) (fun c5 => ?_)
          · exact TT.ok trivial
          · exact hr_rec5 _ ⟨by (try dsimp only [w32]); omega, by (try dsimp only [w32]); omega⟩ (by (try dsimp only [w32]); omega)
    · exact hr_rec1 _ ⟨by (try dsimp only [w32]); omega, by (try dsimp only [w32]); omega⟩ (by (try dsimp only [w32]); omega)
  · refine TT.ite (fun c6 => ?_) (fun c6 => ?_)
    · exact TT.ok trivial
    · exact TT.ok trivial
set_option maxHeartbeats 1000000 in
theorem isEnough_T (hT_M : WT M) {a : Int} (ha : TA a) : TT (fX5_isEnough M a) (fun r => True) := by
  unfold fX5_isEnough
  refine TT.iter (fun (s : Int) => 0 ≤ s ∧ s ≤ 5) (fun s => (5 - s).toNat) ?_ _ _ ⟨by (try dsimp only [w32]); omega, by (try dsimp only [w32]); omega⟩ (by unfold BIG; (try dsimp only [w32]); omega)
  rintro rec1 s2 ⟨hl_s2, hu_s2⟩ hr_rec1
  refine TT.ite (fun c1 => ?_) (fun c1 => ?_)
  · refine TT.guard (tk hT_M ha) ?_
    refine TT.bind (spareAll_T hT_M ha _ (by omega)) (fun r4 h_r4 => ?_)
    refine TT.bind (lackAll_T hT_M ha _ (by omega)) (fun r7 h_r7 => ?_)
    refine TT.ite (fun c2 => ?_) (fun c2 => ?_)
    · exact TT.ok trivial
    · exact hr_rec1 _ ⟨by (try dsimp only [w32]); omega, by (try dsimp only [w32]); omega⟩ (by (try dsimp only [w32]); omega)
  · exact TT.ok trivial
set_option maxHeartbeats 1000000 in
theorem takenFrom_T (hT_M : WT M) {a : Int} (ha : TA a) (h g : Int) (hh : 0 ≤ h ∧ h < 6) (hg : 0 ≤ g ∧ g < 5) : TT (fX5_takenFrom M a h g) (fun r => True) := by
  unfold fX5_takenFrom
  have hh0 := td0_ hT_M ha
  have hh1 := td1_ hT_M ha
  refine TT.guard (tk hT_M ha) ?_
  refine TT.bind (lackAll_T hT_M ha _ (by omega)) (fun r1 h_r1 => ?_)
  refine TT.iter (fun (s : Int × Int) => 0 ≤ s.2 ∧ s.2 ≤ 6) (fun s => (6 - s.2).toNat) ?_ _ _ ⟨by (try dsimp only [w32]); omega, by (try dsimp only [w32]); omega⟩ (by unfold BIG; (try dsimp only [w32]); omega)
  rintro rec4 s5 ⟨hl_s5, hu_s5⟩ hr_rec4
  refine TT.ite (fun c1 => ?_) (fun c1 => ?_)
  · refine TT.guard ⟨(by rw [tp4_ hT_M ha]; exact tk4_ hT_M ha), by omega, by rw [tp4_ hT_M ha, tl4_ hT_M ha]; omega⟩ ?_
    refine TT.guard ⟨(by rw [tp4_ hT_M ha]; exact tk4_ hT_M ha), by omega, by rw [tp4_ hT_M ha, tl4_ hT_M ha]; omega⟩ ?_
    refine TT.jI ?_
    refine TT.jI ?_
    refine TT.ite (fun c2 => ?_) (fun c2 => ?_)
    · refine TT.ite (fun c3 => ?_) (fun c3 => ?_)
      · exact hr_rec4 _ ⟨by (try dsimp only [w32]); omega, by (try dsimp only [w32]); omega⟩ (by (try dsimp only [w32]); omega)
      · refine TT.bind (spareOf_T hT_M ha _ _ (by omega) (by omega)) (fun r12 h_r12 => ?_)
        exact hr_rec4 _ ⟨by (try dsimp only [w32]); omega, by (try dsimp only [w32]); omega⟩ (by (try dsimp only [w32]); omega)
    · refine TT.guard ⟨(by rw [tp4_ hT_M ha]; exact tk4_ hT_M ha), by omega, by rw [tp4_ hT_M ha, tl4_ hT_M ha]; omega⟩ ?_
      refine TT.guard ⟨(by rw [tp4_ hT_M ha]; exact tk4_ hT_M ha), by omega, by rw [tp4_ hT_M ha, tl4_ hT_M ha]; omega⟩ ?_
      refine TT.jI ?_
      refine TT.ite (fun c4 => ?_) (fun c4 => ?_)
      · refine TT.ite (fun c5 => ?_) (fun c5 => ?_)
        · refine TT.ite (fun c6 => ?_) (fun c6 => ?_)
          · exact hr_rec4 _ ⟨by (try dsimp only [w32]); omega, by (try dsimp only [w32]); omega⟩ (by (try dsimp only [w32]); omega)
          · refine TT.bind (spareOf_T hT_M ha _ _ (by omega) (by omega)) (fun r12 h_r12 => ?_)
            exact hr_rec4 _ ⟨by (try dsimp only [w32]); omega, by (try dsimp only [w32]); omega⟩ (by (try dsimp only [w32]); omega)
        · refine TT.ite (fun c7 => ?_) (fun c7 => ?_)
          · exact hr_rec4 _ ⟨by (try dsimp only [w32]); omega, by (try dsimp only [w32]); omega⟩ (by (try dsimp only [w32]); omega)
          · refine TT.bind (spareOf_T hT_M ha _ _ (by omega) (by omega)) (fun r12 h_r12 => ?_)
            exact hr_rec4 _ ⟨by (try dsimp only [w32]); omega, by (try dsimp only [w32]); omega⟩ (by (try dsimp only [w32]); omega)
      · refine TT.ite (fun c8 => ?_) (fun c8 => ?_)
        · exact hr_rec4 _ ⟨by (try dsimp only [w32]); omega, by (try dsimp only [w32]); omega⟩ (by (try dsimp only [w32]); omega)
        · refine TT.bind (spareOf_T hT_M ha _ _ (by omega) (by omega)) (fun r12 h_r12 => ?_)
          exact hr_rec4 _ ⟨by (try dsimp only [w32]); omega, by (try dsimp only [w32]); omega⟩ (by (try dsimp only [w32]); omega)
  · refine TT.bind (spareOf_T hT_M ha _ _ (by omega) (by omega)) (fun r23 h_r23 => ?_)
    exact TT.ok trivial
set_option maxHeartbeats 1000000 in
theorem nightsFor_T (x y : Int) : TT (fX5_nightsFor M x y) (fun r => True) := by
  unfold fX5_nightsFor
  refine TT.ite (fun c1 => ?_) (fun c1 => ?_)
  · exact TT.ok trivial
  · refine TT.ite (fun c2 => ?_) (fun c2 => ?_)
    · refine TT.guard (by first | omega | (simp only [w32]; omega)) ?_
      exact TT.ok trivial
    · exact TT.ok trivial
end Views
