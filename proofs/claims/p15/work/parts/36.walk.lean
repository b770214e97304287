/-! the walk: no call ends in none -/
def Any (_ : Int) : Prop := True
def WK (M N : Mem) : Prop := Keep M N ∧ N.1 68 0 = M.1 68 0 ∧ N.1 68 1 = M.1 68 1 ∧ N.1 68 15 = M.1 68 15
theorem WK.self (M : Mem) : WK M M := ⟨Keep.self, rfl, rfl, rfl⟩
theorem WK.trans {M N O : Mem} (h : WK M N) (g : WK N O) : WK M O := ⟨h.1.trans g.1, g.2.1.trans h.2.1, g.2.2.1.trans h.2.2.1, g.2.2.2.trans h.2.2.2⟩
theorem WK.st {M N : Mem} (h : WK M N) {a i v : Int} (hs : scr a i = true) (h6 : a ≠ 68 ∨ (2 ≤ i ∧ i ≠ 15)) : WK M (mst N a i v) := by
  refine ⟨h.1.st hs, ?_, ?_, ?_⟩
  · rw [mst_r, if_neg (by rintro ⟨e1, e2⟩; omega)]; exact h.2.1
  · rw [mst_r, if_neg (by rintro ⟨e1, e2⟩; omega)]; exact h.2.2.1
  · rw [mst_r, if_neg (by rintro ⟨e1, e2⟩; omega)]; exact h.2.2.2
section Walk
variable {ρ : Type} {M M0 : Mem} {Q : ρ → Prop}
/-- a store into the walk's own cells -/
theorem TT.stw {a i v : Int} {f : Mem → Option ρ} (hW : WK M0 M) (hT : WT M) (hA : TA (M.1 68 0)) (hL : LWA (M.1 68 1)) (hs : scr a i = true ∧ (a ≠ 68 ∨ (2 ≤ i ∧ i ≠ 15)))
    (k : ∀ N, N = mst M a i v → WK M0 N → WT N → TA (N.1 68 0) → LWA (N.1 68 1) → TT (f N) Q) : TT (bM (mst M a i v) f) Q := by
  have h1 := (WK.self M).st (v := v) hs.1 hs.2
  refine k _ rfl (hW.st hs.1 hs.2) (hT.keep h1.1) ?_ ?_
  · rw [h1.2.1]; exact hA
  · rw [h1.2.2.1]; exact hL
theorem TT.bw {X : Option (Int × Mem)} {f : Int × Mem → Option ρ} {P : Int → Prop} (hW : WK M0 M) (hT : WT M) (hA : TA (M.1 68 0)) (hL : LWA (M.1 68 1)) (h : TT X (fun r => P r.1 ∧ WK M r.2))
    (k : ∀ r, P r.1 → WK M0 r.2 → WT r.2 → TA (r.2.1 68 0) → LWA (r.2.1 68 1) → TT (f r) Q) : TT (X.bind f) Q := by
  refine TT.bind h (fun r h1 => k r h1.1 (hW.trans h1.2) (hT.keep h1.2.1) ?_ ?_)
  · rw [h1.2.2.1]; exact hA
  · rw [h1.2.2.2.1]; exact hL
theorem TT.bv {X : Option Mem} {f : Mem → Option ρ} (hW : WK M0 M) (hT : WT M) (hA : TA (M.1 68 0)) (hL : LWA (M.1 68 1)) (h : TT X (fun r => WK M r))
    (k : ∀ r, WK M0 r → WT r → TA (r.1 68 0) → LWA (r.1 68 1) → TT (f r) Q) : TT (X.bind f) Q := by
  refine TT.bind h (fun r h1 => k r (hW.trans h1) (hT.keep h1.1) ?_ ?_)
  · rw [h1.2.1]; exact hA
  · rw [h1.2.2.1]; exact hL
theorem lk (h : WT M) {a : Int} (ha : LWA a) : M.2.1 a = 0 := by rcases ha with rfl | rfl <;> first | exact wk17 h | exact wk36 h
theorem nk (h : WT M) {a : Int} (ha : NTA a) : M.2.1 a = 1 := by rcases ha with rfl | rfl <;> first | exact wk18 h | exact wk37 h
theorem np1_ (h : WT M) {a : Int} (ha : NTA a) : M.1 a 1 = a + 1 := by rcases ha with rfl | rfl <;> first | exact wp18_1 h | exact wp37_1 h
theorem nk1_ (h : WT M) {a : Int} (ha : NTA a) : M.2.1 (a + 1) = 12 := by rcases ha with rfl | rfl <;> first | exact wk19 h | exact wk38 h
theorem nl1_ (h : WT M) {a : Int} (ha : NTA a) : M.2.2.1 (a + 1) = 40 := by rcases ha with rfl | rfl <;> first | exact wl19 h | exact wl38 h
theorem np2_ (h : WT M) {a : Int} (ha : NTA a) : M.1 a 2 = a + 2 := by rcases ha with rfl | rfl <;> first | exact wp18_2 h | exact wp37_2 h
theorem nk2_ (h : WT M) {a : Int} (ha : NTA a) : M.2.1 (a + 2) = 12 := by rcases ha with rfl | rfl <;> first | exact wk20 h | exact wk39 h
theorem nl2_ (h : WT M) {a : Int} (ha : NTA a) : M.2.2.1 (a + 2) = 40 := by rcases ha with rfl | rfl <;> first | exact wl20 h | exact wl39 h
theorem np3_ (h : WT M) {a : Int} (ha : NTA a) : M.1 a 3 = a + 3 := by rcases ha with rfl | rfl <;> first | exact wp18_3 h | exact wp37_3 h
theorem nk3_ (h : WT M) {a : Int} (ha : NTA a) : M.2.1 (a + 3) = 12 := by rcases ha with rfl | rfl <;> first | exact wk21 h | exact wk40 h
theorem nl3_ (h : WT M) {a : Int} (ha : NTA a) : M.2.2.1 (a + 3) = 40 := by rcases ha with rfl | rfl <;> first | exact wl21 h | exact wl40 h
theorem np4_ (h : WT M) {a : Int} (ha : NTA a) : M.1 a 4 = a + 4 := by rcases ha with rfl | rfl <;> first | exact wp18_4 h | exact wp37_4 h
theorem nk4_ (h : WT M) {a : Int} (ha : NTA a) : M.2.1 (a + 4) = 12 := by rcases ha with rfl | rfl <;> first | exact wk22 h | exact wk41 h
theorem nl4_ (h : WT M) {a : Int} (ha : NTA a) : M.2.2.1 (a + 4) = 40 := by rcases ha with rfl | rfl <;> first | exact wl22 h | exact wl41 h
theorem isGood_T (g : Int) : TT (fX10_isGood M g) (fun r => PB r (0 ≤ g ∧ g < 5)) := by
  unfold fX10_isGood
  exact TT.ite (fun _ => TT.ok PB.no) (fun _ => TT.ite (fun _ => TT.ok (PB.yes (by omega))) (fun _ => TT.ok PB.no))
theorem cell_T {h g : Int} (h0 : 0 ≤ h) (h1 : h < 6) (h2 : 0 ≤ g) (h3 : g < 5) : TT (fX10_cell M h g) (fun r => r = 5 * h + g ∧ 0 ≤ r ∧ r < 30) := by
  unfold fX10_cell
  refine TT.ok ?_
  rw [w32_of (x := 5 * h) (by omega) (by omega), w32_of (x := 5 * h + g) (by omega) (by omega)]; omega
theorem cell3_T {t h g : Int} (t0 : 0 ≤ t) (t1 : t < 4) (h0 : 0 ≤ h) (h1 : h < 6) (h2 : 0 ≤ g) (h3 : g < 5) : TT (fX10_cell_ M t h g) (fun r => r = 30 * t + 5 * h + g ∧ 0 ≤ r ∧ r < 120) := by
  unfold fX10_cell_
  refine TT.ok ?_
  rw [w32_of (x := 30 * t) (by omega) (by omega), w32_of (x := 5 * h) (by omega) (by omega), w32_of (x := 30 * t + 5 * h) (by omega) (by omega), w32_of (x := 30 * t + 5 * h + g) (by omega) (by omega)]; omega
theorem isHouse_T (hT : WT M) {a : Int} (ha : TA a) (h : Int) : TT (fX7_isHouse M a h) (fun r => PB r (0 ≤ h ∧ h < 6 ∧ h < M.1 a 0)) := by
  unfold fX7_isHouse
  exact TT.ite (fun _ => TT.ok PB.no) (fun _ => TT.guard (tk hT ha) (TT.ite (fun _ => TT.ite (fun _ => TT.ok (PB.yes (by omega))) (fun _ => TT.ok PB.no)) (fun _ => TT.ok PB.no)))
theorem isThief_T (hT : WT M) {a : Int} (ha : TA a) (h : Int) : TT (fX7_isThief M a h) (fun r => PB r (0 ≤ h ∧ h < 4 ∧ h < M.1 a 1)) := by
  unfold fX7_isThief
  exact TT.ite (fun _ => TT.ok PB.no) (fun _ => TT.guard (tk hT ha) (TT.ite (fun _ => TT.ite (fun _ => TT.ok (PB.yes (by omega))) (fun _ => TT.ok PB.no)) (fun _ => TT.ok PB.no)))
set_option maxHeartbeats 1000000 in
theorem isFree_T (hT_M : WT M) (hA_M : TA (M.1 68 0)) (hL_M : LWA (M.1 68 1)) (t : Int) : TT (fX9_isFree M 68 t) (fun r => PB r (0 ≤ t ∧ t < 4)) := by
  unfold fX9_isFree
  refine TT.guard (wk68 hT_M) ?_
  refine TT.guard (tk hT_M hA_M) ?_
  refine TT.bind (isThief_T hT_M hA_M _) (fun r2 h_r2 => ?_)
  refine TT.ite (fun c1 => ?_) (fun c1 => ?_)
  · exact TT.ok PB.no
  · have g_r2 := h_r2.use c1
    refine TT.ite (fun c2 => ?_) (fun c2 => ?_)
    · exact TT.ok (PB.yes (by omega))
    · exact TT.ok PB.no
set_option maxHeartbeats 1000000 in
theorem dueOf_T (hT_M : WT M) {a : Int} (ha : LWA a) (t : Int) : TT (fX0_dueOf M a t) (fun r => True) := by
  unfold fX0_dueOf
  refine TT.guard (lk hT_M ha) ?_
  refine TT.ite (fun c1 => ?_) (fun c1 => ?_)
  · refine TT.guard (by first | omega | (simp only [w32]; omega)) ?_
    exact TT.ok trivial
  · exact TT.ok trivial
set_option maxHeartbeats 1000000 in
theorem oddOf_T (hT_M : WT M) {a : Int} (ha : LWA a) (t : Int) : TT (fX0_oddOf M a t) (fun r => True) := by
  unfold fX0_oddOf
  refine TT.guard (lk hT_M ha) ?_
  refine TT.ite (fun c1 => ?_) (fun c1 => ?_)
  · refine TT.guard (by first | omega | (simp only [w32]; omega)) ?_
    exact TT.ok trivial
  · exact TT.ok trivial
set_option maxHeartbeats 1000000 in
theorem counts_T (hT_M : WT M) {a : Int} (ha : LWA a) (t : Int) : TT (fX0_counts M a t) (fun r => True) := by
  unfold fX0_counts
  refine TT.ite (fun c1 => ?_) (fun c1 => ?_)
  · exact TT.ok trivial
  · refine TT.ite (fun c2 => ?_) (fun c2 => ?_)
    · refine TT.guard (lk hT_M ha) ?_
      exact TT.ok trivial
    · exact TT.ok trivial
set_option maxHeartbeats 1000000 in
theorem owesOf_T (hT_M : WT M) (hA_M : TA (M.1 68 0)) (hL_M : LWA (M.1 68 1)) (t : Int) (ht : 0 ≤ t ∧ t < 4) : TT (fX9_owesOf M 68 t) (fun r => True) := by
  unfold fX9_owesOf
  refine TT.guard (wk68 hT_M) ?_
  refine TT.guard ⟨(by rw [wp68_6 hT_M]; exact wk73 hT_M), by omega, by rw [wp68_6 hT_M, wl73 hT_M]; omega⟩ ?_
  refine TT.guard (lk hT_M hL_M) ?_
  refine TT.bind (dueOf_T hT_M hL_M _) (fun r3 h_r3 => ?_)
  refine TT.guard ⟨(by rw [wp68_7 hT_M]; exact wk74 hT_M), by omega, by rw [wp68_7 hT_M, wl74 hT_M]; omega⟩ ?_
  exact TT.ok trivial
set_option maxHeartbeats 1000000 in
theorem takesGift_T (hT_M : WT M) (hA_M : TA (M.1 68 0)) (hL_M : LWA (M.1 68 1)) (t h g : Int) (ht : 0 ≤ t ∧ t < 4) (hh : 0 ≤ h ∧ h < 6) (hg : 0 ≤ g ∧ g < 5) : TT (fX9_takesGift M 68 t h g) (fun r => B01 r) := by
  unfold fX9_takesGift
  refine TT.bind (cell_T (by omega) (by omega) (by omega) (by omega)) (fun r1 h_r1 => ?_)
  refine TT.guard (wk68 hT_M) ?_
  refine TT.guard (tk hT_M hA_M) ?_
  refine TT.guard ⟨(by rw [tp3_ hT_M hA_M]; exact tk3_ hT_M hA_M), by omega, by rw [tp3_ hT_M hA_M, tl3_ hT_M hA_M]; omega⟩ ?_
  refine TT.guard ⟨(by rw [wp68_2 hT_M]; exact wk69 hT_M), by omega, by rw [wp68_2 hT_M, wl69 hT_M]; omega⟩ ?_
  refine TT.ite (fun c1 => ?_) (fun c1 => ?_)
  · refine TT.bind (cell3_T (by omega) (by omega) (by omega) (by omega) (by omega) (by omega)) (fun r8 h_r8 => ?_)
    refine TT.guard ⟨(by rw [wp68_4 hT_M]; exact wk71 hT_M), by omega, by rw [wp68_4 hT_M, wl71 hT_M]; omega⟩ ?_
    refine TT.ite (fun c2 => ?_) (fun c2 => ?_)
    · exact TT.ok (Or.inr rfl)
    · exact TT.ok (Or.inl rfl)
  · exact TT.ok (Or.inl rfl)
set_option maxHeartbeats 1000000 in
theorem areKin_T (hT_M : WT M) {a : Int} (ha : TA a) (x y : Int) (hx : 0 ≤ x ∧ x < 4) (hy : 0 ≤ y ∧ y < 4) : TT (fX7_areKin M a x y) (fun r => B01 r) := by
  unfold fX7_areKin
  refine TT.guard (tk hT_M ha) ?_
  refine TT.guard ⟨(by rw [tp9_ hT_M ha]; exact tk9_ hT_M ha), by omega, by rw [tp9_ hT_M ha, tl9_ hT_M ha]; omega⟩ ?_
  refine TT.ite (fun c1 => ?_) (fun c1 => ?_)
  · exact TT.ok (Or.inr rfl)
  · refine TT.guard ⟨(by rw [tp9_ hT_M ha]; exact tk9_ hT_M ha), by omega, by rw [tp9_ hT_M ha, tl9_ hT_M ha]; omega⟩ ?_
    refine TT.ite (fun c2 => ?_) (fun c2 => ?_)
    · exact TT.ok (Or.inr rfl)
    · exact TT.ok (Or.inl rfl)
set_option maxHeartbeats 1000000 in
theorem takeOne_T (hT_M : WT M) (hA_M : TA (M.1 68 0)) (hL_M : LWA (M.1 68 1)) (t h g : Int) : TT (fX9_takeOne M 68 t h g) (fun r => B01 r.1 ∧ WK M r.2) := by
  unfold fX9_takeOne
  have hW_M := WK.self M
  refine TT.guard (wk68 hT_M) ?_
  refine TT.bind (isFree_T hT_M hA_M hL_M _) (fun r1 h_r1 => ?_)
  refine TT.ite (fun c1 => ?_) (fun c1 => ?_)
  · exact TT.ok ⟨Or.inl rfl, hW_M⟩
  · have g_r1 := h_r1.use c1
    refine TT.guard (tk hT_M hA_M) ?_
    refine TT.bind (isHouse_T hT_M hA_M _) (fun r5 h_r5 => ?_)
    refine TT.ite (fun c2 => ?_) (fun c2 => ?_)
    · exact TT.ok ⟨Or.inl rfl, hW_M⟩
    · have g_r5 := h_r5.use c2
      refine TT.bind (isGood_T _) (fun r9 h_r9 => ?_)
      refine TT.ite (fun c3 => ?_) (fun c3 => ?_)
      · exact TT.ok ⟨Or.inl rfl, hW_M⟩
      · have g_r9 := h_r9.use c3
        refine TT.bind (cell_T (by omega) (by omega) (by omega) (by omega)) (fun r12 h_r12 => ?_)
        refine TT.guard ⟨(by rw [wp68_2 hT_M]; exact wk69 hT_M), by omega, by rw [wp68_2 hT_M, wl69 hT_M]; omega⟩ ?_
        refine TT.ite (fun c4 => ?_) (fun c4 => ?_)
        · exact TT.ok ⟨Or.inl rfl, hW_M⟩
        · refine TT.guard ⟨(by rw [wp68_9 hT_M]; exact wk76 hT_M), by omega, by rw [wp68_9 hT_M, wl76 hT_M]; omega⟩ ?_
          refine TT.guard ⟨(by rw [tp8_ hT_M hA_M]; exact tk8_ hT_M hA_M), by omega, by rw [tp8_ hT_M hA_M, tl8_ hT_M hA_M]; omega⟩ ?_
          refine TT.ite (fun c5 => ?_) (fun c5 => ?_)
          · refine TT.bind (cell_T (by omega) (by omega) (by omega) (by omega)) (fun r19 h_r19 => ?_)
            refine TT.guard ⟨(by rw [wp68_2 hT_M]; exact wk69 hT_M), by omega, by rw [wp68_2 hT_M, wl69 hT_M]; omega⟩ ?_
            refine TT.guard ⟨(by rw [wp68_2 hT_M]; exact wk69 hT_M), by omega, by rw [wp68_2 hT_M, wl69 hT_M]; omega⟩ ?_
            refine TT.stw hW_M hT_M hA_M hL_M (by rw [wp68_2 hT_M]; exact ⟨rfl, Or.inl (by decide)⟩) (fun M23 e_M23 hW_M23 hT_M23 hA_M23 hL_M23 => ?_)
            refine TT.guard ⟨(by rw [wp68_3 hT_M23]; exact wk70 hT_M23), by rw [w32_of (x := 5 * t) (by omega) (by omega), w32_of (x := ((5 * t)) + g) (by omega) (by omega)]; omega, by rw [wp68_3 hT_M23, wl70 hT_M23, w32_of (x := 5 * t) (by omega) (by omega), w32_of (x := ((5 * t)) + g) (by omega) (by omega)]; omega⟩ ?_
            refine TT.guard ⟨(by rw [wp68_3 hT_M23]; exact wk70 hT_M23), by rw [w32_of (x := 5 * t) (by omega) (by omega), w32_of (x := ((5 * t)) + g) (by omega) (by omega)]; omega, by rw [wp68_3 hT_M23, wl70 hT_M23, w32_of (x := 5 * t) (by omega) (by omega), w32_of (x := ((5 * t)) + g) (by omega) (by omega)]; omega⟩ ?_
            refine TT.stw hW_M23 hT_M23 hA_M23 hL_M23 (by rw [wp68_3 hT_M23]; exact ⟨rfl, Or.inl (by decide)⟩) (fun M27 e_M27 hW_M27 hT_M27 hA_M27 hL_M27 => ?_)
            refine TT.bind (cell3_T (by omega) (by omega) (by omega) (by omega) (by omega) (by omega)) (fun r29 h_r29 => ?_)
            refine TT.guard ⟨(by rw [wp68_4 hT_M27]; exact wk71 hT_M27), by omega, by rw [wp68_4 hT_M27, wl71 hT_M27]; omega⟩ ?_
            refine TT.guard ⟨(by rw [wp68_4 hT_M27]; exact wk71 hT_M27), by omega, by rw [wp68_4 hT_M27, wl71 hT_M27]; omega⟩ ?_
            refine TT.stw hW_M27 hT_M27 hA_M27 hL_M27 (by rw [wp68_4 hT_M27]; exact ⟨rfl, Or.inl (by decide)⟩) (fun M33 e_M33 hW_M33 hT_M33 hA_M33 hL_M33 => ?_)
            refine TT.guard ⟨(by rw [wp68_6 hT_M33]; exact wk73 hT_M33), by omega, by rw [wp68_6 hT_M33, wl73 hT_M33]; omega⟩ ?_
            refine TT.guard ⟨(by rw [wp68_6 hT_M33]; exact wk73 hT_M33), by omega, by rw [wp68_6 hT_M33, wl73 hT_M33]; omega⟩ ?_
            refine TT.stw hW_M33 hT_M33 hA_M33 hL_M33 (by rw [wp68_6 hT_M33]; exact ⟨rfl, Or.inl (by decide)⟩) (fun M37 e_M37 hW_M37 hT_M37 hA_M37 hL_M37 => ?_)
            refine TT.guard ⟨(by rw [wp68_9 hT_M37]; exact wk76 hT_M37), by omega, by rw [wp68_9 hT_M37, wl76 hT_M37]; omega⟩ ?_
            refine TT.guard ⟨(by rw [wp68_9 hT_M37]; exact wk76 hT_M37), by omega, by rw [wp68_9 hT_M37, wl76 hT_M37]; omega⟩ ?_
            refine TT.stw hW_M37 hT_M37 hA_M37 hL_M37 (by rw [wp68_9 hT_M37]; exact ⟨rfl, Or.inl (by decide)⟩) (fun M41 e_M41 hW_M41 hT_M41 hA_M41 hL_M41 => ?_)
            refine TT.guard ⟨(by rw [wp68_11 hT_M41]; exact wk78 hT_M41), by omega, by rw [wp68_11 hT_M41, wl78 hT_M41]; omega⟩ ?_
            refine TT.stw hW_M41 hT_M41 hA_M41 hL_M41 (by rw [wp68_11 hT_M41]; exact ⟨rfl, Or.inl (by decide)⟩) (fun M44 e_M44 hW_M44 hT_M44 hA_M44 hL_M44 => ?_)
            refine TT.stw hW_M44 hT_M44 hA_M44 hL_M44 (⟨rfl, Or.inr ⟨by decide, by decide⟩⟩) (fun M46 e_M46 hW_M46 hT_M46 hA_M46 hL_M46 => ?_)
            exact TT.ok ⟨Or.inr rfl, hW_M46⟩
          · exact TT.ok ⟨Or.inl rfl, hW_M⟩
set_option maxHeartbeats 1000000 in
theorem giveOne_T (hT_M : WT M) (hA_M : TA (M.1 68 0)) (hL_M : LWA (M.1 68 1)) (t h g : Int) : TT (fX9_giveOne M 68 t h g) (fun r => B01 r.1 ∧ WK M r.2) := by
  unfold fX9_giveOne
  have hW_M := WK.self M
  refine TT.guard (wk68 hT_M) ?_
  refine TT.bind (isFree_T hT_M hA_M hL_M _) (fun r1 h_r1 => ?_)
  refine TT.ite (fun c1 => ?_) (fun c1 => ?_)
  · exact TT.ok ⟨Or.inl rfl, hW_M⟩
  · have g_r1 := h_r1.use c1
    refine TT.guard (tk hT_M hA_M) ?_
    refine TT.bind (isHouse_T hT_M hA_M _) (fun r5 h_r5 => ?_)
    refine TT.ite (fun c2 => ?_) (fun c2 => ?_)
    · exact TT.ok ⟨Or.inl rfl, hW_M⟩
    · have g_r5 := h_r5.use c2
      refine TT.bind (isGood_T _) (fun r9 h_r9 => ?_)
      refine TT.ite (fun c3 => ?_) (fun c3 => ?_)
      · exact TT.ok ⟨Or.inl rfl, hW_M⟩
      · have g_r9 := h_r9.use c3
        refine TT.guard ⟨(by rw [wp68_3 hT_M]; exact wk70 hT_M), by rw [w32_of (x := 5 * t) (by omega) (by omega), w32_of (x := ((5 * t)) + g) (by omega) (by omega)]; omega, by rw [wp68_3 hT_M, wl70 hT_M, w32_of (x := 5 * t) (by omega) (by omega), w32_of (x := ((5 * t)) + g) (by omega) (by omega)]; omega⟩ ?_
        refine TT.ite (fun c4 => ?_) (fun c4 => ?_)
        · try rw [w32_of (x := 5 * t) (by omega) (by omega)] at c4
          try rw [w32_of (x := ((5 * t)) + g) (by omega) (by omega)] at c4
          exact TT.ok ⟨Or.inl rfl, hW_M⟩
        · try rw [w32_of (x := 5 * t) (by omega) (by omega)] at c4
          try rw [w32_of (x := ((5 * t)) + g) (by omega) (by omega)] at c4
          refine TT.bind (takesGift_T hT_M hA_M hL_M _ _ _ (by omega) (by omega) (by omega)) (fun r14 h_r14 => ?_)
          refine TT.ite (fun c5 => ?_) (fun c5 => ?_)
          · exact TT.ok ⟨Or.inl rfl, hW_M⟩
          · refine TT.guard ⟨(by rw [wp68_3 hT_M]; exact wk70 hT_M), by rw [w32_of (x := 5 * t) (by omega) (by omega), w32_of (x := ((5 * t)) + g) (by omega) (by omega)]; omega, by rw [wp68_3 hT_M, wl70 hT_M, w32_of (x := 5 * t) (by omega) (by omega), w32_of (x := ((5 * t)) + g) (by omega) (by omega)]; omega⟩ ?_
            refine TT.guard ⟨(by rw [wp68_3 hT_M]; exact wk70 hT_M), by rw [w32_of (x := 5 * t) (by omega) (by omega), w32_of (x := ((5 * t)) + g) (by omega) (by omega)]; omega, by rw [wp68_3 hT_M, wl70 hT_M, w32_of (x := 5 * t) (by omega) (by omega), w32_of (x := ((5 * t)) + g) (by omega) (by omega)]; omega⟩ ?_
            refine TT.stw hW_M hT_M hA_M hL_M (by rw [wp68_3 hT_M]; exact ⟨rfl, Or.inl (by decide)⟩) (fun M19 e_M19 hW_M19 hT_M19 hA_M19 hL_M19 => ?_)
            refine TT.bind (cell_T (by omega) (by omega) (by omega) (by omega)) (fun r21 h_r21 => ?_)
            refine TT.guard ⟨(by rw [wp68_2 hT_M19]; exact wk69 hT_M19), by omega, by rw [wp68_2 hT_M19, wl69 hT_M19]; omega⟩ ?_
            refine TT.guard ⟨(by rw [wp68_2 hT_M19]; exact wk69 hT_M19), by omega, by rw [wp68_2 hT_M19, wl69 hT_M19]; omega⟩ ?_
            refine TT.stw hW_M19 hT_M19 hA_M19 hL_M19 (by rw [wp68_2 hT_M19]; exact ⟨rfl, Or.inl (by decide)⟩) (fun M25 e_M25 hW_M25 hT_M25 hA_M25 hL_M25 => ?_)
            refine TT.bind (cell3_T (by omega) (by omega) (by omega) (by omega) (by omega) (by omega)) (fun r27 h_r27 => ?_)
            refine TT.guard ⟨(by rw [wp68_5 hT_M25]; exact wk72 hT_M25), by omega, by rw [wp68_5 hT_M25, wl72 hT_M25]; omega⟩ ?_
            refine TT.guard ⟨(by rw [wp68_5 hT_M25]; exact wk72 hT_M25), by omega, by rw [wp68_5 hT_M25, wl72 hT_M25]; omega⟩ ?_
            refine TT.stw hW_M25 hT_M25 hA_M25 hL_M25 (by rw [wp68_5 hT_M25]; exact ⟨rfl, Or.inl (by decide)⟩) (fun M31 e_M31 hW_M31 hT_M31 hA_M31 hL_M31 => ?_)
            refine TT.guard ⟨(by rw [wp68_7 hT_M31]; exact wk74 hT_M31), by omega, by rw [wp68_7 hT_M31, wl74 hT_M31]; omega⟩ ?_
            refine TT.guard (lk hT_M31 hL_M31) ?_
            refine TT.bind (counts_T hT_M31 hL_M31 _) (fun r34 h_r34 => ?_)
            refine TT.guard ⟨(by rw [wp68_7 hT_M31]; exact wk74 hT_M31), by omega, by rw [wp68_7 hT_M31, wl74 hT_M31]; omega⟩ ?_
            refine TT.stw hW_M31 hT_M31 hA_M31 hL_M31 (by rw [wp68_7 hT_M31]; exact ⟨rfl, Or.inl (by decide)⟩) (fun M38 e_M38 hW_M38 hT_M38 hA_M38 hL_M38 => ?_)
            refine TT.guard ⟨(by rw [wp68_10 hT_M38]; exact wk77 hT_M38), by omega, by rw [wp68_10 hT_M38, wl77 hT_M38]; omega⟩ ?_
            refine TT.guard (tk hT_M38 hA_M38) ?_
            refine TT.guard ⟨(by rw [tp4_ hT_M38 hA_M38]; exact tk4_ hT_M38 hA_M38), by omega, by rw [tp4_ hT_M38 hA_M38, tl4_ hT_M38 hA_M38]; omega⟩ ?_
            refine TT.guard ⟨(by rw [wp68_10 hT_M38]; exact wk77 hT_M38), by omega, by rw [wp68_10 hT_M38, wl77 hT_M38]; omega⟩ ?_
            refine TT.stw hW_M38 hT_M38 hA_M38 hL_M38 (by rw [wp68_10 hT_M38]; exact ⟨rfl, Or.inl (by decide)⟩) (fun M44 e_M44 hW_M44 hT_M44 hA_M44 hL_M44 => ?_)
            exact TT.ok ⟨Or.inr rfl, hW_M44⟩
set_option maxHeartbeats 1000000 in
theorem setOff_T (hT_M : WT M) (hA_M : TA (M.1 68 0)) (hL_M : LWA (M.1 68 1)) (t h g : Int) : TT (fX9_setOff M 68 t h g) (fun r => B01 r.1 ∧ WK M r.2) := by
  unfold fX9_setOff
  have hW_M := WK.self M
  refine TT.guard (wk68 hT_M) ?_
  refine TT.bind (isFree_T hT_M hA_M hL_M _) (fun r1 h_r1 => ?_)
  refine TT.ite (fun c1 => ?_) (fun c1 => ?_)
  · exact TT.ok ⟨Or.inl rfl, hW_M⟩
  · have g_r1 := h_r1.use c1
    refine TT.bind (isFree_T hT_M hA_M hL_M _) (fun r5 h_r5 => ?_)
    refine TT.ite (fun c2 => ?_) (fun c2 => ?_)
    · exact TT.ok ⟨Or.inl rfl, hW_M⟩
    · have g_r5 := h_r5.use c2
      refine TT.ite (fun c3 => ?_) (fun c3 => ?_)
      · exact TT.ok ⟨Or.inl rfl, hW_M⟩
      · refine TT.guard (tk hT_M hA_M) ?_
        refine TT.bind (areKin_T hT_M hA_M _ _ (by omega) (by omega)) (fun r9 h_r9 => ?_)
        refine TT.ite (fun c4 => ?_) (fun c4 => ?_)
        · refine TT.ite (fun c5 => ?_) (fun c5 => ?_)
          · exact TT.ok ⟨Or.inl rfl, hW_M⟩
          · refine TT.bind (owesOf_T hT_M hA_M hL_M _ (by omega)) (fun r14 h_r14 => ?_)
            refine TT.ite (fun c6 => ?_) (fun c6 => ?_)
            · exact TT.ok ⟨Or.inl rfl, hW_M⟩
            · refine TT.bind (owesOf_T hT_M hA_M hL_M _ (by omega)) (fun r17 h_r17 => ?_)
              refine TT.ite (fun c7 => ?_) (fun c7 => ?_)
              · try rw [w32_of (x := -r17) (by omega) (by omega)] at c7
                exact TT.ok ⟨Or.inl rfl, hW_M⟩
              · try rw [w32_of (x := -r17) (by omega) (by omega)] at c7
                refine TT.guard ⟨(by rw [wp68_7 hT_M]; exact wk74 hT_M), by omega, by rw [wp68_7 hT_M, wl74 hT_M]; omega⟩ ?_
                refine TT.guard ⟨(by rw [wp68_7 hT_M]; exact wk74 hT_M), by omega, by rw [wp68_7 hT_M, wl74 hT_M]; omega⟩ ?_
                refine TT.stw hW_M hT_M hA_M hL_M (by rw [wp68_7 hT_M]; exact ⟨rfl, Or.inl (by decide)⟩) (fun M22 e_M22 hW_M22 hT_M22 hA_M22 hL_M22 => ?_)
                refine TT.guard ⟨(by rw [wp68_7 hT_M22]; exact wk74 hT_M22), by omega, by rw [wp68_7 hT_M22, wl74 hT_M22]; omega⟩ ?_
                refine TT.guard ⟨(by rw [wp68_7 hT_M22]; exact wk74 hT_M22), by omega, by rw [wp68_7 hT_M22, wl74 hT_M22]; omega⟩ ?_
                refine TT.stw hW_M22 hT_M22 hA_M22 hL_M22 (by rw [wp68_7 hT_M22]; exact ⟨rfl, Or.inl (by decide)⟩) (fun M26 e_M26 hW_M26 hT_M26 hA_M26 hL_M26 => ?_)
                exact TT.ok ⟨Or.inr rfl, hW_M26⟩
        · exact TT.ok ⟨Or.inl rfl, hW_M⟩
theorem Keep.of {M N : Mem} {b : Int} (h1 : N.2 = M.2) (h2 : ∀ x y, x ≠ b → N.1 x y = M.1 x y) (h3 : ∀ y, scr b y = true) : Keep M N := ⟨h1, fun x y q => h2 x y (fun e => by rw [e, h3] at q; cases q)⟩
theorem fillRow_T {b n : Int} (v : Int) (hk : M.2.1 b = 12) (hl : M.2.2.1 b = n) (h0 : 0 ≤ n) (h1 : n ≤ 1000) : TT (fX10_fillRow M b v) (fun r => r.2 = M.2 ∧ (∀ x y, x ≠ b → r.1 x y = M.1 x y) ∧ ∀ y, r.1 b y = if 0 ≤ y ∧ y < n then v else M.1 b y) := by
  unfold fX10_fillRow
  refine TT.iter (fun s : Int × Mem => (0 ≤ s.1 ∧ s.1 ≤ n) ∧ s.2.2 = M.2 ∧ (∀ x y, x ≠ b → s.2.1 x y = M.1 x y) ∧ ∀ y, s.2.1 b y = if 0 ≤ y ∧ y < s.1 then v else M.1 b y) (fun s => (n - s.1).toNat) ?_ BIG (0, M) ⟨⟨Int.le_refl _, h0⟩, rfl, fun _ _ _ => rfl, fun y => by rw [if_neg (by dsimp only; omega)]⟩ (by unfold BIG; dsimp only; omega)
  rintro rec ⟨i, N⟩ ⟨⟨hi0, hin⟩, hN, hfr, hc⟩ hrec
  dsimp only at hi0 hin hN hfr hc ⊢
  have kN : N.2.1 b = 12 := by rw [hN]; exact hk
  have lN : N.2.2.1 b = n := by rw [hN]; exact hl
  refine TT.guard (by rw [kN]; decide) ?_
  rw [lN]
  refine TT.ite (fun hq => TT.guard ⟨kN, hi0, hq⟩ (TT.sM (hrec _ ⟨⟨?_, ?_⟩, hN, fun x y hx => ?_, fun y => ?_⟩ ?_))) (fun hq => TT.ok ⟨hN, hfr, fun y => by rw [hc y, show i = n by omega]⟩)
  · dsimp only [w32]; omega
  · dsimp only [w32]; omega
  · show (mst _ b _ _).1 x y = _
    rw [mst_ne _ _ _ _ _ _ hx, hfr x y hx]
  · show (mst _ b _ _).1 b y = if 0 ≤ y ∧ y < w32 (i + 1) then v else _
    rw [w32_of (x := i + 1) (by omega) (by omega), mst_r]
    by_cases e : y = i
    · rw [if_pos ⟨rfl, e⟩, if_pos (by omega)]
    · rw [if_neg (fun q => e q.2), hc y]
      by_cases q : 0 ≤ y ∧ y < i
      · rw [if_pos q, if_pos (by omega)]
      · rw [if_neg q, if_neg (by omega)]
  · dsimp only [w32]; omega
theorem cpRow_T {b c n : Int} (hk : M.2.1 b = 12) (hl : M.2.2.1 b = n) (hkc : M.2.1 c = 12) (hlc : M.2.2.1 c = n) (h0 : 0 ≤ n) : TT (fX10_copyRow M b c) (fun r => r.2 = M.2 ∧ (∀ x y, x ≠ c → r.1 x y = M.1 x y) ∧ ∀ y, r.1 c y = if 0 ≤ y ∧ y < n then M.1 b y else M.1 c y) := by
  unfold fX10_copyRow
  rw [hk, hl, hkc, hlc, show imin n n = n by unfold imin; split <;> omega]
  refine TT.guard (by decide) (TT.guard (by decide) (TT.guard ⟨Or.inr rfl, rfl, h0, by omega, by omega⟩ (TT.sM (TT.ok ⟨rfl, fun x y hx => if_neg (fun q => hx q.1), fun y => ?_⟩))))
  show (if c = c ∧ 0 ≤ y ∧ y < n then _ else _) = _
  by_cases q : 0 ≤ y ∧ y < n
  · rw [if_pos ⟨rfl, q⟩, if_pos q]
  · rw [if_neg (fun e => q e.2), if_neg q]
theorem scr_arr {b : Int} (h : 69 ≤ b ∧ b ≤ 78) (y : Int) : scr b y = true := by
  unfold scr
  have : (decide (69 ≤ b) && decide (b ≤ 78)) = true := by rw [Bool.and_eq_true, decide_eq_true_eq, decide_eq_true_eq]; exact h
  rw [this]; simp
theorem fillW_T {b n : Int} (v : Int) (hb : 69 ≤ b ∧ b ≤ 78) (hk : M.2.1 b = 12) (hl : M.2.2.1 b = n) (h0 : 0 ≤ n) (h1 : n ≤ 1000) : TT (fX10_fillRow M b v) (fun r => WK M r) := by
  refine (fillRow_T v hk hl h0 h1).mono (fun r q => ⟨Keep.of q.1 q.2.1 (scr_arr hb), q.2.1 68 0 (by omega), q.2.1 68 1 (by omega), q.2.1 68 15 (by omega)⟩)
theorem cpW_T {b c n : Int} (hb : 69 ≤ c ∧ c ≤ 78) (hk : M.2.1 b = 12) (hl : M.2.2.1 b = n) (hkc : M.2.1 c = 12) (hlc : M.2.2.1 c = n) (h0 : 0 ≤ n) : TT (fX10_copyRow M b c) (fun r => WK M r) := by
  refine (cpRow_T hk hl hkc hlc h0).mono (fun r q => ⟨Keep.of q.1 q.2.1 (scr_arr hb), q.2.1 68 0 (by omega), q.2.1 68 1 (by omega), q.2.1 68 15 (by omega)⟩)
set_option maxHeartbeats 1000000 in
theorem nightEnds_T (hT_M : WT M) (hA_M : TA (M.1 68 0)) (hL_M : LWA (M.1 68 1)) : TT (fX9_nightEnds M 68) (fun r => WK M r) := by
  unfold fX9_nightEnds
  have hW_M := WK.self M
  refine TT.iter (fun (s : Int × Mem) => (0 ≤ s.1 ∧ s.1 ≤ 4) ∧ WK M s.2 ∧ WT s.2 ∧ TA (s.2.1 68 0) ∧ LWA (s.2.1 68 1)) (fun s => (4 - s.1).toNat) ?_ _ _ ⟨⟨by (try dsimp only [w32]); omega, by (try dsimp only [w32]); omega⟩, hW_M, hT_M, hA_M, hL_M⟩ (by unfold BIG; (try dsimp only [w32]); omega)
  rintro rec1 s2 ⟨⟨hl_s2, hu_s2⟩, hW_s2, hT_s2, hA_s2, hL_s2⟩ hr_rec1
  have hh_s2 := td1_ hT_s2 hA_s2
  refine TT.guard (wk68 hT_s2) ?_
  refine TT.guard (tk hT_s2 hA_s2) ?_
  refine TT.ite (fun c1 => ?_) (fun c1 => ?_)
  · refine TT.guard ⟨(by rw [wp68_8 hT_s2]; exact wk75 hT_s2), by omega, by rw [wp68_8 hT_s2, wl75 hT_s2]; omega⟩ ?_
    refine TT.guard ⟨(by rw [wp68_10 hT_s2]; exact wk77 hT_s2), by omega, by rw [wp68_10 hT_s2, wl77 hT_s2]; omega⟩ ?_
    refine TT.guard ⟨(by rw [wp68_8 hT_s2]; exact wk75 hT_s2), by omega, by rw [wp68_8 hT_s2, wl75 hT_s2]; omega⟩ ?_
    refine TT.stw hW_s2 hT_s2 hA_s2 hL_s2 (by rw [wp68_8 hT_s2]; exact ⟨rfl, Or.inl (by decide)⟩) (fun M9 e_M9 hW_M9 hT_M9 hA_M9 hL_M9 => ?_)
    refine TT.guard ⟨(by rw [wp68_8 hT_M9]; exact wk75 hT_M9), by omega, by rw [wp68_8 hT_M9, wl75 hT_M9]; omega⟩ ?_
    refine TT.guard (lk hT_M9 hL_M9) ?_
    refine TT.jI ?_
    refine TT.ite (fun c2 => ?_) (fun c2 => ?_)
    · refine TT.guard (wk68 hT_M9) ?_
      refine TT.guard ⟨(by rw [wp68_10 hT_M9]; exact wk77 hT_M9), by omega, by rw [wp68_10 hT_M9, wl77 hT_M9]; omega⟩ ?_
      refine TT.stw hW_M9 hT_M9 hA_M9 hL_M9 (by rw [wp68_10 hT_M9]; exact ⟨rfl, Or.inl (by decide)⟩) (fun M17 e_M17 hW_M17 hT_M17 hA_M17 hL_M17 => ?_)
      refine TT.guard ⟨(by rw [wp68_9 hT_M17]; exact wk76 hT_M17), by omega, by rw [wp68_9 hT_M17, wl76 hT_M17]; omega⟩ ?_
      refine TT.stw hW_M17 hT_M17 hA_M17 hL_M17 (by rw [wp68_9 hT_M17]; exact ⟨rfl, Or.inl (by decide)⟩) (fun M20 e_M20 hW_M20 hT_M20 hA_M20 hL_M20 => ?_)
      exact hr_rec1 _ ⟨⟨by (try dsimp only [w32]); omega, by (try dsimp only [w32]); omega⟩, hW_M20, hT_M20, hA_M20, hL_M20⟩ (by (try dsimp only [w32]); omega)
    · refine TT.stw hW_M9 hT_M9 hA_M9 hL_M9 (⟨rfl, Or.inr ⟨by decide, by decide⟩⟩) (fun M23 e_M23 hW_M23 hT_M23 hA_M23 hL_M23 => ?_)
      refine TT.guard (wk68 hT_M23) ?_
      refine TT.guard ⟨(by rw [wp68_10 hT_M23]; exact wk77 hT_M23), by omega, by rw [wp68_10 hT_M23, wl77 hT_M23]; omega⟩ ?_
      refine TT.stw hW_M23 hT_M23 hA_M23 hL_M23 (by rw [wp68_10 hT_M23]; exact ⟨rfl, Or.inl (by decide)⟩) (fun M17 e_M17 hW_M17 hT_M17 hA_M17 hL_M17 => ?_)
      refine TT.guard ⟨(by rw [wp68_9 hT_M17]; exact wk76 hT_M17), by omega, by rw [wp68_9 hT_M17, wl76 hT_M17]; omega⟩ ?_
      refine TT.stw hW_M17 hT_M17 hA_M17 hL_M17 (by rw [wp68_9 hT_M17]; exact ⟨rfl, Or.inl (by decide)⟩) (fun M20 e_M20 hW_M20 hT_M20 hA_M20 hL_M20 => ?_)
      exact hr_rec1 _ ⟨⟨by (try dsimp only [w32]); omega, by (try dsimp only [w32]); omega⟩, hW_M20, hT_M20, hA_M20, hL_M20⟩ (by (try dsimp only [w32]); omega)
  · refine TT.stw hW_s2 hT_s2 hA_s2 hL_s2 (⟨rfl, Or.inr ⟨by decide, by decide⟩⟩) (fun M25 e_M25 hW_M25 hT_M25 hA_M25 hL_M25 => ?_)
    exact TT.ok hW_M25
set_option maxHeartbeats 1000000 in
theorem act_T (hT_M : WT M) (hA_M : TA (M.1 68 0)) (hL_M : LWA (M.1 68 1)) {a : Int} (ha : NTA a) (k : Int) (hk : 0 ≤ k ∧ k < 40) : TT (fX9_act M 68 a k) (fun r => B01 r.1 ∧ WK M r.2) := by
  unfold fX9_act
  have hW_M := WK.self M
  refine TT.guard (nk hT_M ha) ?_
  refine TT.guard ⟨(by rw [np2_ hT_M ha]; exact nk2_ hT_M ha), by omega, by rw [np2_ hT_M ha, nl2_ hT_M ha]; omega⟩ ?_
  refine TT.guard ⟨(by rw [np3_ hT_M ha]; exact nk3_ hT_M ha), by omega, by rw [np3_ hT_M ha, nl3_ hT_M ha]; omega⟩ ?_
  refine TT.guard ⟨(by rw [np4_ hT_M ha]; exact nk4_ hT_M ha), by omega, by rw [np4_ hT_M ha, nl4_ hT_M ha]; omega⟩ ?_
  refine TT.guard ⟨(by rw [np1_ hT_M ha]; exact nk1_ hT_M ha), by omega, by rw [np1_ hT_M ha, nl1_ hT_M ha]; omega⟩ ?_
  refine TT.ite (fun c1 => ?_) (fun c1 => ?_)
  · refine TT.guard (wk68 hT_M) ?_
    refine TT.bw hW_M hT_M hA_M hL_M (takeOne_T hT_M hA_M hL_M _ _ _) (fun r7 h_r7 hW_r7 hT_r7 hA_r7 hL_r7 => ?_)
    refine TT.guard h_r7 ?_
    exact TT.ok ⟨h_r7, hW_r7⟩
  · refine TT.ite (fun c2 => ?_) (fun c2 => ?_)
    · refine TT.guard (wk68 hT_M) ?_
      refine TT.bw hW_M hT_M hA_M hL_M (giveOne_T hT_M hA_M hL_M _ _ _) (fun r12 h_r12 hW_r12 hT_r12 hA_r12 hL_r12 => ?_)
      refine TT.guard h_r12 ?_
      exact TT.ok ⟨h_r12, hW_r12⟩
    · refine TT.ite (fun c3 => ?_) (fun c3 => ?_)
      · refine TT.guard (wk68 hT_M) ?_
        refine TT.bw hW_M hT_M hA_M hL_M (setOff_T hT_M hA_M hL_M _ _ _) (fun r17 h_r17 hW_r17 hT_r17 hA_r17 hL_r17 => ?_)
        refine TT.guard h_r17 ?_
        exact TT.ok ⟨h_r17, hW_r17⟩
      · refine TT.guard (wk68 hT_M) ?_
        refine TT.bv hW_M hT_M hA_M hL_M (nightEnds_T hT_M hA_M hL_M) (fun r21 hW_r21 hT_r21 hA_r21 hL_r21 => ?_)
        exact TT.ok ⟨Or.inr rfl, hW_r21⟩
theorem nd0_ (h : WT M) {a : Int} (ha : NTA a) : 0 ≤ M.1 a 0 ∧ M.1 a 0 ≤ 40 := by
  rcases ha with rfl | rfl
  · exact rows_at (p := (18, 0, 0, 0, 40)) h.2.1 26 rfl (i := 0) (by decide) (by decide)
  · exact rows_at (p := (37, 0, 0, 0, 40)) h.2.1 27 rfl (i := 0) (by decide) (by decide)
def FK (M N : Mem) : Prop := Keep M N ∧ N.1 68 0 = M.1 68 0 ∧ N.1 68 1 = M.1 68 1
theorem WK.fk {M N : Mem} (h : WK M N) : FK M N := ⟨h.1, h.2.1, h.2.2.1⟩
theorem FK.trans {M N O : Mem} (h : FK M N) (g : FK N O) : FK M O := ⟨h.1.trans g.1, g.2.1.trans h.2.1, g.2.2.trans h.2.2⟩
theorem follow_T (hT : WT M) (hA : TA (M.1 68 0)) (hL : LWA (M.1 68 1)) {a : Int} (ha : NTA a) (n : Int) (h15 : M.1 68 15 = 0) : TT (fX9_follow M 68 a n) (fun r => FK M r ∧ 0 ≤ r.1 68 15 ∧ r.1 68 15 ≤ 40) := by
  unfold fX9_follow
  have hn := nd0_ hT ha
  refine TT.guard (nk hT ha) (TT.iter (fun s : Mem => FK M s ∧ 0 ≤ s.1 68 15 ∧ s.1 68 15 ≤ 40) (fun s => (40 - s.1 68 15).toNat) ?_ _ _ ⟨(WK.self M).fk, by rw [h15]; decide, by rw [h15]; decide⟩ (by unfold BIG; omega))
  rintro rec s ⟨hF, hl, hu⟩ hr
  have hTs := hT.keep hF.1
  have hAs : TA (s.1 68 0) := by rw [hF.2.1]; exact hA
  have hLs : LWA (s.1 68 1) := by rw [hF.2.2]; exact hL
  refine TT.guard (wk68 hTs) (TT.ite (fun hc => ?_) (fun _ => TT.ok ⟨hF, hl, hu⟩))
  have hc2 : s.1 68 15 < 40 := by unfold imin at hc; split at hc <;> omega
  refine TT.bind (act_T hTs hAs hLs ha _ ⟨hl, hc2⟩) (fun r h1 => ?_)
  have h5 : r.2.1 68 15 = s.1 68 15 := h1.2.2.2.2
  have hF2 := hF.trans h1.2.fk
  refine TT.ite (fun _ => TT.ok ⟨hF2, by rw [h5]; exact hl, by rw [h5]; exact hu⟩) (fun _ => TT.guard (wk68 (hTs.keep h1.2.1)) (TT.sM (hr _ ⟨⟨hF2.1.st rfl, ?_, ?_⟩, ?_, ?_⟩ ?_)))
  · rw [mst_nf _ _ _ _ _ _ (by decide)]; exact hF2.2.1
  · rw [mst_nf _ _ _ _ _ _ (by decide)]; exact hF2.2.2
  · rw [mst_at, h5]; unfold w32; omega
  · rw [mst_at, h5]; unfold w32; omega
  · try dsimp only
    rw [mst_at, h5]; unfold w32; omega
set_option maxHeartbeats 2000000 in
theorem begin_T (hT : WT M) {a b : Int} (ha : TA a) (hb : LWA b) : TT (fX9_begin M 68 a b) (fun r => Keep M r ∧ r.1 68 0 = a ∧ r.1 68 1 = b ∧ r.1 68 15 = 0) := by
  unfold fX9_begin
  refine TT.guard (wk68 hT) (TT.guard (by rcases ha with rfl | rfl <;> decide) (TT.sM (TT.guard (by rcases hb with rfl | rfl <;> decide) (TT.sM ?_))))
  have hK : Keep M (mst (mst M 68 0 a) 68 1 b) := (Keep.self.st rfl).st rfl
  have e0 : (mst (mst M 68 0 a) 68 1 b).1 68 0 = a := by rw [mst_nf _ _ _ _ _ _ (by decide), mst_at]
  have e1 : (mst (mst M 68 0 a) 68 1 b).1 68 1 = b := mst_at _ _ _ _
  generalize mst (mst M 68 0 a) 68 1 b = M6 at *
  have hT6 := hT.keep hK
  have hA6 : TA (M6.1 68 0) := by rw [e0]; exact ha
  have hL6 : LWA (M6.1 68 1) := by rw [e1]; exact hb
  have hW6 := WK.self M6
  refine TT.guard (tk hT6 ha) ?_
  rw [tp2_ hT6 ha, wp68_2 hT6]
  refine TT.bv hW6 hT6 hA6 hL6 (cpW_T (n := 30) (by decide) (tk2_ hT6 ha) (tl2_ hT6 ha) (wk69 hT6) (wl69 hT6) (by decide)) (fun r1 hW hTr hAr hLr => ?_)
  refine TT.guard (wk68 hTr) ?_
  rw [wp68_3 hTr]
  refine TT.bv hW hTr hAr hLr (fillW_T (n := 20) _ (by decide) (wk70 hTr) (wl70 hTr) (by decide) (by decide)) (fun r2 hW hTr hAr hLr => ?_)
  refine TT.guard (wk68 hTr) ?_
  rw [wp68_4 hTr]
  refine TT.bv hW hTr hAr hLr (fillW_T (n := 120) _ (by decide) (wk71 hTr) (wl71 hTr) (by decide) (by decide)) (fun r3 hW hTr hAr hLr => ?_)
  refine TT.guard (wk68 hTr) ?_
  rw [wp68_5 hTr]
  refine TT.bv hW hTr hAr hLr (fillW_T (n := 120) _ (by decide) (wk72 hTr) (wl72 hTr) (by decide) (by decide)) (fun r4 hW hTr hAr hLr => ?_)
  refine TT.guard (wk68 hTr) ?_
  rw [wp68_6 hTr]
  refine TT.bv hW hTr hAr hLr (fillW_T (n := 4) _ (by decide) (wk73 hTr) (wl73 hTr) (by decide) (by decide)) (fun r5 hW hTr hAr hLr => ?_)
  refine TT.guard (wk68 hTr) ?_
  rw [wp68_7 hTr]
  refine TT.bv hW hTr hAr hLr (fillW_T (n := 4) _ (by decide) (wk74 hTr) (wl74 hTr) (by decide) (by decide)) (fun r6 hW hTr hAr hLr => ?_)
  refine TT.guard (wk68 hTr) ?_
  rw [wp68_8 hTr]
  refine TT.bv hW hTr hAr hLr (fillW_T (n := 4) _ (by decide) (wk75 hTr) (wl75 hTr) (by decide) (by decide)) (fun r7 hW hTr hAr hLr => ?_)
  refine TT.guard (wk68 hTr) ?_
  rw [wp68_9 hTr]
  refine TT.bv hW hTr hAr hLr (fillW_T (n := 4) _ (by decide) (wk76 hTr) (wl76 hTr) (by decide) (by decide)) (fun r8 hW hTr hAr hLr => ?_)
  refine TT.guard (wk68 hTr) ?_
  rw [wp68_10 hTr]
  refine TT.bv hW hTr hAr hLr (fillW_T (n := 4) _ (by decide) (wk77 hTr) (wl77 hTr) (by decide) (by decide)) (fun r9 hW hTr hAr hLr => ?_)
  refine TT.guard (wk68 hTr) ?_
  rw [wp68_11 hTr]
  refine TT.bv hW hTr hAr hLr (fillW_T (n := 4) _ (by decide) (wk78 hTr) (wl78 hTr) (by decide) (by decide)) (fun r10 hW hTr hAr hLr => ?_)
  refine TT.guard (wk68 hTr) (TT.sM (TT.sM (TT.sM (TT.sM (TT.ok ⟨?_, ?_, ?_, mst_at _ _ _ _⟩)))))
  · exact (((((hK.trans hW.1).st rfl).st rfl).st rfl).st rfl)
  · rw [mst_nf _ _ _ _ _ _ (by decide), mst_nf _ _ _ _ _ _ (by decide), mst_nf _ _ _ _ _ _ (by decide), mst_nf _ _ _ _ _ _ (by decide), hW.2.1, e0]
  · rw [mst_nf _ _ _ _ _ _ (by decide), mst_nf _ _ _ _ _ _ (by decide), mst_nf _ _ _ _ _ _ (by decide), mst_nf _ _ _ _ _ _ (by decide), hW.2.2.1, e1]
set_option maxHeartbeats 1000000 in
theorem drawBelow_T (hT_M : WT M) (hA_M : TA (M.1 68 0)) (hL_M : LWA (M.1 68 1)) (n : Int) : TT (fX9_drawBelow M 68 n) (fun r => Any r.1 ∧ WK M r.2) := by
  unfold fX9_drawBelow
  have hW_M := WK.self M
  refine TT.guard (wk68 hT_M) ?_
  refine TT.stw hW_M hT_M hA_M hL_M (⟨rfl, Or.inr ⟨by decide, by decide⟩⟩) (fun M2 e_M2 hW_M2 hT_M2 hA_M2 hL_M2 => ?_)
  refine TT.ite (fun c1 => ?_) (fun c1 => ?_)
  · refine TT.guard (by first | omega | (simp only [w32]; omega)) ?_
    exact TT.ok ⟨trivial, hW_M2⟩
  · exact TT.ok ⟨trivial, hW_M2⟩
set_option maxHeartbeats 1000000 in
theorem giveLeast_T (hT_M : WT M) (hA_M : TA (M.1 68 0)) (hL_M : LWA (M.1 68 1)) (t : Int) : TT (fX9_giveLeast M 68 t) (fun r => B01 r.1 ∧ WK M r.2) := by
  unfold fX9_giveLeast
  have hW_M := WK.self M
  refine TT.iter (fun (s : Int × Mem) => (0 ≤ s.1 ∧ s.1 ≤ 5) ∧ WK M s.2 ∧ WT s.2 ∧ TA (s.2.1 68 0) ∧ LWA (s.2.1 68 1)) (fun s => (5 - s.1).toNat) ?_ _ _ ⟨⟨by (try dsimp only [w32]); omega, by (try dsimp only [w32]); omega⟩, hW_M, hT_M, hA_M, hL_M⟩ (by unfold BIG; (try dsimp only [w32]); omega)
  rintro rec1 s2 ⟨⟨hl_s2, hu_s2⟩, hW_s2, hT_s2, hA_s2, hL_s2⟩ hr_rec1
  refine TT.ite (fun c1 => ?_) (fun c1 => ?_)
  · refine TT.iter (fun (s : Int × Mem) => (0 ≤ s.1 ∧ s.1 ≤ 6) ∧ WK M s.2 ∧ WT s.2 ∧ TA (s.2.1 68 0) ∧ LWA (s.2.1 68 1)) (fun s => (6 - s.1).toNat) ?_ _ _ ⟨⟨by (try dsimp only [w32]); omega, by (try dsimp only [w32]); omega⟩, hW_s2, hT_s2, hA_s2, hL_s2⟩ (by unfold BIG; (try dsimp only [w32]); omega)
    rintro rec4 s5 ⟨⟨hl_s5, hu_s5⟩, hW_s5, hT_s5, hA_s5, hL_s5⟩ hr_rec4
    have hh_s5 := td0_ hT_s5 hA_s5
    refine TT.guard (wk68 hT_s5) ?_
    refine TT.guard (tk hT_s5 hA_s5) ?_
    refine TT.ite (fun c2 => ?_) (fun c2 => ?_)
    · refine TT.bw hW_s5 hT_s5 hA_s5 hL_s5 (giveOne_T hT_s5 hA_s5 hL_s5 _ _ _) (fun r9 h_r9 hW_r9 hT_r9 hA_r9 hL_r9 => ?_)
      refine TT.ite (fun c3 => ?_) (fun c3 => ?_)
      · exact hr_rec4 _ ⟨⟨by (try dsimp only [w32]); omega, by (try dsimp only [w32]); omega⟩, hW_r9, hT_r9, hA_r9, hL_r9⟩ (by (try dsimp only [w32]); omega)
      · exact TT.ok ⟨Or.inr rfl, hW_r9⟩
    · exact hr_rec1 _ ⟨⟨by (try dsimp only [w32]); omega, by (try dsimp only [w32]); omega⟩, hW_s5, hT_s5, hA_s5, hL_s5⟩ (by (try dsimp only [w32]); omega)
  · exact TT.ok ⟨Or.inl rfl, hW_s2⟩
set_option maxHeartbeats 1000000 in
theorem drawDeeds_T (hT_M : WT M) (hA_M : TA (M.1 68 0)) (hL_M : LWA (M.1 68 1)) (t : Int) (ht : 0 ≤ t ∧ t < 4) : TT (fX9_drawDeeds M 68 t) (fun r => WK M r) := by
  unfold fX9_drawDeeds
  have hW_M := WK.self M
  refine TT.iter (fun (s : Int × Mem) => (0 ≤ s.1 ∧ s.1 ≤ 9) ∧ WK M s.2 ∧ WT s.2 ∧ TA (s.2.1 68 0) ∧ LWA (s.2.1 68 1)) (fun s => (9 - s.1).toNat) ?_ _ _ ⟨⟨by (try dsimp only [w32]); omega, by (try dsimp only [w32]); omega⟩, hW_M, hT_M, hA_M, hL_M⟩ (by unfold BIG; (try dsimp only [w32]); omega)
  rintro rec1 s2 ⟨⟨hl_s2, hu_s2⟩, hW_s2, hT_s2, hA_s2, hL_s2⟩ hr_rec1
  have hh_s2 := td8_ hT_s2 hA_s2 ht.1 ht.2
  have hp_s2 := tp8_ hT_s2 hA_s2
  rw [← hp_s2] at hh_s2
  refine TT.guard (wk68 hT_s2) ?_
  refine TT.guard (tk hT_s2 hA_s2) ?_
  refine TT.guard ⟨(by rw [tp8_ hT_s2 hA_s2]; exact tk8_ hT_s2 hA_s2), by omega, by rw [tp8_ hT_s2 hA_s2, tl8_ hT_s2 hA_s2]; omega⟩ ?_
  refine TT.ite (fun c1 => ?_) (fun c1 => ?_)
  · refine TT.bw hW_s2 hT_s2 hA_s2 hL_s2 (drawBelow_T hT_s2 hA_s2 hL_s2 _) (fun r7 h_r7 hW_r7 hT_r7 hA_r7 hL_r7 => ?_)
    refine TT.guard (wk68 hT_r7) ?_
    refine TT.bw hW_r7 hT_r7 hA_r7 hL_r7 (drawBelow_T hT_r7 hA_r7 hL_r7 _) (fun r9 h_r9 hW_r9 hT_r9 hA_r9 hL_r9 => ?_)
    refine TT.guard (wk68 hT_r9) ?_
    refine TT.bw hW_r9 hT_r9 hA_r9 hL_r9 (takeOne_T hT_r9 hA_r9 hL_r9 _ _ _) (fun r12 h_r12 hW_r12 hT_r12 hA_r12 hL_r12 => ?_)
    exact hr_rec1 _ ⟨⟨by (try dsimp only [w32]); omega, by (try dsimp only [w32]); omega⟩, hW_r12, hT_r12, hA_r12, hL_r12⟩ (by (try dsimp only [w32]); omega)
  · refine TT.iter (fun (s : Int × Mem) => (0 ≤ s.1 ∧ s.1 ≤ 270) ∧ WK M s.2 ∧ WT s.2 ∧ TA (s.2.1 68 0) ∧ LWA (s.2.1 68 1)) (fun s => (270 - s.1).toNat) ?_ _ _ ⟨⟨by (try dsimp only [w32]); omega, by (try dsimp only [w32]); omega⟩, hW_s2, hT_s2, hA_s2, hL_s2⟩ (by unfold BIG; (try dsimp only [w32]); omega)
    rintro rec15 s16 ⟨⟨hl_s16, hu_s16⟩, hW_s16, hT_s16, hA_s16, hL_s16⟩ hr_rec15
    refine TT.ite (fun c2 => ?_) (fun c2 => ?_)
    · refine TT.guard (wk68 hT_s16) ?_
      refine TT.bind (owesOf_T hT_s16 hA_s16 hL_s16 _ (by omega)) (fun r18 h_r18 => ?_)
      refine TT.ite (fun c3 => ?_) (fun c3 => ?_)
      · refine TT.bw hW_s16 hT_s16 hA_s16 hL_s16 (giveLeast_T hT_s16 hA_s16 hL_s16 _) (fun r22 h_r22 hW_r22 hT_r22 hA_r22 hL_r22 => ?_)
        refine TT.ite (fun c4 => ?_) (fun c4 => ?_)
        · exact TT.ok hW_r22
        · exact hr_rec15 _ ⟨⟨by (try dsimp only [w32]); omega, by (try dsimp only [w32]); omega⟩, hW_r22, hT_r22, hA_r22, hL_r22⟩ (by (try dsimp only [w32]); omega)
      · exact TT.ok hW_s16
    · exact TT.ok hW_s16
set_option maxHeartbeats 1000000 in
theorem drawNights_T (hT_M : WT M) (hA_M : TA (M.1 68 0)) (hL_M : LWA (M.1 68 1)) (x n : Int) (hn : 0 ≤ n ∧ n ≤ 30) : TT (fX9_drawNights M 68 x n) (fun r => WK M r) := by
  unfold fX9_drawNights
  have hW_M := WK.self M
  refine TT.guard (wk68 hT_M) ?_
  refine TT.stw hW_M hT_M hA_M hL_M (⟨rfl, Or.inr ⟨by decide, by decide⟩⟩) (fun M2 e_M2 hW_M2 hT_M2 hA_M2 hL_M2 => ?_)
  refine TT.iter (fun (s : Int × Mem) => (0 ≤ s.1 ∧ s.1 ≤ 30) ∧ WK M s.2 ∧ WT s.2 ∧ TA (s.2.1 68 0) ∧ LWA (s.2.1 68 1)) (fun s => (30 - s.1).toNat) ?_ _ _ ⟨⟨by (try dsimp only [w32]); omega, by (try dsimp only [w32]); omega⟩, hW_M2, hT_M2, hA_M2, hL_M2⟩ (by unfold BIG; (try dsimp only [w32]); omega)
  rintro rec4 s5 ⟨⟨hl_s5, hu_s5⟩, hW_s5, hT_s5, hA_s5, hL_s5⟩ hr_rec4
  refine TT.ite (fun c1 => ?_) (fun c1 => ?_)
  · refine TT.iter (fun (s : Int × Mem) => (0 ≤ s.1 ∧ s.1 ≤ 4) ∧ WK M s.2 ∧ WT s.2 ∧ TA (s.2.1 68 0) ∧ LWA (s.2.1 68 1)) (fun s => (4 - s.1).toNat) ?_ _ _ ⟨⟨by (try dsimp only [w32]); omega, by (try dsimp only [w32]); omega⟩, hW_s5, hT_s5, hA_s5, hL_s5⟩ (by unfold BIG; (try dsimp only [w32]); omega)
    rintro rec7 s8 ⟨⟨hl_s8, hu_s8⟩, hW_s8, hT_s8, hA_s8, hL_s8⟩ hr_rec7
    have hh_s8 := td1_ hT_s8 hA_s8
    refine TT.guard (wk68 hT_s8) ?_
    refine TT.guard (tk hT_s8 hA_s8) ?_
    refine TT.ite (fun c2 => ?_) (fun c2 => ?_)
    · refine TT.bind (isFree_T hT_s8 hA_s8 hL_s8 _) (fun r12 h_r12 => ?_)
      refine TT.ite (fun c3 => ?_) (fun c3 => ?_)
      · exact hr_rec7 _ ⟨⟨by (try dsimp only [w32]); omega, by (try dsimp only [w32]); omega⟩, hW_s8, hT_s8, hA_s8, hL_s8⟩ (by (try dsimp only [w32]); omega)
      · have g_r12 := h_r12.use c3
        refine TT.bv hW_s8 hT_s8 hA_s8 hL_s8 (drawDeeds_T hT_s8 hA_s8 hL_s8 _ (by omega)) (fun r15 hW_r15 hT_r15 hA_r15 hL_r15 => ?_)
        exact hr_rec7 _ ⟨⟨by (try dsimp only [w32]); omega, by (try dsimp only [w32]); omega⟩, hW_r15, hT_r15, hA_r15, hL_r15⟩ (by (try dsimp only [w32]); omega)
    · refine TT.bv hW_s8 hT_s8 hA_s8 hL_s8 (nightEnds_T hT_s8 hA_s8 hL_s8) (fun r17 hW_r17 hT_r17 hA_r17 hL_r17 => ?_)
      exact hr_rec4 _ ⟨⟨by (try dsimp only [w32]); omega, by (try dsimp only [w32]); omega⟩, hW_r17, hT_r17, hA_r17, hL_r17⟩ (by (try dsimp only [w32]); omega)
  · exact TT.ok hW_s5
end Walk
