/-! the class: its step takes the token as the spec has it -/
section StepV
variable {M N : Mem}
theorem byteAt_v (hT : WT M) (hs : M.1 47 6 = 2) (h6 : M.1 47 7 ≤ 600) {i : Int} (i0 : 0 ≤ i) : fX3_byteAt M 47 i = some (if i < M.1 47 7 then M.1 2 i else 0) := by
  unfold fX3_byteAt
  rw [hs, if_pos (wk47 hT), if_neg (by decide), if_neg (by omega)]
  by_cases c : i < M.1 47 7
  · rw [if_pos c, if_pos (by rw [wk2 hT]; decide), if_pos (by rw [wl2 hT]; omega), if_pos ⟨Or.inl (wk2 hT), i0, by rw [wl2 hT]; omega⟩, if_pos c]
  · rw [if_neg c, if_neg c]
theorem isL_v (c : Int) : fX3_isLetter M c = some (if isL c = true then 1 else 0) := by
  unfold fX3_isLetter isL
  by_cases a : c < 97
  · rw [if_pos a, if_neg (by simp; omega)]
  · by_cases b : 122 < c
    · rw [if_neg a, if_pos b, if_neg (by simp; omega)]
    · rw [if_neg a, if_neg b, if_pos (by simp; omega)]
theorem isD_v (c : Int) : fX3_isDigit M c = some (if isD c = true then 1 else 0) := by
  unfold fX3_isDigit isD
  by_cases a : c < 48
  · rw [if_pos a, if_neg (by simp; omega)]
  · by_cases b : 57 < c
    · rw [if_neg a, if_pos b, if_neg (by simp; omega)]
    · rw [if_neg a, if_neg b, if_pos (by simp; omega)]
theorem isB_v (c : Int) : fX3_isBlank M c = some (if isB c = true then 1 else 0) := by
  unfold fX3_isBlank isB
  by_cases a : c = 10
  · rw [if_pos a, if_pos (by simp [a])]
  · by_cases b : c = 32
    · rw [if_neg a, if_pos b, if_pos (by simp [b])]
    · rw [if_neg a, if_neg b, if_neg (by simp [a, b])]
theorem SQ.t (h : SQ M N) : N.1 2 = M.1 2 := funext fun y => h.1.2 2 y (Or.inl (by decide))
/-- fields that no step sets -/
def SZ (M N : Mem) : Prop := SQ M N ∧ N.1 47 7 = M.1 47 7 ∧ N.1 47 1 = M.1 47 1 ∧ N.1 47 13 = M.1 47 13 ∧ N.1 47 14 = M.1 47 14 ∧ N.1 47 15 = M.1 47 15
theorem SZ.self (M : Mem) : SZ M M := ⟨SQ.self M, rfl, rfl, rfl, rfl, rfl⟩
theorem SZ.trans {O : Mem} (h : SZ M N) (g : SZ N O) : SZ M O := ⟨h.1.trans g.1, g.2.1.trans h.2.1, g.2.2.1.trans h.2.2.1, g.2.2.2.1.trans h.2.2.2.1, g.2.2.2.2.1.trans h.2.2.2.2.1, g.2.2.2.2.2.trans h.2.2.2.2.2⟩
theorem SZ.st (h : SZ M N) {i v : Int} (hi : 8 ≤ i ∧ i ≤ 11) : SZ M (mst N 47 i v) := ⟨h.1.st (by omega), by rw [mst_nf _ _ _ _ _ _ (by omega)]; exact h.2.1, by rw [mst_nf _ _ _ _ _ _ (by omega)]; exact h.2.2.1, by rw [mst_nf _ _ _ _ _ _ (by omega)]; exact h.2.2.2.1, by rw [mst_nf _ _ _ _ _ _ (by omega)]; exact h.2.2.2.2.1, by rw [mst_nf _ _ _ _ _ _ (by omega)]; exact h.2.2.2.2.2⟩
set_option maxHeartbeats 1000000 in
theorem stepNumber_V (hT : WT M) (hs : RS M) (hj : M.1 47 10 = M.1 47 8) : TT (fX3_stepNumber M 47) (fun r => SZ M r ∧ RS r ∧ r.1 47 10 = M.1 47 10 ∧ r.1 47 8 = scE isD (M.1 2) (M.1 47 7) (M.1 47 8) ∧ r.1 47 9 = (if scE isD (M.1 2) (M.1 47 7) (M.1 47 8) - M.1 47 8 ≤ 2 then 2 else 4) ∧ (scE isD (M.1 2) (M.1 47 7) (M.1 47 8) - M.1 47 8 = 1 → r.1 47 11 = M.1 2 (M.1 47 8) - 48) ∧ (scE isD (M.1 2) (M.1 47 7) (M.1 47 8) - M.1 47 8 = 2 → r.1 47 11 = 10 * (M.1 2 (M.1 47 8) - 48) + (M.1 2 (M.1 47 8 + 1) - 48))) := by
  unfold fX3_stepNumber
  refine TT.guard (wk47 hT) (TT.sM ?_)
  obtain ⟨hr1, ⟨hr2, hr3⟩, hr4, hr5⟩ := hs
  have h0 : SZ M (mst M 47 11 0) := (SZ.self M).st (by decide)
  have hs0 : RS (mst M 47 11 0) := ⟨hr1, ⟨hr2, hr3⟩, hr4, hr5⟩
  have v0 : (mst M 47 11 0).1 47 11 = 0 := rfl
  have b0 : (mst M 47 11 0).1 47 8 = M.1 47 8 := rfl
  have c0 : (mst M 47 11 0).1 47 10 = M.1 47 10 := rfl
  generalize mst M 47 11 0 = N at *
  generalize hJ : M.1 47 8 = J at *
  generalize hn : M.1 47 7 = n at *
  refine TT.iter (fun s : Mem => (SZ M s ∧ RS s ∧ s.1 47 10 = M.1 47 10) ∧ (J ≤ s.1 47 8 ∧ scE isD (M.1 2) n (s.1 47 8) = scE isD (M.1 2) n J) ∧ (s.1 47 8 - J = 0 → s.1 47 11 = 0) ∧ (s.1 47 8 - J = 1 → s.1 47 11 = M.1 2 J - 48 ∧ 48 ≤ M.1 2 J ∧ M.1 2 J ≤ 57) ∧ (s.1 47 8 - J = 2 → s.1 47 11 = 10 * (M.1 2 J - 48) + (M.1 2 (J + 1) - 48))) (fun s => (s.1 47 7 - s.1 47 8).toNat) ?_ BIG N ⟨⟨h0, hs0, c0⟩, ⟨by omega, by rw [b0]⟩, fun _ => v0, fun h => by omega, fun h => by omega⟩ hs0.b
  rintro rec s ⟨⟨hK, hR, h10⟩, ⟨hl, hsc⟩, w0, w1, w2⟩ hr
  have hTs := hK.1.kd.wt hT
  have et : s.1 2 = M.1 2 := hK.1.t
  have en : s.1 47 7 = n := hK.2.1.trans hn
  obtain ⟨s1, ⟨s2, s3⟩, s4, s5⟩ := hR
  have hb := byteAt_v hTs s1 s2 s4
  rw [et, en] at hb
  refine TT.guard (wk47 hTs) (TT.join (fun _ => ¬(s.1 47 8 < n ∧ isD (M.1 2 (s.1 47 8)) = true)) (fun _ hst => ?_) (fun j hj => TT.ite (fun c => ?_) (fun c => hj () (fun q => c (by rw [en]; exact q.1)))))
  · have e8 : s.1 47 8 = scE isD (M.1 2) n J := by rw [← hsc, scE_end hst]
    have e10 : s.1 47 10 = J := h10.trans hj
    rw [e8, e10]
    have hb2 : scE isD (M.1 2) n J - J ≤ 600 ∧ 0 ≤ scE isD (M.1 2) n J - J := by omega
    rw [w32_of (x := scE isD (M.1 2) n J - J) (by omega) (by omega)]
    have fin : ∀ t : Int, t = (if scE isD (M.1 2) n J - J ≤ 2 then 2 else 4) → TT (bM (mst s 47 9 t) fun M11 => some M11) (fun r => SZ M r ∧ RS r ∧ r.1 47 10 = M.1 47 10 ∧ r.1 47 8 = scE isD (M.1 2) n J ∧ r.1 47 9 = (if scE isD (M.1 2) n J - J ≤ 2 then 2 else 4) ∧ (scE isD (M.1 2) n J - J = 1 → r.1 47 11 = M.1 2 J - 48) ∧ (scE isD (M.1 2) n J - J = 2 → r.1 47 11 = 10 * (M.1 2 J - 48) + (M.1 2 (J + 1) - 48))) := by
      intro t ht
      exact TT.sM (TT.ok ⟨hK.st (by decide), ⟨s1, ⟨s2, s3⟩, s4, s5⟩, h10, e8, ht, fun q => (w1 (by omega)).1, fun q => w2 (by omega)⟩)
    refine TT.join (fun t : Int => t = (if scE isD (M.1 2) n J - J ≤ 2 then 2 else 4)) (fun t ht => fin t ht) (fun j hj => TT.ite (fun c => hj _ (by rw [if_neg (by omega)])) (fun c => hj _ (by rw [if_pos (by omega)])))
  · rw [en] at c
    rw [if_pos c] at hb
    refine TT.bindE hb (TT.bindE (isD_v _) ?_)
    by_cases d : isD (M.1 2 (s.1 47 8)) = true
    · rw [if_pos d]
      refine TT.neg (by decide) (TT.bindE hb (TT.sM (TT.sM ?_)))
      have g := RS.next (M := s) ⟨s1, ⟨s2, s3⟩, s4, s5⟩ (by rw [en]; exact c) (N := mst (mst s 47 11 (imin 999 (w32 (w32 (w32 (10 * s.1 47 11) + M.1 2 (s.1 47 8)) - 48)))) 47 8 (w32 ((mst s 47 11 (imin 999 (w32 (w32 (w32 (10 * s.1 47 11) + M.1 2 (s.1 47 8)) - 48)))).1 47 8 + 1))) rfl rfl rfl
      have e : w32 (s.1 47 8 + 1) = s.1 47 8 + 1 := w32_of (by omega) (by omega)
      have dd := d
      unfold isD at dd
      simp only [Bool.and_eq_true, decide_eq_true_eq] at dd
      have iv : ∀ x, 0 ≤ x → x ≤ 99 → imin 999 x = x := fun x a b => by unfold imin; rw [if_pos (by omega)]
      refine hr _ ⟨⟨(hK.st (by decide)).st (by decide), g.1, h10⟩, ⟨?_, ?_⟩, fun q => ?_, fun q => ?_, fun q => ?_⟩ g.2
      · show J ≤ w32 (s.1 47 8 + 1)
        rw [e]; omega
      · show scE isD (M.1 2) n (w32 (s.1 47 8 + 1)) = _
        rw [e, ← scE_go c d]; exact hsc
      · exfalso
        have q' : w32 (s.1 47 8 + 1) - J = 0 := q
        rw [e] at q'; omega
      · have q' : w32 (s.1 47 8 + 1) - J = 1 := q
        rw [e] at q'
        have eJ : s.1 47 8 = J := by omega
        rw [eJ] at dd
        refine ⟨?_, dd⟩
        show imin 999 (w32 (w32 (w32 (10 * s.1 47 11) + M.1 2 (s.1 47 8)) - 48)) = _
        rw [w0 (by omega), eJ, w32_of (x := 10 * 0) (by omega) (by omega), w32_of (x := 10 * 0 + M.1 2 J) (by omega) (by omega), w32_of (x := 10 * 0 + M.1 2 J - 48) (by omega) (by omega), iv _ (by omega) (by omega)]; omega
      · have q' : w32 (s.1 47 8 + 1) - J = 2 := q
        rw [e] at q'
        have eJ : s.1 47 8 = J + 1 := by omega
        rw [eJ] at dd
        obtain ⟨u1, u2, u3⟩ := w1 (by omega)
        show imin 999 (w32 (w32 (w32 (10 * s.1 47 11) + M.1 2 (s.1 47 8)) - 48)) = _
        rw [u1, eJ, w32_of (x := 10 * (M.1 2 J - 48)) (by omega) (by omega), w32_of (x := 10 * (M.1 2 J - 48) + M.1 2 (J + 1)) (by omega) (by omega), w32_of (x := 10 * (M.1 2 J - 48) + M.1 2 (J + 1) - 48) (by omega) (by omega), iv _ (by omega) (by omega)]; omega
    · rw [if_neg d]
      exact TT.pos rfl (hj () (fun q => d q.2))
/-- the reader stands behind the token at i -/
def TokX (T : Int → Int) (n i : Int) (r : Mem) : Prop := r.1 47 10 = tS T n i ∧ r.1 47 9 = tK T n i ∧ (tK T n i ≠ 4 → r.1 47 8 = tE T n i) ∧ (tK T n i = 2 → r.1 47 11 = tV T n i)
set_option maxHeartbeats 1000000 in
theorem step_V (hT : WT M) (hs : RS M) : TT (fX3_step M 47) (fun r => SZ M r ∧ RS r ∧ TokX (M.1 2) (M.1 47 7) (M.1 47 8) r) := by
  unfold fX3_step
  generalize hJ : M.1 47 8 = J at *
  generalize hn : M.1 47 7 = n at *
  refine TT.iter (fun s : Mem => SZ M s ∧ RS s ∧ tS (M.1 2) n (s.1 47 8) = tS (M.1 2) n J) (fun s => (s.1 47 7 - s.1 47 8).toNat) ?_ BIG M ⟨SZ.self M, hs, by rw [hJ]⟩ hs.b
  rintro rec s ⟨hK, hR, hS⟩ hr
  have hTs := hK.1.kd.wt hT
  have et : s.1 2 = M.1 2 := hK.1.t
  have en : s.1 47 7 = n := hK.2.1.trans hn
  have hR0 := hR
  obtain ⟨s1, ⟨s2, s3⟩, s4, s5⟩ := hR
  have hb := byteAt_v hTs s1 s2 s4
  rw [et, en] at hb
  refine TT.guard (wk47 hTs) (TT.join (fun _ => ¬(s.1 47 8 < n ∧ isB (M.1 2 (s.1 47 8)) = true)) (fun _ hst => TT.sM ?_) (fun j hj => TT.ite (fun c => ?_) (fun c => hj () (fun q => c (by rw [en]; exact q.1)))))
  · have e8 : s.1 47 8 = tS (M.1 2) n J := by rw [← hS, tS_end hst]
    have h1 : SZ M (mst s 47 10 (s.1 47 8)) := hK.st (by decide)
    have hR1 : RS (mst s 47 10 (s.1 47 8)) := hR0
    have f10 : (mst s 47 10 (s.1 47 8)).1 47 10 = tS (M.1 2) n J := e8
    have f8 : (mst s 47 10 (s.1 47 8)).1 47 8 = tS (M.1 2) n J := e8
    generalize mst s 47 10 (s.1 47 8) = A at *
    have hT1 := h1.1.kd.wt hT
    have et1 : A.1 2 = M.1 2 := h1.1.t
    have en1 : A.1 47 7 = n := h1.2.1.trans hn
    have hb1 := byteAt_v hT1 hR1.1 hR1.2.1.1 hR1.2.2.1
    rw [et1, en1, f8] at hb1
    rw [f8, en1]
    generalize hjj : tS (M.1 2) n J = j at *
    refine TT.bindE hb1 (TT.ite (fun c => ?_) (fun c => TT.sM (TT.ok ⟨h1.st (by decide), hR1, ?_⟩)))
    · rw [if_pos c]
      refine TT.bindE (isL_v _) ?_
      have n1 : ¬ n ≤ j := by omega
      by_cases l : isL (M.1 2 j) = true
      · rw [if_pos l]
        refine TT.neg (by decide) (TT.sM ?_)
        have eE : tE (M.1 2) n J = scE isL (M.1 2) n j := by unfold tE; rw [hjj, if_neg n1, if_pos l]
        have eK : tK (M.1 2) n J = 1 := by unfold tK; rw [hjj, if_neg n1, if_pos l]
        have h2 : SZ M (mst A 47 9 1) := h1.st (by decide)
        have hR2 : RS (mst A 47 9 1) := hR1
        have g10 : (mst A 47 9 1).1 47 10 = j := f10
        have g9 : (mst A 47 9 1).1 47 9 = 1 := rfl
        have g8 : (mst A 47 9 1).1 47 8 = j := f8
        generalize mst A 47 9 1 = B at *
        refine TT.iter (fun s : Mem => (SZ M s ∧ RS s) ∧ (s.1 47 10 = j ∧ s.1 47 9 = 1) ∧ scE isL (M.1 2) n (s.1 47 8) = scE isL (M.1 2) n j) (fun s => (s.1 47 7 - s.1 47 8).toNat) ?_ BIG B ⟨⟨h2, hR2⟩, ⟨g10, g9⟩, by rw [g8]⟩ hR2.b
        rintro rec2 u ⟨⟨hKu, hRu⟩, ⟨u10, u9⟩, hsc⟩ hr2
        have hTu := hKu.1.kd.wt hT
        have etu : u.1 2 = M.1 2 := hKu.1.t
        have enu : u.1 47 7 = n := hKu.2.1.trans hn
        have hbu := byteAt_v hTu hRu.1 hRu.2.1.1 hRu.2.2.1
        rw [etu, enu] at hbu
        rw [enu]
        have fin : ¬(u.1 47 8 < n ∧ isL (M.1 2 (u.1 47 8)) = true) → TT (some u) (fun r => SZ M r ∧ RS r ∧ TokX (M.1 2) n J r) := fun q => TT.ok ⟨hKu, hRu, by rw [hjj]; exact u10, by rw [eK]; exact u9, fun _ => by rw [eE, ← hsc, scE_end q], fun z => by rw [eK] at z; omega⟩
        refine TT.guard (wk47 hTu) (TT.ite (fun cu => ?_) (fun cu => fin (fun q => cu q.1)))
        rw [if_pos cu] at hbu
        refine TT.bindE hbu (TT.bindE (isL_v _) ?_)
        by_cases lu : isL (M.1 2 (u.1 47 8)) = true
        · rw [if_pos lu]
          refine TT.neg (by decide) (TT.sM ?_)
          have g := RS.next hRu (by rw [enu]; exact cu) (N := mst u 47 8 (w32 (u.1 47 8 + 1))) rfl rfl rfl
          have hu8 := hRu.2.2
          have hu7 := hRu.2.1
          have e : w32 (u.1 47 8 + 1) = u.1 47 8 + 1 := w32_of (by omega) (by omega)
          have hm := g.2
          rw [enu] at hm
          refine hr2 _ ⟨⟨hKu.st (by decide), g.1⟩, ⟨u10, u9⟩, ?_⟩ (by rw [enu]; exact hm)
          show scE isL (M.1 2) n (w32 (u.1 47 8 + 1)) = _
          rw [e, ← scE_go cu lu]; exact hsc
        · rw [if_neg lu]
          exact TT.pos rfl (fin (fun q => lu q.2))
      · rw [if_neg l]
        refine TT.pos rfl (TT.bindE (isD_v _) ?_)
        by_cases d : isD (M.1 2 j) = true
        · rw [if_pos d]
          have eE : tE (M.1 2) n J = scE isD (M.1 2) n j := by unfold tE; rw [hjj, if_neg n1, if_neg l, if_pos d]
          have eK : tK (M.1 2) n J = if scE isD (M.1 2) n j - j ≤ 2 then 2 else 4 := by unfold tK; rw [hjj, if_neg n1, if_neg l, if_pos d]
          have sn := stepNumber_V hT1 hR1 (by rw [f10, f8])
          rw [et1, en1, f8] at sn
          refine TT.neg (by decide) (TT.bind sn (fun z q => TT.ok ⟨h1.trans q.1, q.2.1, ?_⟩))
          obtain ⟨q1, q2, q3, q4, q5, q6, q7⟩ := q
          refine ⟨by rw [hjj, q3, f10], by rw [eK]; exact q5, fun _ => by rw [eE]; exact q4, fun z => ?_⟩
          have hV := tV_num z
          unfold tV
          rw [hjj, eE] at *
          by_cases y : scE isD (M.1 2) n j - j = 1
          · rw [if_pos y]; exact q6 y
          · rw [if_neg y]; exact q7 (by omega)
        · rw [if_neg d]
          refine TT.pos rfl (TT.ite (fun s59 => TT.sM (TT.sM ?_)) (fun s59 => TT.sM (TT.ok ⟨h1.st (by decide), hR1, ?_⟩)))
          · have eE : tE (M.1 2) n J = j + 1 := by unfold tE; rw [hjj, if_neg n1, if_neg l, if_neg d]
            have eK : tK (M.1 2) n J = 3 := by unfold tK; rw [hjj, if_neg n1, if_neg l, if_neg d, if_pos s59]
            have g := RS.next hR1 (by rw [en1, f8]; exact c) (N := mst (mst A 47 9 3) 47 8 (w32 ((mst A 47 9 3).1 47 8 + 1))) rfl rfl rfl
            have ha8 := hR1.2.2
            have ha7 := hR1.2.1
            refine TT.ok ⟨(h1.st (by decide)).st (by decide), g.1, by rw [hjj]; exact f10, by rw [eK]; rfl, fun _ => ?_, fun z => by rw [eK] at z; omega⟩
            show w32 (A.1 47 8 + 1) = _
            rw [eE, w32_of (by omega) (by omega), f8]
          · have eK : tK (M.1 2) n J = 4 := by unfold tK; rw [hjj, if_neg n1, if_neg l, if_neg d, if_neg s59]
            exact ⟨by rw [hjj]; exact f10, by rw [eK]; rfl, fun z => absurd eK z, fun z => by rw [eK] at z; omega⟩
    · have eK : tK (M.1 2) n J = 0 := by unfold tK; rw [hjj, if_pos (by omega)]
      have eE : tE (M.1 2) n J = j := by unfold tE; rw [hjj, if_pos (by omega)]
      exact ⟨by rw [hjj]; exact f10, by rw [eK]; rfl, fun _ => by rw [eE]; exact f8, fun z => by rw [eK] at z; omega⟩
  · rw [en] at c
    rw [if_pos c] at hb
    refine TT.bindE hb (TT.bindE (isB_v _) ?_)
    by_cases d : isB (M.1 2 (s.1 47 8)) = true
    · rw [if_pos d]
      refine TT.neg (by decide) (TT.sM ?_)
      have g := RS.next (M := s) ⟨s1, ⟨s2, s3⟩, s4, s5⟩ (by rw [en]; exact c) (N := mst s 47 8 (w32 (s.1 47 8 + 1))) rfl rfl rfl
      have e : w32 (s.1 47 8 + 1) = s.1 47 8 + 1 := w32_of (by omega) (by omega)
      refine hr _ ⟨hK.st (by decide), g.1, ?_⟩ g.2
      show tS (M.1 2) n (w32 (s.1 47 8 + 1)) = _
      rw [e, ← tS_go c d]; exact hS
    · rw [if_neg d]
      exact TT.pos rfl (hj () (fun q => d q.2))
end StepV
