/-! the class: a line and a text read as the spec has them -/
section ReadV
variable {M N : Mem} {T : Int → Int} {n i : Int}
def CRep (s : Int) (M : Mem) (T : Int → Int) (n : Int) (σ : RSt) : Prop := (RS M ∧ M.1 2 = T ∧ M.1 47 7 = n ∧ 0 ≤ σ.1 ∧ σ.1 ≤ n) ∧ TokX T n σ.1 M ∧ (M.1 47 0, M.1 47 1) = σ.2.1 ∧ CDr s M σ.2.2.1 ∧ (M.1 47 13 = 0 ∧ M.1 47 14 = σ.2.2.2.1 ∧ M.1 47 15 = σ.2.2.2.2) ∧ DRF M
theorem breakOff_V (hT : WT M) : TT (fX3_breakOff M 47) (fun r => SK M r ∧ r.1 47 13 = 1 ∧ r.1 47 0 = 1 ∧ r.1 47 1 = M.1 47 10 ∧ r.1 47 7 = M.1 47 7) := by
  unfold fX3_breakOff
  exact TT.guard (wk47 hT) (TT.sM (TT.sM (TT.sM (TT.ok ⟨(((SK.self M).st (by decide)).st (by decide)).st (by decide), rfl, rfl, rfl, rfl⟩))))
theorem sOf_s {s l : Int} (s0 : 0 ≤ s) (s4 : s < 4) (h0 : FL_ s ≤ l) (h1 : l < FL_ (s + 1)) : sOf l = s := by
  unfold sOf
  rcases (show s = 0 ∨ s = 1 ∨ s = 2 ∨ s = 3 by omega) with e | e | e | e <;> subst e
  · have : FL_ (0 + 1) = 9 := rfl
    rw [if_pos (by omega)]
  · have a : FL_ 1 = 9 := rfl
    have b : FL_ (1 + 1) = 12 := rfl
    rw [if_neg (by omega), if_pos (by omega)]
  · have a : FL_ 2 = 12 := rfl
    have b : FL_ (2 + 1) = 16 := rfl
    rw [if_neg (by omega), if_neg (by omega), if_pos (by omega)]
  · have a : FL_ 3 = 16 := rfl
    rw [if_neg (by omega), if_neg (by omega), if_neg (by omega)]
theorem isFull_V (hT : WT M) {D : Int → Int} {l : Int} (hD : CDr (sOf l) M D) : TT (fX3_isFull M 47 l) (fun r => r = if fullB l D = true then 1 else 0) := by
  unfold fX3_isFull
  rw [wp47_2 hT, wp47_4 hT, wp47_5 hT]
  have fl : fullB l D = true ↔ (l = 8 ∧ 4 ≤ D 1) ∨ ((12 ≤ l ∧ l ≤ 15) ∧ 40 ≤ D 0) ∨ (l = 16 ∧ 8 ≤ D 0) := by
    unfold fullB
    simp only [Bool.or_eq_true, Bool.and_eq_true, decide_eq_true_eq]
    omega
  refine TT.ite (fun e => ?_) (fun e8 => ?_)
  · have es : sOf l = 0 := by unfold sOf; rw [if_pos (by omega)]
    rw [es] at hD
    have a1 := (hD.1 rfl).1.2
    refine TT.guard (wk47 hT) (TT.guard (wk48 hT) (TT.ite (fun c => TT.ok ?_) (fun c => TT.ok ?_)))
    · rw [if_neg (fun q => by rw [fl] at q; omega)]
    · rw [if_pos (fl.mpr (by omega))]
  · refine TT.join (fun _ => l < 12 ∨ 15 < l) (fun _ hl => TT.ite (fun e => ?_) (fun e => TT.ok ?_)) (fun j hj => TT.ite (fun c => hj () (Or.inl c)) (fun c => TT.ite (fun c2 => hj () (Or.inr c2)) (fun c2 => ?_)))
    · have es : sOf l = 3 := by unfold sOf; rw [if_neg (by omega), if_neg (by omega), if_neg (by omega)]
      rw [es] at hD
      have a1 := (hD.2.2.2.1 rfl).1
      refine TT.guard (wk47 hT) (TT.guard (wk63 hT) (TT.ite (fun c => TT.ok ?_) (fun c => TT.ok ?_)))
      · rw [if_neg (fun q => by rw [fl] at q; omega)]
      · rw [if_pos (fl.mpr (by omega))]
    · rw [if_neg (fun q => by rw [fl] at q; omega)]
    · have es : sOf l = 2 := by unfold sOf; rw [if_neg (by omega), if_neg (by omega), if_pos (by omega)]
      rw [es] at hD
      have a1 := (hD.2.2.1 rfl).1
      refine TT.guard (wk47 hT) (TT.guard (wk58 hT) (TT.ite (fun c => TT.ok ?_) (fun c => TT.ok ?_)))
      · rw [if_neg (fun q => by rw [fl] at q; omega)]
      · rw [if_pos (fl.mpr (by omega))]
theorem note_V (hT : WT M) (f p : Int) : TT (fX3_note M 47 f p) (fun r => (r.2 = M.2 ∧ ∀ x y, (x ≠ 47 ∨ (y ≠ 0 ∧ y ≠ 1)) → r.1 x y = M.1 x y) ∧ (r.1 47 0, r.1 47 1) = nt f p (M.1 47 0, M.1 47 1)) := by
  unfold fX3_note nt
  refine TT.guard (wk47 hT) (TT.ite (fun c => TT.sM (TT.sM (TT.ok ⟨⟨rfl, fun x y h => ?_⟩, ?_⟩))) (fun c => TT.ok ⟨⟨rfl, fun _ _ _ => rfl⟩, ?_⟩))
  · rw [mst_r, if_neg (by omega), mst_r, if_neg (by omega)]
  · rw [if_pos c]; rfl
  · rw [if_neg c]
/-- the fault that numbers leave: none, if they stand within their bounds -/
theorem fpN_0 {l : Int} {fp : Int × Int} : ∀ k : Nat, (fpN T n l i fp k).1 = 0 → fp.1 = 0 ∧ fpN T n l i fp k = fp ∧ ∀ j : Nat, j < k → ¬ badB l j (tV T n (tP T n i (j + 1))) (tV T n (tP T n i 1)) = true
  | 0, h => ⟨h, rfl, fun j hj => absurd hj (Nat.not_lt_zero _)⟩
  | k + 1, h => by
    unfold fpN at h ⊢
    by_cases c : badB l k (tV T n (tP T n i (k + 1))) (tV T n (tP T n i 1)) = true
    · rw [if_pos c] at h
      exfalso
      unfold nt at h
      by_cases z : (fpN T n l i fp k).1 = 0
      · rw [if_pos z] at h
        have h' : (2 : Int) = 0 := h
        omega
      · rw [if_neg z] at h; exact z h
    · rw [if_neg c] at h ⊢
      obtain ⟨a, b, d⟩ := fpN_0 k h
      refine ⟨a, b, fun j hj => ?_⟩
      by_cases e : j = k
      · rw [e]; exact c
      · exact d j (by omega)
theorem fp0_0 {s : Int} {σ : RSt} (h : (fp0 T n s σ).1 = 0) : σ.2.1.1 = 0 ∧ fp0 T n s σ = σ.2.1 ∧ fullB (lnIx T n σ.1 s) σ.2.2.1 = false := by
  unfold fp0 at h ⊢
  by_cases c : fullB (lnIx T n σ.1 s) σ.2.2.1 = true
  · exfalso
    rw [if_pos c] at h
    unfold nt at h
    by_cases z : σ.2.1.1 = 0
    · rw [if_pos z] at h
      have h' : (3 : Int) = 0 := h
      omega
    · rw [if_neg z] at h; exact z h
  · rw [if_neg c] at h ⊢
    exact ⟨h, rfl, by simpa using c⟩
theorem uL_0 (a b c : Int) (D : Int → Int) : updL 0 a b c D = up D 0 a := by
  unfold updL
  rw [if_pos rfl]
theorem uL_1 (a b c : Int) (D : Int → Int) : updL 1 a b c D = up D (2 + 5 * a + b) c := by
  unfold updL
  rw [if_neg (by decide), if_pos rfl]
theorem uL_2 (a b c : Int) (D : Int → Int) : updL 2 a b c D = up D (32 + 5 * a + b) c := by
  unfold updL
  rw [if_neg (by decide), if_neg (by decide), if_pos rfl]
theorem uL_3 (a b c : Int) (D : Int → Int) : updL 3 a b c D = up D (62 + a) b := by
  unfold updL
  rw [if_neg (by decide), if_neg (by decide), if_neg (by decide), if_pos rfl]
theorem uL_4 (a b c : Int) (D : Int → Int) : updL 4 a b c D = up D (68 + a) b := by
  unfold updL
  rw [if_neg (by decide), if_neg (by decide), if_neg (by decide), if_neg (by decide), if_pos rfl]
theorem uL_5 (a b c : Int) (D : Int → Int) : updL 5 a b c D = up D (74 + a) b := by
  unfold updL
  rw [if_neg (by decide), if_neg (by decide), if_neg (by decide), if_neg (by decide), if_neg (by decide), if_pos rfl]
theorem uL_6 (a b c : Int) (D : Int → Int) : updL 6 a b c D = up D (79 + a) b := by
  unfold updL
  rw [if_neg (by decide), if_neg (by decide), if_neg (by decide), if_neg (by decide), if_neg (by decide), if_neg (by decide), if_pos rfl]
theorem uL_7 (a b c : Int) (D : Int → Int) : updL 7 a b c D = up D (88 + a) b := by
  unfold updL
  rw [if_neg (by decide), if_neg (by decide), if_neg (by decide), if_neg (by decide), if_neg (by decide), if_neg (by decide), if_neg (by decide), if_pos rfl]
theorem uL_8 (a b c : Int) (D : Int → Int) : updL 8 a b c D = up (up D (84 + D 1) a) 1 (D 1 + 1) := by
  unfold updL
  rw [if_neg (by decide), if_neg (by decide), if_neg (by decide), if_neg (by decide), if_neg (by decide), if_neg (by decide), if_neg (by decide), if_neg (by decide), if_pos rfl]
theorem uL_9 (a b c : Int) (D : Int → Int) : updL 9 a b c D = up D 0 a := by
  unfold updL
  rw [if_neg (by decide), if_neg (by decide), if_neg (by decide), if_neg (by decide), if_neg (by decide), if_neg (by decide), if_neg (by decide), if_neg (by decide), if_neg (by decide), if_pos rfl]
theorem uL_10 (a b c : Int) (D : Int → Int) : updL 10 a b c D = up D 1 a := by
  unfold updL
  rw [if_neg (by decide), if_neg (by decide), if_neg (by decide), if_neg (by decide), if_neg (by decide), if_neg (by decide), if_neg (by decide), if_neg (by decide), if_neg (by decide), if_neg (by decide), if_pos rfl]
theorem uL_11 (a b c : Int) (D : Int → Int) : updL 11 a b c D = up D 2 (bOr (D 2) (bShl 1 a)) := by
  unfold updL
  rw [if_neg (by decide), if_neg (by decide), if_neg (by decide), if_neg (by decide), if_neg (by decide), if_neg (by decide), if_neg (by decide), if_neg (by decide), if_neg (by decide), if_neg (by decide), if_neg (by decide), if_pos rfl]
theorem uL_12 (a b c : Int) (D : Int → Int) : updL 12 a b c D = up (up (up (up (up D (1 + 4 * D 0) (12 - 12)) (2 + 4 * D 0) a) (3 + 4 * D 0) b) (4 + 4 * D 0) c) 0 (D 0 + 1) := by
  unfold updL
  rw [if_neg (by decide), if_neg (by decide), if_neg (by decide), if_neg (by decide), if_neg (by decide), if_neg (by decide), if_neg (by decide), if_neg (by decide), if_neg (by decide), if_neg (by decide), if_neg (by decide), if_neg (by decide), if_neg (by decide), if_pos (by decide)]
theorem uL_13 (a b c : Int) (D : Int → Int) : updL 13 a b c D = up (up (up (up (up D (1 + 4 * D 0) (13 - 12)) (2 + 4 * D 0) a) (3 + 4 * D 0) b) (4 + 4 * D 0) c) 0 (D 0 + 1) := by
  unfold updL
  rw [if_neg (by decide), if_neg (by decide), if_neg (by decide), if_neg (by decide), if_neg (by decide), if_neg (by decide), if_neg (by decide), if_neg (by decide), if_neg (by decide), if_neg (by decide), if_neg (by decide), if_neg (by decide), if_neg (by decide), if_pos (by decide)]
theorem uL_14 (a b c : Int) (D : Int → Int) : updL 14 a b c D = up (up (up (up (up D (1 + 4 * D 0) (14 - 12)) (2 + 4 * D 0) a) (3 + 4 * D 0) b) (4 + 4 * D 0) c) 0 (D 0 + 1) := by
  unfold updL
  rw [if_neg (by decide), if_neg (by decide), if_neg (by decide), if_neg (by decide), if_neg (by decide), if_neg (by decide), if_neg (by decide), if_neg (by decide), if_neg (by decide), if_neg (by decide), if_neg (by decide), if_neg (by decide), if_neg (by decide), if_pos (by decide)]
theorem uL_15 (a b c : Int) (D : Int → Int) : updL 15 a b c D = up (up (up (up (up D (1 + 4 * D 0) 3) (2 + 4 * D 0) (-1)) (3 + 4 * D 0) (-1)) (4 + 4 * D 0) (-1)) 0 (D 0 + 1) := by
  unfold updL
  rw [if_neg (by decide), if_neg (by decide), if_neg (by decide), if_neg (by decide), if_neg (by decide), if_neg (by decide), if_neg (by decide), if_neg (by decide), if_neg (by decide), if_neg (by decide), if_neg (by decide), if_neg (by decide), if_pos rfl]
theorem uL_16 (a b c : Int) (D : Int → Int) : updL 16 a b c D = up (up (up D (1 + 2 * D 0) a) (2 + 2 * D 0) b) 0 (D 0 + 1) := by
  unfold updL
  rw [if_neg (by decide), if_neg (by decide), if_neg (by decide), if_neg (by decide), if_neg (by decide), if_neg (by decide), if_neg (by decide), if_neg (by decide), if_neg (by decide), if_neg (by decide), if_neg (by decide), if_neg (by decide), if_neg (by decide), if_neg (by decide), if_pos rfl]
theorem uL_17 (a b c : Int) (D : Int → Int) : updL 17 a b c D = up D (17 + 5 * a + b) c := by
  unfold updL
  rw [if_neg (by decide), if_neg (by decide), if_neg (by decide), if_neg (by decide), if_neg (by decide), if_neg (by decide), if_neg (by decide), if_neg (by decide), if_neg (by decide), if_neg (by decide), if_neg (by decide), if_neg (by decide), if_neg (by decide), if_neg (by decide), if_neg (by decide)]
theorem updL_eq {l a0 a1 a2 b0 b1 b2 : Int} {D : Int → Int} (l0 : 0 ≤ l) (l1 : l < 18) (h0 : 0 < nmL l → a0 = b0) (h1 : 1 < nmL l → a1 = b1) (h2 : 2 < nmL l → a2 = b2) : updL l a0 a1 a2 D = updL l b0 b1 b2 D := by
  rcases (show l = 0 ∨ l = 1 ∨ l = 2 ∨ l = 3 ∨ l = 4 ∨ l = 5 ∨ l = 6 ∨ l = 7 ∨ l = 8 ∨ l = 9 ∨ l = 10 ∨ l = 11 ∨ l = 12 ∨ l = 13 ∨ l = 14 ∨ l = 15 ∨ l = 16 ∨ l = 17 by omega) with e | e | e | e | e | e | e | e | e | e | e | e | e | e | e | e | e | e <;> subst e
  · rw [uL_0, uL_0, h0 (by decide)]
  · rw [uL_1, uL_1, h0 (by decide), h1 (by decide), h2 (by decide)]
  · rw [uL_2, uL_2, h0 (by decide), h1 (by decide), h2 (by decide)]
  · rw [uL_3, uL_3, h0 (by decide), h1 (by decide)]
  · rw [uL_4, uL_4, h0 (by decide), h1 (by decide)]
  · rw [uL_5, uL_5, h0 (by decide), h1 (by decide)]
  · rw [uL_6, uL_6, h0 (by decide), h1 (by decide)]
  · rw [uL_7, uL_7, h0 (by decide), h1 (by decide)]
  · rw [uL_8, uL_8, h0 (by decide)]
  · rw [uL_9, uL_9, h0 (by decide)]
  · rw [uL_10, uL_10, h0 (by decide)]
  · rw [uL_11, uL_11, h0 (by decide)]
  · rw [uL_12, uL_12, h0 (by decide), h1 (by decide), h2 (by decide)]
  · rw [uL_13, uL_13, h0 (by decide), h1 (by decide), h2 (by decide)]
  · rw [uL_14, uL_14, h0 (by decide), h1 (by decide), h2 (by decide)]
  · rw [uL_15, uL_15]
  · rw [uL_16, uL_16, h0 (by decide), h1 (by decide)]
  · rw [uL_17, uL_17, h0 (by decide), h1 (by decide), h2 (by decide)]
theorem upH_eq {l a0 a1 b0 b1 th : Int} (l0 : 0 ≤ l) (l1 : l < 18) (h0 : 0 < nmL l → a0 = b0) (h1 : 1 < nmL l → a1 = b1) : upH l a0 a1 th = upH l b0 b1 th := by
  rcases (show l = 0 ∨ l = 1 ∨ l = 2 ∨ l = 3 ∨ l = 4 ∨ 5 ≤ l by omega) with e | e | e | e | e | e
  · subst e; rfl
  · subst e; rw [h0 (by decide), h1 (by decide)]
  · subst e; rw [h0 (by decide), h1 (by decide)]
  · subst e; rw [h0 (by decide), h1 (by decide)]
  · subst e; rw [h0 (by decide), h1 (by decide)]
  · unfold upH; rw [if_neg (by omega), if_neg (by omega), if_neg (by omega), if_neg (by omega)]
theorem upT_eq {l a0 a1 b0 b1 tt : Int} (l0 : 0 ≤ l) (l1 : l < 18) (h0 : 0 < nmL l → a0 = b0) (h1 : 1 < nmL l → a1 = b1) : upT l a0 a1 tt = upT l b0 b1 tt := by
  by_cases e : l = 7
  · subst e; rw [h0 (by decide), h1 (by decide)]
  · unfold upT; rw [if_neg e, if_neg e]
set_option maxHeartbeats 2000000 in
theorem readLine_V (hT : WT M) {s : Int} (s0 : 0 ≤ s) (s4 : s < 4) {σ : RSt} (h : CRep s M T n σ) : TT (fX3_readLine M 47 s) (fun r => KD M r ∧ ((∃ pl, BRK T n s σ pl ∧ r.1 47 13 = 1 ∧ r.1 47 0 = 1 ∧ r.1 47 1 = pl ∧ r.1 47 7 = n) ∨ (CL1 T n s σ ∧ CRep s r T n (nxL T n s σ)))) := by
  obtain ⟨⟨hs, hT2, hn, i0, i1⟩, hX, hfp, hD, ⟨h13, h14, h15⟩, hDR⟩ := h
  unfold fX3_readLine
  have hX' := hX
  obtain ⟨x1, x2, x3, x4⟩ := hX
  have hx : TokX (M.1 2) (M.1 47 7) σ.1 M := by rw [hT2, hn]; exact hX'
  refine TT.guard (wk47 hT) (TT.join (fun l : Int => l = if tK T n σ.1 = 1 then lnIx T n σ.1 s else -1) (fun l hl => ?_) (fun j hj => TT.ite (fun c => ?_) (fun c => hj _ (by rw [if_neg (by rw [x2] at c; exact c)]))))
  · by_cases cK : tK T n σ.1 = 1
    · rw [if_pos cK] at hl
      by_cases cL : l = -1
      · refine TT.pos cL (TT.bind (breakOff_V hT) (fun r q => TT.ok ⟨q.1.kd, Or.inl ⟨tS T n σ.1, Or.inl ⟨Or.inr (by rw [← hl]; exact cL), rfl⟩, q.2.1, q.2.2.1, by rw [q.2.2.2.1]; exact x1, q.2.2.2.2.trans hn⟩⟩))
      · refine TT.neg cL ?_
        have sp := @lnIx_sp T n σ.1 s s0 s4
        rw [← hl] at sp
        obtain ⟨f0, f1, fw⟩ := sp.resolve_left (fun z => cL z.1)
        have fb := FL_b s0 s4
        have es : sOf l = s := sOf_s s0 s4 f0 f1
        have l0 : 0 ≤ l := by omega
        have l1 : l < 18 := by omega
        have hnm := nm3 l0 l1
        have e8 := x3 (by rw [cK]; decide)
        rw [← es] at hD
        refine TT.bind (isFull_V hT hD) (fun r7 q7 => TT.join (fun t : Mem => (t.2 = M.2 ∧ ∀ x y, (x ≠ 47 ∨ (y ≠ 0 ∧ y ≠ 1)) → t.1 x y = M.1 x y) ∧ (t.1 47 0, t.1 47 1) = fp0 T n s σ) (fun t ht => ?_) (fun j hj => ?_))
        · obtain ⟨⟨t1, t2⟩, t3⟩ := ht
          have hSK : SK M t := ⟨t1, fun x y z => t2 x y (by omega)⟩
          have hTt := hSK.kd.wt hT
          have hRt : RS t := hs.of (t2 47 6 (by decide)) (t2 47 7 (by decide)) (t2 47 8 (by decide))
          have eT : t.1 2 = T := by rw [← hT2]; exact funext fun y => t2 2 y (Or.inl (by decide))
          have en : t.1 47 7 = n := (t2 47 7 (by decide)).trans hn
          have e8t : t.1 47 8 = tP T n σ.1 1 := (t2 47 8 (by decide)).trans e8
          have sv := step_V hTt hRt
          rw [eT, en, e8t] at sv
          refine TT.guard (wk47 hTt) (TT.bind sv (fun r11 q11 => ?_))
          refine TT.iter (fun u : Int × Mem => (0 ≤ u.1 ∧ u.1 ≤ 3) ∧ (KD M u.2 ∧ (∀ x y, 48 ≤ x → x ≤ 66 → u.2.1 x y = M.1 x y) ∧ RS u.2 ∧ u.2.1 2 = T ∧ u.2.1 47 7 = n) ∧ TokX T n (tP T n σ.1 (u.1.toNat + 1)) u.2 ∧ (u.2.1 47 0, u.2.1 47 1) = fpN T n l σ.1 (fp0 T n s σ) u.1.toNat ∧ (∀ j : Nat, j < u.1.toNat → u.2.1 67 j = vv T n σ.1 j) ∧ (okN T n σ.1 u.1.toNat ∧ u.1 ≤ nmL l) ∧ (u.2.1 47 13 = M.1 47 13 ∧ u.2.1 47 14 = M.1 47 14 ∧ u.2.1 47 15 = M.1 47 15)) (fun u => (3 - u.1).toNat) ?_ BIG (0, r11) ?_ (by unfold BIG; dsimp only; omega)
          · rintro rec ⟨k, u⟩ ⟨⟨k0, k3⟩, ⟨hKu, hfr, hRu, eTu, enu⟩, hXu, hfu, hvu, ⟨hok, hkm⟩, hu3⟩ hr
            simp only at k0 k3 hKu hfr hRu eTu enu hXu hfu hvu hok hkm hu3 ⊢
            have hTu := hKu.wt hT
            have dru : DRF u := by
              obtain ⟨d1, d2, d3, d4, d5, d6⟩ := hDR
              exact ⟨⟨by rw [hfr 48 _ (by decide) (by decide)]; exact d1.1, by rw [hfr 48 _ (by decide) (by decide)]; exact d1.2.1, fun a y k1 k8 y0 y1 => by rw [hfr _ _ (by omega) (by omega)]; exact d1.2.2 a y k1 k8 y0 y1⟩, by rw [hfr 57 _ (by decide) (by decide), hfr 57 _ (by decide) (by decide)]; exact d2, by rw [hfr 58 _ (by decide) (by decide)]; exact d3, by rw [hfr 63 _ (by decide) (by decide)]; exact d4, ⟨fun y a b => by rw [hfr 64 _ (by decide) (by decide)]; exact d5.1 y a b, fun y a b => by rw [hfr 65 _ (by decide) (by decide)]; exact d5.2 y a b⟩, fun y a b => by rw [hfr 66 _ (by decide) (by decide)]; exact d6 y a b⟩
            obtain ⟨y1, y2, y3, y4⟩ := hXu
            have brk : (((k.toNat : Nat) : Int) < nmL l ∧ tK T n (tP T n σ.1 (k.toNat + 1)) ≠ 2) ∨ (((k.toNat : Nat) : Int) = nmL l ∧ tK T n (tP T n σ.1 (k.toNat + 1)) ≠ 3) → TT ((fX3_breakOff u 47).bind fun r => some r) (fun r => KD M r ∧ ((∃ pl, BRK T n s σ pl ∧ r.1 47 13 = 1 ∧ r.1 47 0 = 1 ∧ r.1 47 1 = pl ∧ r.1 47 7 = n) ∨ (CL1 T n s σ ∧ CRep s r T n (nxL T n s σ)))) := fun z => TT.bind (breakOff_V hTu) (fun r q => TT.ok ⟨hKu.trans q.1.kd, Or.inl ⟨tS T n (tP T n σ.1 (k.toNat + 1)), Or.inr ⟨cK, by rw [← hl]; exact cL, k.toNat, hok, by rw [← hl]; exact z, rfl⟩, q.2.1, q.2.2.1, by rw [q.2.2.2.1]; exact y1, q.2.2.2.2.trans enu⟩⟩)
            refine TT.guard ⟨l0, l1⟩ (TT.ite (fun ck => TT.guard (wk47 hTu) (TT.ite (fun c2 => ?_) (fun c2 => brk (Or.inl ⟨by show ((k.toNat : Nat) : Int) < (sTab 1).getD l.toNat 0; omega, by rw [y2] at c2; exact c2⟩)))) (fun ck => ?_))
            · rw [y2] at c2
              have e8u := y3 (by rw [c2]; decide)
              refine TT.bind (readNumber_V hTu l0 l1 k0 (by omega)) (fun r q => ?_)
              obtain ⟨⟨q1, q2⟩, q3, q4, q5⟩ := q
              have hKr : KD u r := ⟨q1, fun x y z z4 z5 => q2 x y (by intro e; subst e; cases z) (by
                by_cases c : x = 47 ∧ (y = 0 ∨ y = 1)
                · exfalso
                  rw [c.1, scr47 (by omega)] at z; cases z
                · omega)⟩
              have hTr := hKr.wt hTu
              have hRr : RS r := hRu.of (q2 47 6 (by decide) (by decide)) (q2 47 7 (by decide) (by decide)) (q2 47 8 (by decide) (by decide))
              have eTr : r.1 2 = T := by rw [← eTu]; exact funext fun y => q2 2 y (by decide) (Or.inl (by decide))
              have enr : r.1 47 7 = n := (q2 47 7 (by decide) (by decide)).trans enu
              have e8r : r.1 47 8 = tP T n σ.1 (k.toNat + 2) := (q2 47 8 (by decide) (by decide)).trans e8u
              have sv2 := step_V hTr hRr
              rw [eTr, enr, e8r] at sv2
              refine TT.guard (wk47 hTr) (TT.bind sv2 (fun r2 p => ?_))
              obtain ⟨⟨⟨⟨pa, pb⟩, p0⟩, p7, p1, p13, p14, p15⟩, pR, pX⟩ := p
              have ek : w32 (k + 1) = k + 1 := w32_of (by omega) (by omega)
              have ek2 : (k + 1).toNat = k.toNat + 1 := by omega
              refine hr (w32 (k + 1), r2) ⟨?_, ⟨(hKu.trans hKr).trans (SK.kd (M := r) (N := r2) ⟨pa, pb⟩), fun x y a b => ?_, pR, ?_, ?_⟩, ?_, ?_, fun j hj => ?_, ⟨?_, ?_⟩, ?_⟩ ?_
              · show 0 ≤ w32 (k + 1) ∧ w32 (k + 1) ≤ 3
                rw [ek]; omega
              · rw [pb x y (Or.inl (by omega)), q2 x y (by omega) (Or.inl (by omega))]; exact hfr x y a b
              · rw [← eTr]; exact funext fun y => pb 2 y (Or.inl (by decide))
              · exact p7.trans enr
              · show TokX T n (tP T n σ.1 ((w32 (k + 1)).toNat + 1)) r2
                rw [ek, ek2]; exact pX
              · show (r2.1 47 0, r2.1 47 1) = fpN T n l σ.1 (fp0 T n s σ) (w32 (k + 1)).toNat
                rw [ek, ek2, p0, p1, q5, hfu, y1, y4 c2]
                show _ = if badB l ((k.toNat : Nat) : Int) (tV T n (tP T n σ.1 (k.toNat + 1))) (tV T n (tP T n σ.1 1)) = true then nt 2 (tS T n (tP T n σ.1 (k.toNat + 1))) (fpN T n l σ.1 (fp0 T n s σ) k.toNat) else fpN T n l σ.1 (fp0 T n s σ) k.toNat
                rw [show ((k.toNat : Nat) : Int) = k by omega]
                by_cases kz : k.toNat = 0
                · -- the first number: nothing to be the same with
                  have kk : k = 0 := by omega
                  have e1 : badB l k (tV T n (tP T n σ.1 (k.toNat + 1))) (u.1 67 0) = badB l k (tV T n (tP T n σ.1 (k.toNat + 1))) (tV T n (tP T n σ.1 1)) := by
                    unfold badB
                    rw [kk, decide_eq_false (show ¬ (0 : Int) = 1 by decide), Bool.and_false, Bool.false_and, Bool.false_and]
                  rw [e1]
                · rw [show u.1 67 0 = tV T n (tP T n σ.1 1) from hvu 0 (by omega)]
              · have hj' : j < (w32 (k + 1)).toNat := hj
                rw [ek, ek2] at hj'
                show r2.1 67 j = vv T n σ.1 j
                rw [pb 67 j (Or.inl (by decide))]
                by_cases z : j = k.toNat
                · rw [z, show ((k.toNat : Nat) : Int) = k by omega, q3, y4 c2]; rfl
                · rw [q4 j (by omega)]; exact hvu j (by omega)
              · show okN T n σ.1 (w32 (k + 1)).toNat
                rw [ek, ek2]
                intro j j1 j2
                by_cases z : j = k.toNat + 1
                · rw [z]; exact c2
                · exact hok j j1 (by omega)
              · show w32 (k + 1) ≤ nmL l
                rw [ek]
                show k + 1 ≤ (sTab 1).getD l.toNat 0
                omega
              · show r2.1 47 13 = _ ∧ r2.1 47 14 = _ ∧ r2.1 47 15 = _
                rw [p13, p14, p15, q2 47 13 (by decide) (by decide), q2 47 14 (by decide) (by decide), q2 47 15 (by decide) (by decide)]; exact hu3
              · show (3 - w32 (k + 1)).toNat < (3 - k).toNat
                rw [ek]; omega
            · have ekm : k = nmL l := by
                show k = (sTab 1).getD l.toNat 0
                have : k ≤ (sTab 1).getD l.toNat 0 := hkm
                omega
              refine TT.guard (wk47 hTu) (TT.ite (fun c3 => ?_) (fun c3 => brk (Or.inr ⟨by omega, by rw [y2] at c3; exact c3⟩)))
              rw [y2] at c3
              have e8u := y3 (by rw [c3]; decide)
              have sv2 := step_V hTu hRu
              rw [eTu, enu, e8u] at sv2
              have hCL : CL1 T n s σ := ⟨cK, by rw [← hl]; exact cL, by rw [← hl, ← ekm]; exact hok, by rw [← hl, ← ekm]; exact c3⟩
              have eP : (nxL T n s σ).1 = tP T n σ.1 (k.toNat + 2) := by
                show tP T n σ.1 ((nmL (lnIx T n σ.1 s)).toNat + 2) = _
                rw [← hl, ← ekm]
              have eF : fpL T n s σ = fpN T n l σ.1 (fp0 T n s σ) k.toNat := by
                unfold fpL
                rw [← hl, ← ekm]
              have pb1 := tP_le (T := T) i1 (k.toNat + 2)
              refine TT.bind sv2 (fun r p => ?_)
              obtain ⟨⟨⟨⟨pa, pb⟩, p0⟩, p7, p1, p13, p14, p15⟩, pR, pX⟩ := p
              have hSr : SK u r := ⟨pa, pb⟩
              have hTr := hSr.kd.wt hTu
              have fr67 : ∀ j, r.1 67 j = u.1 67 j := fun j => pb 67 j (Or.inl (by decide))
              have eTr : r.1 2 = T := by rw [← eTu]; exact funext fun y => pb 2 y (Or.inl (by decide))
              have hfr2 : ∀ x y, 48 ≤ x → x ≤ 66 → r.1 x y = M.1 x y := fun x y a b => by rw [pb x y (Or.inl (by omega))]; exact hfr x y a b
              have hfpr : (r.1 47 0, r.1 47 1) = fpL T n s σ := by rw [p0, p1, hfu, eF]
              have hDr : CDr (sOf l) r σ.2.2.1 := hD.same hfr2
              have drr : DRF r := hSr.drf dru
              refine TT.guard (wk47 hTr) (TT.ite (fun e => ?_) (fun e => TT.ok ⟨hKu.trans hSr.kd, Or.inr ⟨hCL, ⟨pR, eTr, p7.trans enu, by rw [eP]; omega, by rw [eP]; exact pb1.1⟩, by rw [eP]; exact pX, hfpr, ?_, ⟨?_, ?_, ?_⟩, drr⟩⟩))
              · have ef0 : (fpL T n s σ).1 = 0 := by rw [← hfpr]; exact e
                have ef1 := ef0
                rw [eF] at ef1
                obtain ⟨g1, g2, g3⟩ := fpN_0 k.toNat ef1
                obtain ⟨g4, g5, g6⟩ := fp0_0 g1
                have hNV : NV r l := by
                  intro j j0 j1
                  have j1' : j < nmL l := j1
                  have hb := g3 j.toNat (by omega)
                  unfold badB at hb
                  simp only [Bool.or_eq_true, decide_eq_true_eq, not_or] at hb
                  have v := hvu j.toNat (by omega)
                  rw [show ((j.toNat : Nat) : Int) = j by omega] at v hb
                  rw [fr67, v]
                  exact ⟨Int.not_lt.mp hb.1.1, Int.not_lt.mp hb.1.2⟩
                have kl := keepLine_T hTr drr l0 l1 hNV
                have kv := keepLine_V hTr drr hDr l0 l1 hNV (by rw [hl]; exact g6)
                refine TT.bind (P := fun z => KQ r z ∧ KV (sOf l) r z σ.2.2.1 l (r.1 67 0) (r.1 67 1) (r.1 67 2)) ?_ (fun z qz => TT.ok ?_)
                · obtain ⟨z1, w1, w2⟩ := kl
                  obtain ⟨z2, w3, w4⟩ := kv
                  rw [w1] at w3
                  cases w3
                  exact ⟨z1, w1, w2, w4⟩
                · obtain ⟨⟨b1, b2, b3⟩, b4, b5, b6, b7⟩ := qz
                  have v0 : 0 < nmL l → r.1 67 0 = vv T n σ.1 0 := fun z => by rw [fr67]; exact hvu 0 (by omega)
                  have v1 : 1 < nmL l → r.1 67 1 = vv T n σ.1 1 := fun z => by rw [fr67]; exact hvu 1 (by omega)
                  have v2 : 2 < nmL l → r.1 67 2 = vv T n σ.1 2 := fun z => by rw [fr67]; exact hvu 2 (by omega)
                  have uD : updL l (r.1 67 0) (r.1 67 1) (r.1 67 2) σ.2.2.1 = updL l (vv T n σ.1 0) (vv T n σ.1 1) (vv T n σ.1 2) σ.2.2.1 := updL_eq l0 l1 v0 v1 v2
                  have uH : upH l (r.1 67 0) (r.1 67 1) (r.1 47 14) = upH l (vv T n σ.1 0) (vv T n σ.1 1) (r.1 47 14) := upH_eq l0 l1 v0 v1
                  have uT : upT l (r.1 67 0) (r.1 67 1) (r.1 47 15) = upT l (vv T n σ.1 0) (vv T n σ.1 1) (r.1 47 15) := upT_eq l0 l1 v0 v1
                  have hX2 : TokX T n (tP T n σ.1 (k.toNat + 2)) z := by
                    obtain ⟨o1, o2, o3, o4⟩ := pX
                    exact ⟨by rw [b7 10 (by decide) (by decide)]; exact o1, by rw [b7 9 (by decide) (by decide)]; exact o2, fun q => by rw [b7 8 (by decide) (by decide)]; exact o3 q, fun q => by rw [b7 11 (by decide) (by decide)]; exact o4 q⟩
                  refine ⟨(hKu.trans hSr.kd).trans b1, Or.inr ⟨hCL, ⟨pR.of (b3 6 (by decide) (by decide)) (b3 7 (by decide) (by decide)) (b3 8 (by decide) (by decide)), ?_, ?_, by rw [eP]; omega, by rw [eP]; exact pb1.1⟩, by rw [eP]; exact hX2, ?_, ?_, ⟨?_, ?_, ?_⟩, b2⟩⟩
                  · rw [← eTr]; exact funext fun y => b1.2 2 y rfl (by decide) (by decide)
                  · exact (b3 7 (by decide) (by decide)).trans (p7.trans enu)
                  · show (z.1 47 0, z.1 47 1) = fpL T n s σ
                    rw [b7 0 (by decide) (by decide), b7 1 (by decide) (by decide)]; exact hfpr
                  · show CDr s z (if (fpL T n s σ).1 = 0 then updL (lnIx T n σ.1 s) (vv T n σ.1 0) (vv T n σ.1 1) (vv T n σ.1 2) σ.2.2.1 else σ.2.2.1)
                    rw [if_pos ef0, ← hl, ← uD]
                    rw [es] at b4; exact b4
                  · rw [b7 13 (by decide) (by decide), p13, hu3.1]; exact h13
                  · show z.1 47 14 = (if (fpL T n s σ).1 = 0 then upH (lnIx T n σ.1 s) (vv T n σ.1 0) (vv T n σ.1 1) σ.2.2.2.1 else σ.2.2.2.1)
                    rw [if_pos ef0, ← hl, b5, uH, p14, hu3.2.1, h14]
                  · show z.1 47 15 = (if (fpL T n s σ).1 = 0 then upT (lnIx T n σ.1 s) (vv T n σ.1 0) (vv T n σ.1 1) σ.2.2.2.2 else σ.2.2.2.2)
                    rw [if_pos ef0, ← hl, b6, uT, p15, hu3.2.2, h15]
              · have ef0 : ¬ (fpL T n s σ).1 = 0 := by rw [← hfpr]; exact e
                show CDr s r (if (fpL T n s σ).1 = 0 then _ else σ.2.2.1)
                rw [if_neg ef0]
                rw [es] at hDr; exact hDr
              · rw [p13, hu3.1]; exact h13
              · have ef0 : ¬ (fpL T n s σ).1 = 0 := by rw [← hfpr]; exact e
                show r.1 47 14 = (if (fpL T n s σ).1 = 0 then _ else σ.2.2.2.1)
                rw [if_neg ef0, p14, hu3.2.1, h14]
              · have ef0 : ¬ (fpL T n s σ).1 = 0 := by rw [← hfpr]; exact e
                show r.1 47 15 = (if (fpL T n s σ).1 = 0 then _ else σ.2.2.2.2)
                rw [if_neg ef0, p15, hu3.2.2, h15]
          · obtain ⟨⟨⟨⟨pa, pb⟩, p0⟩, p7, p1, p13, p14, p15⟩, pR, pX⟩ := q11
            have hSr : SK t r11 := ⟨pa, pb⟩
            refine ⟨⟨by dsimp only; omega, by dsimp only; omega⟩, ⟨hSK.kd.trans hSr.kd, fun x y a b => ?_, pR, ?_, p7.trans en⟩, pX, ?_, fun j hj => absurd hj (by dsimp only; omega), ⟨fun j j1 j2 => absurd j2 (by dsimp only; omega), ?_⟩, ?_⟩
            · show r11.1 x y = M.1 x y
              rw [pb x y (Or.inl (by omega))]; exact t2 x y (Or.inl (by omega))
            · show r11.1 2 = T
              rw [← eT]; exact funext fun y => pb 2 y (Or.inl (by decide))
            · show (r11.1 47 0, r11.1 47 1) = fp0 T n s σ
              rw [p0, p1]; exact t3
            · show (0 : Int) ≤ (sTab 1).getD l.toNat 0
              exact hnm.2
            · show r11.1 47 13 = _ ∧ r11.1 47 14 = _ ∧ r11.1 47 15 = _
              rw [p13, p14, p15, t2 47 13 (by decide), t2 47 14 (by decide), t2 47 15 (by decide)]; exact ⟨rfl, rfl, rfl⟩
        · have e0 : fp0 T n s σ = if fullB l σ.2.2.1 = true then nt 3 (tS T n σ.1) σ.2.1 else σ.2.1 := by unfold fp0; rw [← hl]
          by_cases cf : fullB l σ.2.2.1 = true
          · rw [if_pos cf] at q7 e0
            refine TT.neg (by rw [q7]; decide) (TT.bind (note_V hT _ _) (fun r q => hj r ⟨q.1, ?_⟩))
            rw [e0, q.2, hfp, x1]
          · rw [if_neg cf] at q7 e0
            exact TT.pos q7 (hj M ⟨⟨rfl, fun _ _ _ => rfl⟩, by rw [e0]; exact hfp⟩)
    · rw [if_neg cK] at hl
      exact TT.pos hl (TT.bind (breakOff_V hT) (fun r q => TT.ok ⟨q.1.kd, Or.inl ⟨tS T n σ.1, Or.inl ⟨Or.inl cK, rfl⟩, q.2.1, q.2.2.1, by rw [q.2.2.2.1]; exact x1, q.2.2.2.2.trans hn⟩⟩))
  · rw [x2] at c
    have lv := lineOf_V hT hs hx (by rw [hT2, hn]; exact c) i0 s0 s4
    rw [hT2, hn] at lv
    exact TT.bind lv (fun r q => hj r (by rw [if_pos c]; exact q))
end ReadV
