/-! the first call on a fresh object: alms, and what is evaluated -/
def ansW (n : Int) : Int := if n ≤ 1 then 0 else if n ≤ 3 then 1 else if n ≤ 9 then 2 else if n ≤ 27 then 3 else if n ≤ 81 then 4 else 5
def ansA (n hv : Int) : Int := if n < 1 ∨ 60 < n then -1 else if hv = 0 ∨ n = 1 then ansW n else if n = 2 then -1 else ansW (2 * n + 1)
theorem weigh_v (M : Mem) {n : Int} (hn : n ≤ 243) : fX10_weighings M n = some (ansW n) := by
  have : TT (fX10_weighings M n) (fun r => r = ansW n) := by
    unfold fX10_weighings
    refine TT.iter (fun s : Int × Int => s = (0, 1) ∨ (s = (1, 3) ∧ 1 < n) ∨ (s = (2, 9) ∧ 3 < n) ∨ (s = (3, 27) ∧ 9 < n) ∨ (s = (4, 81) ∧ 27 < n) ∨ (s = (5, 243) ∧ 81 < n)) (fun s => (10 - s.1).toNat) ?_ BIG (0, 1) (Or.inl rfl) (by decide)
    intro rec s hs hrec
    unfold ansW
    rcases hs with rfl | ⟨rfl, h⟩ | ⟨rfl, h⟩ | ⟨rfl, h⟩ | ⟨rfl, h⟩ | ⟨rfl, h⟩
    · exact TT.ite (fun hc => TT.pos (by decide) (hrec _ (Or.inr (Or.inl ⟨by decide, hc⟩)) (by decide))) (fun hc => TT.ok (by simp only at hc ⊢; rw [if_pos (by omega)]))
    · exact TT.ite (fun hc => TT.pos (by decide) (hrec _ (Or.inr (Or.inr (Or.inl ⟨by decide, hc⟩))) (by decide))) (fun hc => TT.ok (by simp only at hc ⊢; rw [if_neg (by omega), if_pos (by omega)]))
    · exact TT.ite (fun hc => TT.pos (by decide) (hrec _ (Or.inr (Or.inr (Or.inr (Or.inl ⟨by decide, hc⟩)))) (by decide))) (fun hc => TT.ok (by simp only at hc ⊢; rw [if_neg (by omega), if_neg (by omega), if_pos (by omega)]))
    · exact TT.ite (fun hc => TT.pos (by decide) (hrec _ (Or.inr (Or.inr (Or.inr (Or.inr (Or.inl ⟨by decide, hc⟩))))) (by decide))) (fun hc => TT.ok (by simp only at hc ⊢; rw [if_neg (by omega), if_neg (by omega), if_neg (by omega), if_pos (by omega)]))
    · exact TT.ite (fun hc => TT.pos (by decide) (hrec _ (Or.inr (Or.inr (Or.inr (Or.inr (Or.inr ⟨by decide, hc⟩))))) (by decide))) (fun hc => TT.ok (by simp only at hc ⊢; rw [if_neg (by omega), if_neg (by omega), if_neg (by omega), if_neg (by omega), if_pos (by omega)]))
    · exact TT.ite (fun hc => absurd hc (by simp only; omega)) (fun hc => TT.ok (by simp only at hc ⊢; rw [if_neg (by omega), if_neg (by omega), if_neg (by omega), if_neg (by omega), if_neg (by omega)]))
  obtain ⟨r, h1, h2⟩ := this
  rw [h1, h2]
theorem x_alms (M : Mem) (a n hv : Int) : fX10_alms M a n hv = some (ansA n hv) := by
  have : TT (fX10_alms M a n hv) (fun r => r = ansA n hv) := by
    unfold fX10_alms
    refine TT.ite (fun h1 => TT.ok (by unfold ansA; rw [if_pos (Or.inl h1)])) (fun h1 => TT.ite (fun h2 => TT.ok (by unfold ansA; rw [if_pos (Or.inr h2)])) (fun h2 => TT.jI ?_))
    have hn : ¬ (n < 1 ∨ 60 < n) := by omega
    refine TT.ite (fun h3 => TT.bindE (weigh_v M (by omega)) (TT.ok (by unfold ansA; rw [if_neg hn, if_pos (Or.inl h3)]))) (fun h3 => TT.ite (fun h4 => TT.bindE (weigh_v M (by omega)) (TT.ok (by unfold ansA; rw [if_neg hn, if_pos (Or.inr h4)]))) (fun h4 => TT.ite (fun h5 => TT.ok (by unfold ansA; rw [if_neg hn, if_neg (fun q => q.elim h3 h4), if_pos h5])) (fun h5 => ?_)))
    rw [w32_of (x := 2 * n) (by omega) (by omega), w32_of (x := 2 * n + 1) (by omega) (by omega)]
    exact TT.bindE (weigh_v M (by omega)) (TT.ok (by unfold ansA; rw [if_neg hn, if_neg (fun q => q.elim h3 h4), if_neg h5]))
  obtain ⟨r, h1, h2⟩ := this
  rw [h1, h2]
theorem y_alms {M : Mem} {m : Int} (hk : M.2.1 m = 10) (n hv : Int) : TT (fX11_alms M m n hv) (fun q => q.1 = ansA n hv ∧ q.2 = mst M m 0 0) := by
  unfold fX11_alms ansA
  refine TT.guard hk (TT.sM (TT.bindE (r := if 1 ≤ n ∧ n ≤ 60 then 1 else 0) (by
    unfold fX11_in
    by_cases h1 : n < 1
    · rw [if_pos h1, if_neg (by omega)]
    · by_cases h2 : 60 < n
      · rw [if_neg h1, if_pos h2, if_neg (by omega)]
      · rw [if_neg h1, if_neg h2, if_pos (by omega)]) ?_))
  by_cases h1 : 1 ≤ n ∧ n ≤ 60
  · simp only [if_pos h1]
    refine TT.neg (by decide) ?_
    rw [if_neg (by omega)]
    unfold jn
    simp only
    by_cases h3 : hv = 0
    · rw [if_pos h3, if_pos (Or.inl h3)]
      refine TT.iter (fun s : Int × Int => s = (0, 1) ∨ (s = (1, 3) ∧ 1 < n) ∨ (s = (2, 9) ∧ 3 < n) ∨ (s = (3, 27) ∧ 9 < n) ∨ (s = (4, 81) ∧ 27 < n)) (fun s => (10 - s.1).toNat) ?_ BIG (0, 1) (Or.inl rfl) (by decide)
      intro rec s hs hrec
      unfold ansW
      simp only [if_pos h3]
      rcases hs with rfl | ⟨rfl, h⟩ | ⟨rfl, h⟩ | ⟨rfl, h⟩ | ⟨rfl, h⟩
      · exact TT.ite (fun hq => TT.ite (fun hc => hrec _ (Or.inr (Or.inl ⟨by decide, hc⟩)) (by decide)) (fun hc => TT.ok ⟨by simp only at hc ⊢; rw [if_pos (by omega)], rfl⟩)) (fun hq => TT.ok ⟨by simp only; rw [if_pos (by omega)], rfl⟩)
      · exact TT.pos h (TT.ite (fun hc => hrec _ (Or.inr (Or.inr (Or.inl ⟨by decide, hc⟩))) (by decide)) (fun hc => TT.ok ⟨by simp only at hc ⊢; rw [if_neg (by omega), if_pos (by omega)], rfl⟩))
      · exact TT.pos (by omega) (TT.ite (fun hc => hrec _ (Or.inr (Or.inr (Or.inr (Or.inl ⟨by decide, hc⟩)))) (by decide)) (fun hc => TT.ok ⟨by simp only at hc ⊢; rw [if_neg (by omega), if_neg (by omega), if_pos (by omega)], rfl⟩))
      · exact TT.pos (by omega) (TT.ite (fun hc => hrec _ (Or.inr (Or.inr (Or.inr (Or.inr ⟨by decide, hc⟩)))) (by decide)) (fun hc => TT.ok ⟨by simp only at hc ⊢; rw [if_neg (by omega), if_neg (by omega), if_neg (by omega), if_pos (by omega)], rfl⟩))
      · exact TT.pos (by omega) (TT.ite (fun hc => absurd hc (by simp only; omega)) (fun hc => TT.ok ⟨by simp only at hc ⊢; rw [if_neg (by omega), if_neg (by omega), if_neg (by omega), if_neg (by omega), if_pos (by omega)], rfl⟩))
    · rw [if_neg h3]
      by_cases h5 : n = 2
      · rw [if_pos h5, if_neg (by omega), if_pos h5]
        exact TT.ok ⟨rfl, rfl⟩
      · rw [if_neg h5]
        refine TT.iter (fun s : Int × Int => s = (0, 1) ∨ (s = (1, 3) ∧ 1 < n) ∨ (s = (2, 9) ∧ 1 < n) ∨ (s = (3, 27) ∧ 4 < n) ∨ (s = (4, 81) ∧ 13 < n) ∨ (s = (5, 243) ∧ 40 < n)) (fun s => (10 - s.1).toNat) ?_ BIG (0, 1) (Or.inl rfl) (by decide)
        intro rec s hs hrec
        unfold ansW
        simp only [if_neg h3]
        rcases hs with rfl | ⟨rfl, h⟩ | ⟨rfl, h⟩ | ⟨rfl, h⟩ | ⟨rfl, h⟩ | ⟨rfl, h⟩
        · refine TT.ite (fun hq => TT.pos (by show w32 ((w32 (1 - 1)).tdiv 2) < n; rw [show w32 ((w32 (1 - 1)).tdiv 2) = 0 by decide]; omega) (hrec _ (Or.inr (Or.inl ⟨by decide, hq⟩)) (by decide))) (fun hq => TT.ok ⟨?_, rfl⟩)
          simp only
          rw [if_pos (Or.inr (by omega)), if_pos (by omega)]
        · exact TT.pos h (TT.pos (by show w32 ((w32 (3 - 1)).tdiv 2) < n; rw [show w32 ((w32 (3 - 1)).tdiv 2) = 1 by decide]; omega) (hrec _ (Or.inr (Or.inr (Or.inl ⟨by decide, h⟩))) (by decide)))
        · refine TT.pos h ?_
          rw [show w32 ((w32 (9 - 1)).tdiv 2) = 4 by decide]
          exact TT.ite (fun hc => hrec _ (Or.inr (Or.inr (Or.inr (Or.inl ⟨by decide, hc⟩)))) (by decide)) (fun hc => TT.ok ⟨by simp only; rw [if_neg (by omega), if_neg h5, if_neg (by omega), if_neg (by omega), if_pos (by omega)], rfl⟩)
        · refine TT.pos (by omega) ?_
          rw [show w32 ((w32 (27 - 1)).tdiv 2) = 13 by decide]
          exact TT.ite (fun hc => hrec _ (Or.inr (Or.inr (Or.inr (Or.inr (Or.inl ⟨by decide, hc⟩))))) (by decide)) (fun hc => TT.ok ⟨by simp only; rw [if_neg (by omega), if_neg h5, if_neg (by omega), if_neg (by omega), if_neg (by omega), if_pos (by omega)], rfl⟩)
        · refine TT.pos (by omega) ?_
          rw [show w32 ((w32 (81 - 1)).tdiv 2) = 40 by decide]
          exact TT.ite (fun hc => hrec _ (Or.inr (Or.inr (Or.inr (Or.inr (Or.inr ⟨by decide, hc⟩))))) (by decide)) (fun hc => TT.ok ⟨by simp only; rw [if_neg (by omega), if_neg h5, if_neg (by omega), if_neg (by omega), if_neg (by omega), if_neg (by omega), if_pos (by omega)], rfl⟩)
        · refine TT.pos (by omega) ?_
          rw [show w32 ((w32 (243 - 1)).tdiv 2) = 121 by decide]
          exact TT.neg (by omega) (TT.ok ⟨by simp only; rw [if_neg (by omega), if_neg h5, if_neg (by omega), if_neg (by omega), if_neg (by omega), if_neg (by omega), if_neg (by omega)], rfl⟩)
  · simp only [if_neg h1]
    exact TT.pos trivial (TT.ok ⟨by rw [if_pos (by omega)], rfl⟩)
def withS (k : Mem → Bool) : Bool := match fX10_init (mnew MZ 9 6) 0 with
  | none => false
  | some r => match fX11_init (mnew r 10 51) 85 with
    | none => false
    | some M => k M
theorem withS_of {r4 r10 : Mem} {k : Mem → Bool} (h4 : fX10_init (mnew MZ 9 6) 0 = some r4) (h10 : fX11_init (mnew r4 10 51) 85 = some r10) (h : withS k = true) : k r10 = true := by
  unfold withS at h
  rw [h4] at h
  simp only at h
  rw [h10] at h
  exact h
def textK (s : Int) (M : Mem) : Bool := match fX10_text M 0 s (-1) with
  | none => false
  | some q => decide (q.1 = 0) && decide (q.2.2.1 85 = 10) && match fX11_text q.2 85 s (-1) with
    | none => false
    | some w => decide (w.1 = 0)
def imageK (k : Int) (M : Mem) : Bool := match fX10_image M 0 k with
  | none => false
  | some q => decide (q.1 = 1) && kinds q.2 KL && hold q.2 PL
theorem textK_0 : withS (textK 0) = true := by decide +kernel
theorem textK_1 : withS (textK 1) = true := by decide +kernel
theorem textK_2 : withS (textK 2) = true := by decide +kernel
theorem textK_3 : withS (textK 3) = true := by decide +kernel
theorem imageK_0 : withS (imageK 0) = true := by decide +kernel
theorem imageK_1 : withS (imageK 1) = true := by decide +kernel
theorem imageK_2 : withS (imageK 2) = true := by decide +kernel
theorem textK_T {M : Mem} {s : Int} (h : textK s M = true) : TT (fX10_text M 0 s (-1)) (fun r => r.2.2.1 85 = 10 ∧ TT (fX11_text r.2 85 s (-1)) (fun q => r.1 = q.1)) := by
  unfold textK at h
  split at h
  · cases h
  · rename_i q hq
    simp only [Bool.and_eq_true, decide_eq_true_eq] at h
    obtain ⟨⟨h1, h2⟩, h⟩ := h
    split at h
    · cases h
    · rename_i r hr
      rw [decide_eq_true_eq] at h
      exact ⟨q, hq, h2, r, hr, h1.trans h.symm⟩
theorem imageK_T {M : Mem} {k : Int} (h : imageK k M = true) : TT (fX10_image M 0 k) (fun r => r.1 = 1 ∧ Shp r.2) := by
  unfold imageK at h
  split at h
  · cases h
  · rename_i q hq
    simp only [Bool.and_eq_true, decide_eq_true_eq] at h
    exact ⟨q, hq, h.1.1, h.1.2, h.2⟩
theorem fp1_1 : freeOf PL 1 1 = true := by decide +kernel
theorem fp1_2 : freeOf PL 1 2 = true := by decide +kernel
theorem fp1_3 : freeOf PL 1 3 = true := by decide +kernel
theorem fp85_11 : freeOf PL 85 11 = true := by decide +kernel
theorem fp87_0 : freeOf PL 87 0 = true := by decide +kernel
theorem fp88_0 : freeOf PL 88 0 = true := by decide +kernel
theorem fp89_0 : freeOf PL 89 0 = true := by decide +kernel
theorem slot_fr {M : Mem} (h : Shp M) (c : ∀ j, 0 ≤ j → j < 4 → M.1 3 j = 0) {s at' : Int} (hc : s < 0 ∨ 4 ≤ s ∨ at' ≠ -1) : fX6_slot M 1 s at' = some (-1) := by
  unfold fX6_slot
  by_cases h1 : s < 0
  · rw [if_pos h1]
  · by_cases h2 : s < 4
    · rw [if_neg h1, if_pos h2, if_neg (by omega), if_pos (sk1 h)]
      unfold fX6_isThere
      by_cases hk : at' < 0
      · rw [if_pos hk]; rfl
      · rw [if_neg hk, if_pos (sk1 h), sp1_4 h, if_pos ⟨sk3 h, by omega, by rw [sl3 h]; exact h2⟩, c s (by omega) h2, if_neg hk]; rfl
    · rw [if_neg h1, if_neg h2]
theorem x_textNo {M : Mem} (h : Shp M) (c : ∀ j, 0 ≤ j → j < 4 → M.1 3 j = 0) {s at' : Int} (hc : s < 0 ∨ 4 ≤ s ∨ at' ≠ -1) : TT (fX10_text M 0 s at') (fun r => r.1 = -2 ∧ r.2.2 = M.2 ∧ ∀ x y, x ≠ 2 → (x = 1 → y ≠ 1 ∧ y ≠ 2 ∧ y ≠ 3) → r.2.1 x y = M.1 x y) := by
  unfold fX10_text
  have h3 := h.mst (a := 1) (i := 2) 0 fp1_2
  have h6 := h3.mst (a := 1) (i := 3) (-1) fp1_3
  have h9 := h6.mst (a := 1) (i := 1) 0 fp1_1
  rw [sp0_0 h]
  refine TT.guard (sk0 h) (TT.guard (sk1 h) (TT.sM ?_))
  rw [sp0_0 h3]
  refine TT.guard (sk1 h3) (TT.sM ?_)
  rw [sp0_0 h6]
  refine TT.guard (sk1 h6) (TT.sM ?_)
  rw [sp0_0 h9]
  refine TT.guard (sk1 h9) (TT.bindE (slot_fr h9 (fun j j0 j4 => ?_) hc) (TT.pos rfl (TT.ok ⟨rfl, rfl, fun x y _ hx => ?_⟩)))
  · rw [mst_ne _ _ _ _ _ _ (by decide), mst_ne _ _ _ _ _ _ (by decide), mst_ne _ _ _ _ _ _ (by decide)]; exact c j j0 j4
  · show (mst _ 1 1 0).1 x y = _
    rw [mst_r, if_neg (fun q => (hx q.1).1 q.2), mst_r, if_neg (fun q => (hx q.1).2.2 q.2), mst_r, if_neg (fun q => (hx q.1).2.1 q.2)]
theorem y_textNo {M : Mem} (h : Shp M) (c : ∀ j, 0 ≤ j → j < 4 → M.1 90 j = 0) {s at' : Int} (hc : s < 0 ∨ 4 ≤ s ∨ at' ≠ -1) : TT (fX11_text M 85 s at') (fun q => q.1 = -2) := by
  unfold fX11_text
  have h2 := h.mst (a := 85) (i := 0) 0 fp85_0
  refine TT.guard (sk85 h) (TT.sM ?_)
  rw [sp85_2 h2]
  refine TT.guard ⟨sk87 h2, by decide, by rw [sl87 h2]; decide⟩ (TT.sM ?_)
  have h5 := h2.mst (a := 85) (i := 11) ((mst M 85 0 0).1 87 0) fp85_11
  rw [sp85_2 h5]
  refine TT.guard ⟨sk87 h5, by decide, by rw [sl87 h5]; decide⟩ (TT.sM ?_)
  have h8 := h5.mst (a := 87) (i := 0) 0 fp87_0
  rw [sp85_3 h8]
  refine TT.guard ⟨sk88 h8, by decide, by rw [sl88 h8]; decide⟩ (TT.sM ?_)
  have h11 := h8.mst (a := 88) (i := 0) 0 fp88_0
  rw [sp85_4 h11]
  refine TT.guard ⟨sk89 h11, by decide, by rw [sl89 h11]; decide⟩ (TT.sM (TT.bindE (in_v _ _ _ _) ?_))
  have h14 := h11.mst (a := 89) (i := 0) (-1) fp89_0
  by_cases h1 : 0 ≤ s ∧ s ≤ 3
  · simp only [if_pos h1]
    refine TT.neg (by decide) (TT.jI (TT.neg (by omega) ?_))
    refine TT.bindE (r := 0) ?_ (TT.pos rfl (TT.ok rfl))
    unfold fX11_is
    rw [if_pos (sk85 h14), sp85_5 h14, if_pos ⟨sk90 h14, h1.1, by rw [sl90 h14]; omega⟩, show (mst (mst (mst (mst (mst M 85 0 0) 85 11 ((mst M 85 0 0).1 87 0)) 87 0 0) 88 0 0) 89 0 (-1)).1 90 s = 0 by rw [mst_ne _ 89 _ _ _ _ (by decide), mst_ne _ 88 _ _ _ _ (by decide), mst_ne _ 87 _ _ _ _ (by decide), mst_ne _ 85 _ _ _ _ (by decide), mst_ne _ 85 _ _ _ _ (by decide), c s h1.1 (by omega)], in_v, if_neg (by rw [show w32 (0 - 1) = -1 by decide]; omega)]
    rfl
  · simp only [if_neg h1]
    exact TT.pos trivial (TT.ok rfl)
theorem Shp.of1 {M N : Mem} (h : Shp M) (e : N.2 = M.2) (q : ∀ x y, x ≠ 2 → (x = 1 → y ≠ 1 ∧ y ≠ 2 ∧ y ≠ 3) → N.1 x y = M.1 x y) : Shp N := by
  have hd : (PL.all fun p => decide (p.1 ≠ 2) && decide (p.1 = 1 → p.2.1 ≠ 1 ∧ p.2.1 ≠ 2 ∧ p.2.1 ≠ 3)) = true := by decide +kernel
  refine ⟨?_, ?_⟩
  · have h1 := h.1
    unfold kinds at *
    rw [e]; exact h1
  · have h2 := h.2
    unfold hold at *
    rw [List.all_eq_true] at *
    intro p hp
    have h3 := h2 p hp
    have h4 := hd p hp
    simp only [Bool.and_eq_true, decide_eq_true_eq] at h3 h4 ⊢
    rw [q _ _ h4.1 h4.2, h3]
theorem x_imageNo {M : Mem} (k : Int) (hk : ¬ (0 ≤ k ∧ k ≤ 2)) : fX10_image M 0 k = some (0, M) := by
  unfold fX10_image
  by_cases h1 : k < 0
  · rw [if_pos h1]
  · rw [if_neg h1, if_neg (by omega)]
