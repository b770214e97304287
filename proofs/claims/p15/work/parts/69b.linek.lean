/-! the class: the other lines; a line read -/
section LineK
variable {M N : Mem} {T : Int → Int} {n i : Int}
theorem updL_9 {l v0 v1 v2 : Int} {D : Int → Int} (h : 9 ≤ l) : updL l v0 v1 v2 D = (if l = 9 then up D 0 v0 else if l = 10 then up D 1 v0 else if l = 11 then up D 2 (bOr (D 2) (bShl 1 v0)) else if l = 15 then up (up (up (up (up D (1 + 4 * D 0) 3) (2 + 4 * D 0) (-1)) (3 + 4 * D 0) (-1)) (4 + 4 * D 0) (-1)) 0 (D 0 + 1) else if l < 15 then up (up (up (up (up D (1 + 4 * D 0) (l - 12)) (2 + 4 * D 0) v0) (3 + 4 * D 0) v1) (4 + 4 * D 0) v2) 0 (D 0 + 1) else if l = 16 then up (up (up D (1 + 2 * D 0) v0) (2 + 2 * D 0) v1) 0 (D 0 + 1) else up D (17 + 5 * v0 + v1) v2) := by
  unfold updL
  rw [if_neg (by omega), if_neg (by omega), if_neg (by omega), if_neg (by omega), if_neg (by omega), if_neg (by omega), if_neg (by omega), if_neg (by omega), if_neg (by omega)]
theorem upH_9 {l v0 v1 th : Int} (h : 9 ≤ l) : upH l v0 v1 th = th := by unfold upH; rw [if_neg (by omega), if_neg (by omega)]
theorem upT_9 {l v0 v1 tt : Int} (h : 9 ≤ l) : upT l v0 v1 tt = tt := by unfold upT; rw [if_neg (by omega)]
theorem keepLaw_V (hT : WT M) {D : Int → Int} (hD : CDr 1 M D) {l : Int} (l0 : 9 ≤ l) (l9 : l < 12) : TT (fX3_keepLaw M 47 l) (fun r => KV 1 M r D l (M.1 67 0) (M.1 67 1) (M.1 67 2)) := by
  unfold fX3_keepLaw
  obtain ⟨a0, a1, a2⟩ := hD.2.1 rfl
  have g0 : M.2.1 67 = 12 ∧ (0 : Int) ≤ 0 ∧ 0 < M.2.2.1 67 := ⟨wk67 hT, by decide, by rw [wl67 hT]; decide⟩
  rw [wp47_12 hT, wp47_3 hT]
  unfold KV
  rw [updL_9 l0, upH_9 l0, upT_9 l0]
  have key : ∀ k v, (k = 0 ∨ k = 1 ∨ k = 2) → CDr 1 (mst M 57 k v) (up D k v) := fun k v hk => by
    refine ⟨fun z => absurd z (by decide), fun _ => ?_, fun z => absurd z (by decide), fun z => absurd z (by decide), fun _ => hD.2.2.2.2 (by decide)⟩
    rcases hk with rfl | rfl | rfl
    · exact ⟨rfl, a1, a2⟩
    · exact ⟨a0, rfl, a2⟩
    · exact ⟨a0, a1, rfl⟩
  refine TT.ite (fun e => ?_) (fun e9 => TT.ite (fun e => ?_) (fun e10 => ?_))
  · rw [if_pos e]
    exact TT.guard (wk47 hT) (TT.guard g0 (TT.guard (wk57 hT) (TT.sM (TT.ok ⟨key 0 _ (by decide), rfl, rfl, fun y _ _ => mst_ne _ _ _ _ _ _ (by decide)⟩))))
  · rw [if_neg e9, if_pos e]
    exact TT.guard (wk47 hT) (TT.guard g0 (TT.guard (wk57 hT) (TT.sM (TT.ok ⟨key 1 _ (by decide), rfl, rfl, fun y _ _ => mst_ne _ _ _ _ _ _ (by decide)⟩))))
  · rw [if_neg e9, if_neg e10, if_pos (show l = 11 by omega), ← a2]
    exact TT.guard (wk47 hT) (TT.guard (wk57 hT) (TT.guard g0 (TT.sM (TT.ok ⟨key 2 _ (by decide), rfl, rfl, fun y _ _ => mst_ne _ _ _ _ _ _ (by decide)⟩))))
theorem nightAdd_V (hT : WT M) (a b c e : Int) (h0 : 0 ≤ M.1 58 0) (h4 : M.1 58 0 < 40) : TT (fX1_add M 58 a b c e) (fun r => r = mst (mst (mst (mst (mst M 59 (M.1 58 0) a) 60 (M.1 58 0) b) 61 (M.1 58 0) c) 62 (M.1 58 0) e) 58 0 (M.1 58 0 + 1)) := by
  unfold fX1_add
  generalize hk : M.1 58 0 = k at *
  rw [wp58_1 hT]
  refine TT.guard (wk58 hT) (TT.pos h4 (TT.guard ⟨wk59 hT, h0, by rw [wl59 hT]; exact h4⟩ (TT.sM ?_)))
  rw [show (mst M 59 k a).1 58 2 = 60 from (wp58_2 hT : M.1 58 2 = 60), show (mst M 59 k a).1 58 0 = k from hk]
  refine TT.guard ⟨(wk60 hT : M.2.1 60 = 12), h0, by show k < M.2.2.1 60; rw [wl60 hT]; exact h4⟩ (TT.sM ?_)
  rw [show (mst (mst M 59 k a) 60 k b).1 58 3 = 61 from (wp58_3 hT : M.1 58 3 = 61), show (mst (mst M 59 k a) 60 k b).1 58 0 = k from hk]
  refine TT.guard ⟨(wk61 hT : M.2.1 61 = 12), h0, by show k < M.2.2.1 61; rw [wl61 hT]; exact h4⟩ (TT.sM ?_)
  rw [show (mst (mst (mst M 59 k a) 60 k b) 61 k c).1 58 4 = 62 from (wp58_4 hT : M.1 58 4 = 62), show (mst (mst (mst M 59 k a) 60 k b) 61 k c).1 58 0 = k from hk]
  refine TT.guard ⟨(wk62 hT : M.2.1 62 = 12), h0, by show k < M.2.2.1 62; rw [wl62 hT]; exact h4⟩ (TT.sM (TT.sM (TT.ok ?_)))
  rw [show (mst (mst (mst (mst M 59 k a) 60 k b) 61 k c) 62 k e).1 58 0 = k from hk, w32_of (by omega) (by omega)]
theorem iff_at {a k y v w : Int} : (if a = a ∧ y = k then v else w) = if y = k then v else w := by
  by_cases q : y = k
  · rw [if_pos ⟨rfl, q⟩, if_pos q]
  · rw [if_neg (fun z => q z.2), if_neg q]
theorem up5 {D : Int → Int} {k a b c e y : Int} (k0 : 0 ≤ k) (y0 : 0 ≤ y) : (up (up (up (up (up D (1 + 4 * k) a) (2 + 4 * k) b) (3 + 4 * k) c) (4 + 4 * k) e) 0 (k + 1)) (1 + 4 * y) = (if y = k then a else D (1 + 4 * y)) ∧ (up (up (up (up (up D (1 + 4 * k) a) (2 + 4 * k) b) (3 + 4 * k) c) (4 + 4 * k) e) 0 (k + 1)) (2 + 4 * y) = (if y = k then b else D (2 + 4 * y)) ∧ (up (up (up (up (up D (1 + 4 * k) a) (2 + 4 * k) b) (3 + 4 * k) c) (4 + 4 * k) e) 0 (k + 1)) (3 + 4 * y) = (if y = k then c else D (3 + 4 * y)) ∧ (up (up (up (up (up D (1 + 4 * k) a) (2 + 4 * k) b) (3 + 4 * k) c) (4 + 4 * k) e) 0 (k + 1)) (4 + 4 * y) = (if y = k then e else D (4 + 4 * y)) := by
  unfold up
  by_cases q : y = k
  · rw [if_pos q, if_pos q, if_pos q, if_pos q]
    refine ⟨?_, ?_, ?_, ?_⟩
    · rw [if_neg (by omega), if_neg (by omega), if_neg (by omega), if_neg (by omega), if_pos (by omega)]
    · rw [if_neg (by omega), if_neg (by omega), if_neg (by omega), if_pos (by omega)]
    · rw [if_neg (by omega), if_neg (by omega), if_pos (by omega)]
    · rw [if_neg (by omega), if_pos (by omega)]
  · rw [if_neg q, if_neg q, if_neg q, if_neg q]
    refine ⟨?_, ?_, ?_, ?_⟩
    · rw [if_neg (by omega), if_neg (by omega), if_neg (by omega), if_neg (by omega), if_neg (by omega)]
    · rw [if_neg (by omega), if_neg (by omega), if_neg (by omega), if_neg (by omega), if_neg (by omega)]
    · rw [if_neg (by omega), if_neg (by omega), if_neg (by omega), if_neg (by omega), if_neg (by omega)]
    · rw [if_neg (by omega), if_neg (by omega), if_neg (by omega), if_neg (by omega), if_neg (by omega)]
theorem night_D {D : Int → Int} (hD : CDr 2 M D) (k0 : 0 ≤ M.1 58 0) (a b c e : Int) : CDr 2 (mst (mst (mst (mst (mst M 59 (M.1 58 0) a) 60 (M.1 58 0) b) 61 (M.1 58 0) c) 62 (M.1 58 0) e) 58 0 (M.1 58 0 + 1)) (up (up (up (up (up D (1 + 4 * D 0) a) (2 + 4 * D 0) b) (3 + 4 * D 0) c) (4 + 4 * D 0) e) 0 (D 0 + 1)) := by
  obtain ⟨a0, a1⟩ := hD.2.2.1 rfl
  rw [a0]
  rw [a0] at k0
  generalize hk : D 0 = k at *
  have m59 : ∀ y, (mst (mst (mst (mst (mst M 59 k a) 60 k b) 61 k c) 62 k e) 58 0 (k + 1)).1 59 y = if (59 : Int) = 59 ∧ y = k then a else M.1 59 y := fun y => rfl
  have m60 : ∀ y, (mst (mst (mst (mst (mst M 59 k a) 60 k b) 61 k c) 62 k e) 58 0 (k + 1)).1 60 y = if (60 : Int) = 60 ∧ y = k then b else M.1 60 y := fun y => rfl
  have m61 : ∀ y, (mst (mst (mst (mst (mst M 59 k a) 60 k b) 61 k c) 62 k e) 58 0 (k + 1)).1 61 y = if (61 : Int) = 61 ∧ y = k then c else M.1 61 y := fun y => rfl
  have m62 : ∀ y, (mst (mst (mst (mst (mst M 59 k a) 60 k b) 61 k c) 62 k e) 58 0 (k + 1)).1 62 y = if (62 : Int) = 62 ∧ y = k then e else M.1 62 y := fun y => rfl
  refine ⟨fun z => absurd z (by decide), fun z => absurd z (by decide), fun _ => ⟨by rw [mst_at, up_at], fun y y0 y1 => ?_⟩, fun z => absurd z (by decide), fun _ => hD.2.2.2.2 (by decide)⟩
  rw [up_at] at y1
  obtain ⟨u1, u2, u3, u4⟩ := @up5 D k a b c e y k0 y0
  rw [u1, u2, u3, u4, m59, m60, m61, m62, iff_at, iff_at, iff_at, iff_at]
  by_cases q : y = k
  · refine ⟨?_, ?_, ?_, ?_⟩ <;> rw [if_pos q, if_pos q]
  · have z := a1 y y0 (by omega)
    refine ⟨?_, ?_, ?_, ?_⟩ <;> rw [if_neg q, if_neg q]
    · exact z.1
    · exact z.2.1
    · exact z.2.2.1
    · exact z.2.2.2
theorem sightAdd_V (hT : WT M) (h g : Int) (h0 : 0 ≤ M.1 63 0) (h8 : M.1 63 0 < 8) : TT (fX4_add M 63 h g) (fun r => r = mst (mst (mst M 64 (M.1 63 0) h) 65 (M.1 63 0) g) 63 0 (M.1 63 0 + 1)) := by
  unfold fX4_add
  generalize hk : M.1 63 0 = k at *
  rw [wp63_1 hT]
  refine TT.guard (wk63 hT) (TT.pos h8 (TT.guard ⟨wk64 hT, h0, by rw [wl64 hT]; exact h8⟩ (TT.sM ?_)))
  rw [show (mst M 64 k h).1 63 2 = 65 from (wp63_2 hT : M.1 63 2 = 65), show (mst M 64 k h).1 63 0 = k from hk]
  refine TT.guard ⟨(wk65 hT : M.2.1 65 = 12), h0, by show k < M.2.2.1 65; rw [wl65 hT]; exact h8⟩ (TT.sM (TT.sM (TT.ok ?_)))
  rw [show (mst (mst M 64 k h) 65 k g).1 63 0 = k from hk, w32_of (by omega) (by omega)]
theorem sight_D {D : Int → Int} (hD : CDr 3 M D) (k0 : 0 ≤ M.1 63 0) (k8 : M.1 63 0 < 8) (a b : Int) : CDr 3 (mst (mst (mst M 64 (M.1 63 0) a) 65 (M.1 63 0) b) 63 0 (M.1 63 0 + 1)) (up (up (up D (1 + 2 * D 0) a) (2 + 2 * D 0) b) 0 (D 0 + 1)) := by
  obtain ⟨a0, a1, a2⟩ := hD.2.2.2.1 rfl
  rw [a0]
  rw [a0] at k0 k8
  generalize hk : D 0 = k at *
  have m64 : ∀ y, (mst (mst (mst M 64 k a) 65 k b) 63 0 (k + 1)).1 64 y = if (64 : Int) = 64 ∧ y = k then a else M.1 64 y := fun y => rfl
  have m65 : ∀ y, (mst (mst (mst M 64 k a) 65 k b) 63 0 (k + 1)).1 65 y = if (65 : Int) = 65 ∧ y = k then b else M.1 65 y := fun y => rfl
  refine ⟨fun z => absurd z (by decide), fun z => absurd z (by decide), fun z => absurd z (by decide), fun _ => ⟨by rw [mst_at, up_at], fun y y0 y1 => ?_, fun y y0 y1 => ?_⟩, fun _ => hD.2.2.2.2 (by decide)⟩
  · rw [up_at] at y1
    rw [m64, m65, iff_at, iff_at]
    unfold up
    by_cases q : y = k
    · rw [if_pos q, if_pos q, if_neg (by omega), if_neg (by omega), if_pos (by omega), if_neg (by omega), if_pos (by omega)]; exact ⟨rfl, rfl⟩
    · rw [if_neg q, if_neg q, if_neg (by omega), if_neg (by omega), if_neg (by omega), if_neg (by omega), if_neg (by omega), if_neg (by omega)]; exact a1 y y0 (by omega)
  · show M.1 66 y = _
    rw [up_ne (by omega), up_ne (by omega), up_ne (by omega)]; exact a2 y y0 y1
theorem left_D {D : Int → Int} (hD : CDr 3 M D) (z0 : 0 ≤ M.1 63 0) (z8 : M.1 63 0 ≤ 8) {r x v : Int} (r0 : 0 ≤ r) (hx : x = 17 + r) : CDr 3 (mst M 66 r v) (up D x v) := by
  obtain ⟨a0, a1, a2⟩ := hD.2.2.2.1 rfl
  rw [a0] at z0 z8
  refine ⟨fun z => absurd z (by decide), fun z => absurd z (by decide), fun z => absurd z (by decide), fun _ => ⟨?_, fun y y0 y1 => ?_, fun y y0 y1 => ?_⟩, fun _ => hD.2.2.2.2 (by decide)⟩
  · rw [up_ne (by omega)]; exact a0
  · rw [up_ne (by omega)] at y1
    rw [up_ne (by omega), up_ne (by omega)]; exact a1 y y0 y1
  · rw [mst_r]
    by_cases q : y = r
    · rw [if_pos ⟨rfl, q⟩, q, hx, up_at]
    · rw [if_neg (fun z => q z.2), up_ne (by omega)]; exact a2 y y0 y1
/-- the sort whose line it is -/
def sOf (l : Int) : Int := if l < 9 then 0 else if l < 12 then 1 else if l < 16 then 2 else 3
set_option maxHeartbeats 1000000 in
theorem keepLine_V (hT : WT M) (d : DRF M) {D : Int → Int} {l : Int} (hD : CDr (sOf l) M D) (l0 : 0 ≤ l) (l9 : l < 18) (hN : NV M l) (hf : fullB l D = false) : TT (fX3_keepLine M 47 l) (fun r => KV (sOf l) M r D l (M.1 67 0) (M.1 67 1) (M.1 67 2)) := by
  unfold fX3_keepLine
  have g : ∀ k, 0 ≤ k → k < 3 → M.2.1 67 = 12 ∧ (0 : Int) ≤ k ∧ k < M.2.2.1 67 := fun k k0 k3 => ⟨wk67 hT, k0, by rw [wl67 hT]; exact k3⟩
  have hf' := hf
  unfold fullB at hf'
  simp only [Bool.or_eq_false_iff, Bool.and_eq_false_iff, decide_eq_false_iff_not] at hf'
  rw [wp47_12 hT, wp47_4 hT, wp47_5 hT, wp63_3 hT]
  by_cases c9 : l < 9
  · have es : sOf l = 0 := by unfold sOf; rw [if_pos c9]
    rw [es] at hD ⊢
    refine TT.pos c9 (TT.guard (wk47 hT) (TT.bind (keepTown_V hT d hD l0 c9 hN (fun e => ?_)) (fun r q => TT.ok q)))
    have := (hD.1 rfl).1.2
    omega
  · refine TT.neg c9 ?_
    by_cases c12 : l < 12
    · have es : sOf l = 1 := by unfold sOf; rw [if_neg c9, if_pos c12]
      rw [es] at hD ⊢
      exact TT.pos c12 (TT.guard (wk47 hT) (TT.bind (keepLaw_V hT hD (by omega) c12) (fun r q => TT.ok q)))
    · refine TT.neg c12 ?_
      by_cases c16 : l < 16
      · have es : sOf l = 2 := by unfold sOf; rw [if_neg c9, if_neg c12, if_pos c16]
        rw [es] at hD ⊢
        have h58 := d.2.2.1
        have e58 := (hD.2.2.1 rfl).1
        have h40 : M.1 58 0 < 40 := by omega
        by_cases c15 : l = 15
        · refine TT.pos c15 (TT.guard (wk47 hT) (TT.guard (wk58 hT) (TT.bind (nightAdd_V hT _ _ _ _ h58.1 h40) (fun r q => TT.ok ?_))))
          rw [q]
          refine ⟨?_, by rw [upH_9 (by omega)]; rfl, by rw [upT_9 (by omega)]; rfl, fun y _ _ => rfl⟩
          rw [updL_9 (by omega), if_neg (by omega), if_neg (by omega), if_neg (by omega), if_pos c15]
          exact night_D hD h58.1 _ _ _ _
        · refine TT.neg c15 (TT.pos (by omega) (TT.guard (wk47 hT) (TT.guard (g 0 (by decide) (by decide)) (TT.guard (g 1 (by decide) (by decide)) (TT.guard (g 2 (by decide) (by decide)) (TT.guard (wk58 hT) (TT.bind (nightAdd_V hT _ _ _ _ h58.1 h40) (fun r q => TT.ok ?_))))))))
          rw [q, w32_of (x := 0 + l) (by omega) (by omega), w32_of (x := 0 + l - 12) (by omega) (by omega), show 0 + l - 12 = l - 12 by omega]
          refine ⟨?_, by rw [upH_9 (by omega)]; rfl, by rw [upT_9 (by omega)]; rfl, fun y _ _ => rfl⟩
          rw [updL_9 (by omega), if_neg (by omega), if_neg (by omega), if_neg (by omega), if_neg c15, if_pos (by omega)]
          exact night_D hD h58.1 _ _ _ _
      · have es : sOf l = 3 := by unfold sOf; rw [if_neg c9, if_neg c12, if_neg c16]
        rw [es] at hD ⊢
        have h63 := d.2.2.2.1
        have e63 := (hD.2.2.2.1 rfl).1
        refine TT.neg (by omega) (TT.neg (by omega) (TT.ite (fun c => ?_) (fun cn => ?_)))
        · have h8 : M.1 63 0 < 8 := by omega
          refine TT.guard (wk47 hT) (TT.guard (g 0 (by decide) (by decide)) (TT.guard (g 1 (by decide) (by decide)) (TT.guard (wk63 hT) (TT.bind (sightAdd_V hT _ _ h63.1 h8) (fun r q => TT.ok ?_)))))
          rw [q]
          refine ⟨?_, by rw [upH_9 (by omega)]; rfl, by rw [upT_9 (by omega)]; rfl, fun y _ _ => rfl⟩
          rw [updL_9 (by omega), if_neg (by omega), if_neg (by omega), if_neg (by omega), if_neg (by omega), if_neg (by omega), if_pos c]
          exact sight_D hD h63.1 h8 _ _
        · have e : l = 17 := by omega
          subst e
          have n0 : 0 ≤ M.1 67 0 ∧ M.1 67 0 ≤ 5 := hN 0 (by decide) (by decide)
          have n1 : 0 ≤ M.1 67 1 ∧ M.1 67 1 ≤ 4 := hN 1 (by decide) (by decide)
          refine TT.guard (wk47 hT) (TT.guard (wk63 hT) (TT.guard (g 0 (by decide) (by decide)) (TT.guard (g 1 (by decide) (by decide)) (TT.bind (cell_T n0.1 (by omega) n1.1 (by omega)) (fun r q => TT.guard (g 2 (by decide) (by decide)) (TT.guard ⟨wk66 hT, q.2.1, by rw [wl66 hT]; exact q.2.2⟩ (TT.sM (TT.ok ?_))))))))
          refine ⟨?_, by rw [upH_9 (by omega)]; rfl, by rw [upT_9 (by omega)]; rfl, fun y _ _ => rfl⟩
          rw [updL_9 (by omega), if_neg (by omega), if_neg (by omega), if_neg (by omega), if_neg (by omega), if_neg (by omega), if_neg (by omega)]
          exact left_D hD h63.1 h63.2 q.2.1 (by omega)
end LineK
