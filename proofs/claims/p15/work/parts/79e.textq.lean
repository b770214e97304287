/-! text, exact: the class -/
section TextQ
variable {M N : Mem}
theorem lO_0 : lO 0 = LT := rfl
theorem lO_1 : lO 1 = LT := rfl
theorem lO_2 : lO 2 = LN := rfl
theorem lO_3 : lO 3 = LG := rfl
theorem isThere_V (hT : WT M) {s : Int} (k : Int) (h0 : 0 ≤ s) (h1 : s < 4) : fX6_isThere M 1 s k = some (if 0 ≤ k ∧ k < M.1 3 s then 1 else 0) := by
  have hc := cn_ hT (i := s) h0 (by omega)
  have g : M.2.1 3 = 12 ∧ (0 : Int) ≤ s ∧ s < M.2.2.1 3 := ⟨wk3 hT, by omega, by rw [wl3 hT]; exact h1⟩
  unfold fX6_isThere
  rw [wp1_4 hT]
  by_cases c1 : k < 0
  · rw [if_pos c1, if_neg (by omega)]
  · rw [if_neg c1, if_pos (wk1 hT), if_pos g]
    by_cases c2 : k < M.1 3 s
    · rw [if_pos c2, if_pos (by omega), if_pos (by omega)]
    · rw [if_neg c2, if_neg (by omega)]
theorem is_V (hT : WT M) {s : Int} (k : Int) (h0 : 0 ≤ s) (h1 : s < 4) : fX11_is M 85 s k = some (if 0 ≤ k ∧ k < M.1 90 s then 1 else 0) := by
  have hc := mn_ hT (i := s) h0 (by omega)
  unfold fX11_is
  rw [wp85_5 hT, if_pos (wk85 hT), if_pos ⟨wk90 hT, by omega, by rw [wl90 hT]; omega⟩, in_v2, w32_of (by omega) (by omega)]
  by_cases c : 0 ≤ k ∧ k < M.1 90 s
  · rw [if_pos c, if_pos (by omega)]; rfl
  · rw [if_neg c, if_neg (by omega)]; rfl
/-- where a text of a sort is kept -/
def sl (c s a : Int) : Int := if 0 ≤ s ∧ s < 4 then (if a = -1 then (if c < 2 then c else -1) else if 0 ≤ a ∧ a < c then a else -1) else -1
theorem slot_V (hT : WT M) (s a : Int) : TT (fX6_slot M 1 s a) (fun r => r = sl (M.1 3 s) s a) := by
  unfold fX6_slot
  rw [wp1_4 hT]
  refine TT.ite (fun c => TT.ok (by unfold sl; rw [if_neg (by omega)])) (fun c0 => TT.ite (fun c4 => ?_) (fun c => TT.ok (by unfold sl; rw [if_neg (by omega)])))
  have hc := cn_ hT (i := s) (by omega) (by omega)
  have g : M.2.1 3 = 12 ∧ (0 : Int) ≤ s ∧ s < M.2.2.1 3 := ⟨wk3 hT, by omega, by rw [wl3 hT]; exact c4⟩
  have p : 0 ≤ s ∧ s < 4 := by omega
  refine TT.ite (fun e => TT.guard (wk1 hT) (TT.guard g (TT.ite (fun c => TT.guard g (TT.ok (by unfold sl; rw [if_pos p, if_pos e, if_pos c]))) (fun c => TT.ok (by unfold sl; rw [if_pos p, if_pos e, if_neg c]))))) (fun e => TT.guard (wk1 hT) (TT.bindE (isThere_V hT a p.1 p.2) ?_))
  by_cases c2 : 0 ≤ a ∧ a < M.1 3 s
  · rw [if_pos c2]
    exact TT.neg (by decide) (TT.ok (by unfold sl; rw [if_pos p, if_neg e, if_pos c2]))
  · rw [if_neg c2]
    exact TT.pos rfl (TT.ok (by unfold sl; rw [if_pos p, if_neg e, if_neg c2]))
theorem sl_b {c s a : Int} (h0 : 0 ≤ c) (h2 : c ≤ 2) (h : sl c s a ≠ -1) : (0 ≤ s ∧ s < 4) ∧ 0 ≤ sl c s a ∧ sl c s a < 2 ∧ ((a = -1 ∧ sl c s a = c) ∨ (a ≠ -1 ∧ sl c s a = a ∧ a < c)) := by
  unfold sl at *
  by_cases p : 0 ≤ s ∧ s < 4
  · rw [if_pos p] at h ⊢
    by_cases e : a = -1
    · rw [if_pos e] at h ⊢
      by_cases z : c < 2
      · rw [if_pos z] at h ⊢; omega
      · rw [if_neg z] at h; exact absurd rfl h
    · rw [if_neg e] at h ⊢
      by_cases z : 0 ≤ a ∧ a < c
      · rw [if_pos z] at h ⊢; omega
      · rw [if_neg z] at h; exact absurd rfl h
  · rw [if_neg p] at h; exact absurd rfl h
set_option maxHeartbeats 1000000 in
theorem toldKeep_V (hT : WT M) (hd : DRF M) {s t : Int} (s0 : 0 ≤ s) (s4 : s < 4) (t0 : 0 ≤ t) (t2 : t < 2) : TT (fX6_keep M 1 47 s t) (fun r => ∃ u, OC M u (1 + ob s + 19 * t) (bs s) (fO s) (lO s) (nO s) ∧ r = mst u 3 s (imax (u.1 3 s) (t + 1))) := by
  unfold fX6_keep
  have hR := hd.rows
  refine TT.neg (by omega) (TT.pos s4 (TT.neg (by omega) (TT.pos t2 ?_)))
  refine TT.join (fun u : Mem => WT u ∧ OC M u (1 + ob s + 19 * t) (bs s) (fO s) (lO s) (nO s)) (fun u hu => ?_) (fun j hj => ?_)
  · obtain ⟨u1, u2⟩ := hu
    have g : u.2.1 3 = 12 ∧ (0 : Int) ≤ s ∧ s < u.2.2.1 3 := ⟨wk3 u1, s0, by rw [wl3 u1]; exact s4⟩
    rw [wp1_4 u1, w32_of (x := t + 1) (by omega) (by omega)]
    exact TT.guard (wk1 u1) (TT.guard g (TT.guard g (TT.sM (TT.ok ⟨u, u2, rfl⟩))))
  rw [wp1_5 hT, wp1_6 hT, wp1_7 hT, wp1_8 hT, wp47_2 hT, wp47_3 hT, wp47_4 hT, wp47_5 hT]
  have gr : ∀ a, a = 4 ∨ a = 5 ∨ a = 6 ∨ a = 7 → 14 ≤ M.2.1 a ∧ (0 : Int) ≤ t ∧ t < M.2.2.1 a := by
    intro a ha
    rcases ha with rfl | rfl | rfl | rfl
    · exact ⟨by rw [wk4 hT]; decide, t0, by rw [wl4 hT]; exact t2⟩
    · exact ⟨by rw [wk5 hT]; decide, t0, by rw [wl5 hT]; exact t2⟩
    · exact ⟨by rw [wk6 hT]; decide, t0, by rw [wl6 hT]; exact t2⟩
    · exact ⟨by rw [wk7 hT]; decide, t0, by rw [wl7 hT]; exact t2⟩
  refine TT.ite (fun e => ?_) (fun e0 => TT.ite (fun e => ?_) (fun e1 => TT.ite (fun e => ?_) (fun e2 => ?_)))
  · subst e
    rw [lO_0] at hj
    rcases (show t = 0 ∨ t = 1 by omega) with e | e <;> subst e
    · rw [wp4_0 hT]
      exact TT.guard (wk1 hT) (TT.guard (gr 4 (by decide)) (TT.guard (wk47 hT) (TT.guard (wk8 hT) (TT.bind (townCopy_T (TownS_8 hT) (TownS_48 hT) (by decide)) (fun r q => hj r ⟨OC.wt hT hR cR8 cP8 (by decide) (by decide) q, q⟩)))))
    · rw [wp4_1 hT]
      exact TT.guard (wk1 hT) (TT.guard (gr 4 (by decide)) (TT.guard (wk47 hT) (TT.guard (wk27 hT) (TT.bind (townCopy_T (TownS_27 hT) (TownS_48 hT) (by decide)) (fun r q => hj r ⟨OC.wt hT hR cR27 cP27 (by decide) (by decide) q, q⟩)))))
  · subst e
    rw [lO_1] at hj
    rcases (show t = 0 ∨ t = 1 by omega) with e | e <;> subst e
    · rw [wp5_0 hT]
      exact TT.guard (wk1 hT) (TT.guard (gr 5 (by decide)) (TT.guard (wk47 hT) (TT.guard (wk17 hT) (TT.bind (lawCopy_T (wk17 hT) (wk57 hT) (by decide)) (fun r q => hj r ⟨OC.wt hT hR cR17 cP17 (by decide) (by decide) q, q⟩)))))
    · rw [wp5_1 hT]
      exact TT.guard (wk1 hT) (TT.guard (gr 5 (by decide)) (TT.guard (wk47 hT) (TT.guard (wk36 hT) (TT.bind (lawCopy_T (wk36 hT) (wk57 hT) (by decide)) (fun r q => hj r ⟨OC.wt hT hR cR36 cP36 (by decide) (by decide) q, q⟩)))))
  · subst e
    rw [lO_2] at hj
    rcases (show t = 0 ∨ t = 1 by omega) with e | e <;> subst e
    · rw [wp6_0 hT]
      exact TT.guard (wk1 hT) (TT.guard (gr 6 (by decide)) (TT.guard (wk47 hT) (TT.guard (wk18 hT) (TT.bind (nightCopy_T (NightS_18 hT) (NightS_58 hT) (by decide)) (fun r q => hj r ⟨OC.wt hT hR cR18 cP18 (by decide) (by decide) q, q⟩)))))
    · rw [wp6_1 hT]
      exact TT.guard (wk1 hT) (TT.guard (gr 6 (by decide)) (TT.guard (wk47 hT) (TT.guard (wk37 hT) (TT.bind (nightCopy_T (NightS_37 hT) (NightS_58 hT) (by decide)) (fun r q => hj r ⟨OC.wt hT hR cR37 cP37 (by decide) (by decide) q, q⟩)))))
  · have e3 : s = 3 := by omega
    subst e3
    rw [lO_3] at hj
    rcases (show t = 0 ∨ t = 1 by omega) with e | e <;> subst e
    · rw [wp7_0 hT]
      exact TT.guard (wk1 hT) (TT.guard (gr 7 (by decide)) (TT.guard (wk47 hT) (TT.guard (wk23 hT) (TT.bind (sightCopy_T (SightS_23 hT) (SightS_63 hT) (by decide)) (fun r q => hj r ⟨OC.wt hT hR cR23 cP23 (by decide) (by decide) q, q⟩)))))
    · rw [wp7_1 hT]
      exact TT.guard (wk1 hT) (TT.guard (gr 7 (by decide)) (TT.guard (wk47 hT) (TT.guard (wk42 hT) (TT.bind (sightCopy_T (SightS_42 hT) (SightS_63 hT) (by decide)) (fun r q => hj r ⟨OC.wt hT hR cR42 cP42 (by decide) (by decide) q, q⟩)))))
theorem nO_b {s : Int} (s0 : 0 ≤ s) (s4 : s < 4) : (0 ≤ nO s ∧ 7 ≤ ob s) ∧ ob s + nO s ≤ 25 := by
  rcases (show s = 0 ∨ s = 1 ∨ s = 2 ∨ s = 3 by omega) with e | e | e | e <;> subst e <;> decide
/-- what is told of a sort at a place is as the draft -/
theorem OC.od {s t : Int} {D : Int → Int} (h : OC M N (1 + ob s + 19 * t) (bs s) (fO s) (lO s) (nO s)) (d : OD s M (bs s) D) : OD s N (1 + ob s + 19 * t) D := by
  refine d.mv (fun k y hk => ?_)
  rw [h.2]
  rcases hk with ⟨e, p⟩ | ⟨p, q⟩
  · rw [e, Int.add_zero, Int.add_zero, if_pos ⟨rfl, p⟩]
  · rw [if_neg (by omega), if_pos ⟨by omega, by rw [show 1 + ob s + 19 * t + k - (1 + ob s + 19 * t) = k by omega]; exact q⟩, show 1 + ob s + 19 * t + k - (1 + ob s + 19 * t) + bs s = bs s + k by omega]
theorem OC.off {s t : Int} (s0 : 0 ≤ s) (s4 : s < 4) (h : OC M N (1 + ob s + 19 * t) (bs s) (fO s) (lO s) (nO s)) {x : Int} (y : Int) (hx : x < 1 + ob s + 19 * t ∨ 1 + ob s + 19 * t + nO s < x) : N.1 x y = M.1 x y := by
  have := nO_b s0 s4
  rw [h.2, if_neg (by omega), if_neg (by omega)]
theorem dO_k {s k y : Int} (h : dO s k y) : 0 ≤ k ∧ k ≤ nO s ∨ k = 0 := by
  rcases h with h | h
  · exact Or.inr h.1
  · exact Or.inl (by omega)
theorem ob_dis {s s' t t' k : Int} (s0 : 0 ≤ s) (s4 : s < 4) (s0' : 0 ≤ s') (s4' : s' < 4) (t0 : 0 ≤ t) (t2 : t < 2) (t0' : 0 ≤ t') (t2' : t' < 2) (ne : ¬(s' = s ∧ t' = t)) (k0 : 0 ≤ k) (k1 : k ≤ nO s') : 1 + ob s' + 19 * t' + k < 1 + ob s + 19 * t ∨ 1 + ob s + 19 * t + nO s < 1 + ob s' + 19 * t' + k := by
  have key : ∀ a : Int, 0 ≤ a → a < 4 → (a = 0 ∧ ob a = 7 ∧ nO a = 8) ∨ (a = 1 ∧ ob a = 16 ∧ nO a = 0) ∨ (a = 2 ∧ ob a = 17 ∧ nO a = 4) ∨ (a = 3 ∧ ob a = 22 ∧ nO a = 3) := by
    intro a a0 a4
    rcases (show a = 0 ∨ a = 1 ∨ a = 2 ∨ a = 3 by omega) with e | e | e | e <;> subst e <;> decide
  have := key s s0 s4
  have := key s' s0' s4'
  omega
/-- what the class's text leaves -/
def TXQ (M : Mem) (s a : Int) (r : Int × Mem) : Prop :=
  (r.2.2 = M.2 ∧ r.2.1 1 1 = 0) ∧
  ((sl (M.1 3 s) s a = -1 ∧ (r.1 = -2 ∧ r.2.1 1 2 = 0 ∧ r.2.1 1 3 = -1) ∧ ∀ x y, 2 ≤ x → x ≤ 45 → r.2.1 x y = M.1 x y) ∨
   (sl (M.1 3 s) s a ≠ -1 ∧ ∃ D, EndsX (M.1 2) (M.1 1 1) s (r.2.1 1 2, r.2.1 1 3) D ∧
     ((r.2.1 1 2 ≠ 0 ∧ r.1 = -1 ∧ ∀ x y, 2 ≤ x → x ≤ 45 → r.2.1 x y = M.1 x y) ∨
      (r.2.1 1 2 = 0 ∧ r.1 = sl (M.1 3 s) s a ∧ (∀ y, r.2.1 3 y = if y = s then imax (M.1 3 s) (sl (M.1 3 s) s a + 1) else M.1 3 y) ∧ OD s r.2 (1 + ob s + 19 * sl (M.1 3 s) s a) D ∧
        ∀ s' t' k y, 0 ≤ s' → s' < 4 → 0 ≤ t' → t' < 2 → ¬(s' = s ∧ t' = sl (M.1 3 s) s a) → dO s' k y → r.2.1 (1 + ob s' + 19 * t' + k) y = M.1 (1 + ob s' + 19 * t' + k) y))))
set_option maxHeartbeats 1000000 in
theorem textX_V (hT : WT M) (hi : DI M) (s a : Int) : TT (fX10_text M 0 s a) (TXQ M s a) := by
  unfold fX10_text
  rw [wp0_0 hT]
  have hl := tl_ hT
  refine TT.guard (wk0 hT) (TT.guard (wk1 hT) (TT.sM ?_))
  have h3 : WT (mst M 1 2 0) := hT.mfree 0 f12 r12 (by decide)
  rw [wp0_0 h3]
  refine TT.guard (wk1 h3) (TT.sM ?_)
  have h6 : WT (mst (mst M 1 2 0) 1 3 (-1)) := h3.mfree (-1) f13 r13 (by decide)
  rw [wp0_0 h6, show (mst (mst M 1 2 0) 1 3 (-1)).1 1 1 = M.1 1 1 from rfl]
  refine TT.guard (wk1 h6) (TT.sM ?_)
  have h9 : WT (mst (mst (mst M 1 2 0) 1 3 (-1)) 1 1 0) := h6.m11 (by decide) (by decide)
  have f9 : ∀ x y, x ≠ 1 → (mst (mst (mst M 1 2 0) 1 3 (-1)) 1 1 0).1 x y = M.1 x y := fun x y z => by rw [mst_ne _ _ _ _ _ _ z, mst_ne _ _ _ _ _ _ z, mst_ne _ _ _ _ _ _ z]
  have v9 : (mst (mst (mst M 1 2 0) 1 3 (-1)) 1 1 0).1 1 1 = 0 := rfl
  have v92 : (mst (mst (mst M 1 2 0) 1 3 (-1)) 1 1 0).1 1 2 = 0 := rfl
  have v93 : (mst (mst (mst M 1 2 0) 1 3 (-1)) 1 1 0).1 1 3 = -1 := rfl
  have e9 : (mst (mst (mst M 1 2 0) 1 3 (-1)) 1 1 0).2 = M.2 := rfl
  generalize mst (mst (mst M 1 2 0) 1 3 (-1)) 1 1 0 = A at *
  have hiA : DI A := ⟨fun y a b => by rw [f9 64 y (by decide)]; exact hi.1 y a b, fun y a b => by rw [f9 65 y (by decide)]; exact hi.2 y a b⟩
  rw [wp0_0 h9, wp1_0 h9, wp0_2 h9]
  have sv := slot_V h9 s a
  rw [f9 3 s (by decide)] at sv
  have sb := fun z : sl (M.1 3 s) s a ≠ -1 => sl_b (c := M.1 3 s) (s := s) (a := a)
  refine TT.guard (wk1 h9) (TT.bind sv (fun t et => ?_))
  have hc : sl (M.1 3 s) s a ≠ -1 → 0 ≤ M.1 3 s ∧ M.1 3 s ≤ 2 := fun z => by
    have p : 0 ≤ s ∧ s < 4 := by
      by_cases p : 0 ≤ s ∧ s < 4
      · exact p
      · exact absurd (by unfold sl; rw [if_neg p]) z
    exact cn_ hT p.1 (by omega)
  unfold TXQ
  rw [← et] at hc ⊢
  refine TT.ite (fun z => TT.ok ⟨⟨e9, v9⟩, Or.inl ⟨z, ⟨rfl, v92, v93⟩, fun x y p _ => f9 x y (by omega)⟩⟩) (fun hne => ?_)
  have hb := sl_b (c := M.1 3 s) (s := s) (a := a) (hc hne).1 (hc hne).2 (by rw [← et]; exact hne)
  rw [← et] at hb
  obtain ⟨⟨s0, s4⟩, t0, t2, _⟩ := hb
  refine TT.guard (wk47 h9) (TT.bind (read3_V h9 hiA hl.1 hl.2 s0 s4) (fun r q => ?_))
  obtain ⟨q1, q2, D, q3, q4⟩ := q
  rw [show A.1 2 = M.1 2 from funext fun y => f9 2 y (by decide)] at q3
  have hTr := q1.wt h9
  have rl : ∀ x y, 2 ≤ x → x ≤ 45 → r.1 x y = M.1 x y := fun x y p p' => by rw [q1.2 x y (scr_lo y (by omega) (by omega) (by omega)) (by omega) (by omega)]; exact f9 x y (by omega)
  rw [wp0_0 hTr, wp0_2 hTr]
  refine TT.guard (wk0 hTr) (TT.guard (wk47 hTr) (TT.guard (wk1 hTr) (TT.sM ?_)))
  have h21 : WT (mst r 1 2 (r.1 47 0)) := hTr.mfree _ f12 r12 (by decide)
  rw [wp0_0 h21, wp0_2 h21]
  refine TT.guard (wk47 h21) (TT.guard (wk1 h21) (TT.sM ?_))
  have h25 : WT (mst (mst r 1 2 (r.1 47 0)) 1 3 ((mst r 1 2 (r.1 47 0)).1 47 1)) := h21.mfree _ f13 r13 (by decide)
  have f25 : ∀ x y, x ≠ 1 → (mst (mst r 1 2 (r.1 47 0)) 1 3 ((mst r 1 2 (r.1 47 0)).1 47 1)).1 x y = r.1 x y := fun x y z => by rw [mst_ne _ _ _ _ _ _ z, mst_ne _ _ _ _ _ _ z]
  have v25 : (mst (mst r 1 2 (r.1 47 0)) 1 3 ((mst r 1 2 (r.1 47 0)).1 47 1)).1 1 1 = 0 := by
    show r.1 1 1 = 0
    rw [q1.2 1 1 rfl (by decide) (by decide)]; exact v9
  have v252 : (mst (mst r 1 2 (r.1 47 0)) 1 3 ((mst r 1 2 (r.1 47 0)).1 47 1)).1 1 2 = r.1 47 0 := rfl
  have v253 : (mst (mst r 1 2 (r.1 47 0)) 1 3 ((mst r 1 2 (r.1 47 0)).1 47 1)).1 1 3 = r.1 47 1 := rfl
  have e25 : (mst (mst r 1 2 (r.1 47 0)) 1 3 ((mst r 1 2 (r.1 47 0)).1 47 1)).2 = M.2 := q1.1.trans e9
  generalize mst (mst r 1 2 (r.1 47 0)) 1 3 ((mst r 1 2 (r.1 47 0)).1 47 1) = B at *
  have d25 : DRF B := by
    obtain ⟨d1, d2, d3, d4, d5, d6⟩ := q2
    refine ⟨⟨by rw [f25 48 _ (by decide)]; exact d1.1, by rw [f25 48 _ (by decide)]; exact d1.2.1, fun k y k1 k8 y0 y1 => by rw [f25 _ _ (by omega)]; exact d1.2.2 k y k1 k8 y0 y1⟩, by rw [f25 57 _ (by decide), f25 57 _ (by decide)]; exact d2, by rw [f25 58 _ (by decide)]; exact d3, by rw [f25 63 _ (by decide)]; exact d4, ⟨fun y a b => by rw [f25 64 _ (by decide)]; exact d5.1 y a b, fun y a b => by rw [f25 65 _ (by decide)]; exact d5.2 y a b⟩, fun y a b => by rw [f25 66 _ (by decide)]; exact d6 y a b⟩
  rw [wp0_0 h25, wp0_2 h25, f25 47 0 (by decide)]
  have q3' : EndsX (M.1 2) (M.1 1 1) s (B.1 1 2, B.1 1 3) D := by rw [v252, v253]; exact q3
  refine TT.guard (wk47 h25) (TT.ite (fun c => TT.guard (wk1 h25) (TT.bind (toldKeep_V h25 d25 s0 s4 t0 t2) (fun z qz => TT.ok ?_))) (fun c => TT.ok ⟨⟨e25, v25⟩, Or.inr ⟨hne, D, q3', Or.inl ⟨by rw [v252]; exact c, rfl, fun x y p p' => by rw [f25 x y (by omega)]; exact rl x y p p'⟩⟩⟩))
  obtain ⟨u, z1, z2⟩ := qz
  have lo : ∀ y, u.1 1 y = B.1 1 y := fun y => z1.off s0 s4 y (by have := nO_b s0 s4; omega)
  have l3 : ∀ y, u.1 3 y = M.1 3 y := fun y => by rw [z1.off s0 s4 y (by have := nO_b s0 s4; omega), f25 3 y (by decide)]; exact rl 3 y (by decide) (by decide)
  have ez : ∀ x y, x ≠ 3 → z.1 x y = u.1 x y := fun x y p => by rw [z2]; exact mst_ne _ _ _ _ _ _ p
  have z12 : z.1 1 2 = B.1 1 2 := by rw [ez 1 2 (by decide)]; exact lo 2
  have z13 : z.1 1 3 = B.1 1 3 := by rw [ez 1 3 (by decide)]; exact lo 3
  refine ⟨⟨by rw [z2]; exact z1.1.trans e25, by show z.1 1 1 = 0; rw [ez 1 1 (by decide), lo 1]; exact v25⟩, Or.inr ⟨hne, D, by show EndsX _ _ _ (z.1 1 2, z.1 1 3) D; rw [z12, z13]; exact q3', Or.inr ⟨by show z.1 1 2 = 0; rw [z12, v252]; exact c, rfl, fun y => ?_, ?_, fun s' t' k y a1 a2 a3 a4 ne dk => ?_⟩⟩⟩
  · show z.1 3 y = _
    rw [z2, mst_r, l3, l3]
    by_cases e : y = s
    · rw [if_pos ⟨rfl, e⟩, if_pos e]
    · rw [if_neg (fun w => e w.2), if_neg e]
  · have cd : CDr s B D := (q4 (by rw [c]; decide)).same (fun x y p p' => f25 x y (by omega))
    refine (z1.od (cd.od s0 s4 d25)).mv (fun k y dk => ez _ y ?_)
    have := dO_b dk
    omega
  · have b1 := dO_b dk
    have kk : 0 ≤ k ∧ k ≤ nO s' := by
      have := nO_b a1 a2
      rcases dO_k dk with w | w <;> omega
    show z.1 _ y = _
    rw [ez _ y (by omega), z1.off s0 s4 y (ob_dis s0 s4 a1 a2 t0 t2 a3 a4 ne kk.1 kk.2), f25 _ y (by omega)]
    exact rl _ y (by omega) (by omega)
end TextQ
