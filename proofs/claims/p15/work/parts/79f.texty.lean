/-! text, exact: the reference; both -/
section TextY
variable {M N : Mem}
theorem storeAll_V (hS : Shp M) {s k : Int} (s0 : 0 ≤ s) (s4 : s < 4) (hk : k = 0 ∨ k = 1) : TT (fX11_storeAll M 85 s k) (fun N => N.2 = M.2 ∧ (∀ x y, x ≠ 91 + s → N.1 x y = M.1 x y) ∧ ∀ y, N.1 (91 + s) y = if wd s * k ≤ y ∧ y < wd s * k + wd s then M.1 95 (y - wd s * k) else M.1 (91 + s) y) := by
  unfold fX11_storeAll
  rw [sp85_6 hS, sp85_7 hS, sp85_8 hS, sp85_9 hS]
  have fin : ∀ (c W : Int), 91 ≤ c → c ≤ 94 → M.2.1 c = 12 → W * 2 ≤ M.2.2.1 c → 0 ≤ W → W ≤ 161 → TT (fX11_store M 85 c W k) (fun N => N.2 = M.2 ∧ (∀ x y, x ≠ c → N.1 x y = M.1 x y) ∧ ∀ y, N.1 c y = if W * k ≤ y ∧ y < W * k + W then M.1 95 (y - W * k) else M.1 c y) := by
    intro c W c1 c2 kc lc W0 W1
    have hWk : 0 ≤ W * k ∧ W * k ≤ W := by
      rcases hk with e | e
      · rw [e]; omega
      · rw [e]; omega
    exact store_T (a := c) (w := W) (k := k) hS kc (by omega) (by omega) W0 W1 hWk.1 (by omega) (by omega)
  refine TT.ite (fun e => ?_) (fun e0 => TT.ite (fun e => ?_) (fun e1 => TT.ite (fun e => ?_) (fun e2 => ?_)))
  · subst e
    exact TT.guard (sk85 hS) (TT.bind (fin 91 92 (by decide) (by decide) (sk91 hS) (by rw [sl91 hS]; decide) (by decide) (by decide)) (fun N q => TT.ok q))
  · subst e
    exact TT.guard (sk85 hS) (TT.bind (fin 92 3 (by decide) (by decide) (sk92 hS) (by rw [sl92 hS]; decide) (by decide) (by decide)) (fun N q => TT.ok q))
  · subst e
    exact TT.guard (sk85 hS) (TT.bind (fin 93 161 (by decide) (by decide) (sk93 hS) (by rw [sl93 hS]; decide) (by decide) (by decide)) (fun N q => TT.ok q))
  · have e3 : s = 3 := by omega
    subst e3
    exact TT.guard (sk85 hS) (TT.bind (fin 94 47 (by decide) (by decide) (sk94 hS) (by rw [sl94 hS]; decide) (by decide) (by decide)) (fun N q => TT.ok q))
/-- what the reference's text leaves -/
def TYQ (M : Mem) (s a : Int) (r : Int × Mem) : Prop :=
  (r.2.1 87 0 = 0 ∧ (∀ y, y ≠ 0 → r.2.1 87 y = M.1 87 y ∧ r.2.1 88 y = M.1 88 y ∧ r.2.1 89 y = M.1 89 y) ∧ ∀ y, r.2.1 86 y = M.1 86 y) ∧
  ((sl (M.1 90 s) s a = -1 ∧ (r.1 = -2 ∧ r.2.1 88 0 = 0 ∧ r.2.1 89 0 = -1) ∧ ∀ x y, 90 ≤ x → x ≤ 94 → r.2.1 x y = M.1 x y) ∨
   (sl (M.1 90 s) s a ≠ -1 ∧ ∃ D, EndsX (M.1 86) (M.1 87 0) s (r.2.1 88 0, r.2.1 89 0) D ∧
     ((r.2.1 88 0 ≠ 0 ∧ r.1 = -1 ∧ ∀ x y, 90 ≤ x → x ≤ 94 → r.2.1 x y = M.1 x y) ∨
      (r.2.1 88 0 = 0 ∧ r.1 = sl (M.1 90 s) s a ∧ (∀ y, r.2.1 90 y = if y = s then imax (M.1 90 s) (sl (M.1 90 s) s a + 1) else M.1 90 y) ∧ (∀ y, 0 ≤ y → y < wd s → r.2.1 (91 + s) (wd s * sl (M.1 90 s) s a + y) = D y) ∧
        ∀ x y, 91 ≤ x → x ≤ 94 → ¬(x = 91 + s ∧ wd s * sl (M.1 90 s) s a ≤ y ∧ y < wd s * sl (M.1 90 s) s a + wd s) → r.2.1 x y = M.1 x y))))
theorem wd_b {s : Int} (s0 : 0 ≤ s) (s4 : s < 4) : 3 ≤ wd s ∧ wd s ≤ 161 := by
  rcases (show s = 0 ∨ s = 1 ∨ s = 2 ∨ s = 3 by omega) with e | e | e | e <;> subst e <;> decide
set_option maxHeartbeats 1000000 in
theorem textY_V (hT : WT M) (hb : ∀ i, 0 ≤ i → i < M.1 87 0 → -128 ≤ M.1 86 i ∧ M.1 86 i ≤ 127) (s a : Int) : TT (fX11_text M 85 s a) (TYQ M s a) := by
  unfold fX11_text
  refine TT.guard (wk85 hT) (TT.sM ?_)
  rw [show (mst M 85 0 0).1 85 2 = 87 from (wp85_2 hT : M.1 85 2 = 87)]
  refine TT.guard ⟨(wk87 hT : M.2.1 87 = 12), by decide, by show 0 < M.2.2.1 87; rw [wl87 hT]; decide⟩ (TT.sM ?_)
  have hK5 : Keep M (mst (mst M 85 0 0) 85 11 ((mst M 85 0 0).1 87 0)) := (Keep.self.st rfl).st rfl
  have e11 : (mst (mst M 85 0 0) 85 11 ((mst M 85 0 0).1 87 0)).1 85 11 = M.1 87 0 := rfl
  have f5 : ∀ x y, x ≠ 85 → (mst (mst M 85 0 0) 85 11 ((mst M 85 0 0).1 87 0)).1 x y = M.1 x y := fun x y z => by rw [mst_ne _ _ _ _ _ _ z, mst_ne _ _ _ _ _ _ z]
  generalize mst (mst M 85 0 0) 85 11 ((mst M 85 0 0).1 87 0) = M5 at *
  have hT5 := hT.keep hK5
  rw [wp85_2 hT5]
  refine TT.guard ⟨wk87 hT5, by decide, by rw [wl87 hT5]; decide⟩ (TT.sM ?_)
  have hT8 : WT (mst M5 87 0 0) := hT5.mst' f87 r87 (by decide)
  rw [wp85_3 hT8]
  refine TT.guard ⟨wk88 hT8, by decide, by rw [wl88 hT8]; decide⟩ (TT.sM ?_)
  have hT11 : WT (mst (mst M5 87 0 0) 88 0 0) := hT8.mst' f88 (r88 _) (by decide)
  rw [wp85_4 hT11]
  refine TT.guard ⟨wk89 hT11, by decide, by rw [wl89 hT11]; decide⟩ (TT.sM ?_)
  have hT14 : WT (mst (mst (mst M5 87 0 0) 88 0 0) 89 0 (-1)) := hT11.mst' f89 (r89 _) (by decide)
  have hl14 : (mst (mst (mst M5 87 0 0) 88 0 0) 89 0 (-1)).1 85 11 = M.1 87 0 := e11
  have fA : ∀ x y, x ≠ 85 → x ≠ 87 → x ≠ 88 → x ≠ 89 → (mst (mst (mst M5 87 0 0) 88 0 0) 89 0 (-1)).1 x y = M.1 x y := fun x y z z7 z8 z9 => by
    rw [mst_ne _ _ _ _ _ _ z9, mst_ne _ _ _ _ _ _ z8, mst_ne _ _ _ _ _ _ z7]; exact f5 x y z
  have fB : ∀ x y, x ≠ 85 → y ≠ 0 → (mst (mst (mst M5 87 0 0) 88 0 0) 89 0 (-1)).1 x y = M.1 x y := fun x y z z7 => by
    rw [mst_nf _ _ _ _ _ _ z7, mst_nf _ _ _ _ _ _ z7, mst_nf _ _ _ _ _ _ z7]; exact f5 x y z
  have a87 : (mst (mst (mst M5 87 0 0) 88 0 0) 89 0 (-1)).1 87 0 = 0 := rfl
  have a88 : (mst (mst (mst M5 87 0 0) 88 0 0) 89 0 (-1)).1 88 0 = 0 := rfl
  have a89 : (mst (mst (mst M5 87 0 0) 88 0 0) 89 0 (-1)).1 89 0 = -1 := rfl
  generalize mst (mst (mst M5 87 0 0) 88 0 0) 89 0 (-1) = A at *
  have bad : sl (M.1 90 s) s a = -1 → TYQ M s a (-2, A) := fun z => ⟨⟨a87, fun y hy => ⟨fB 87 y (by decide) hy, fB 88 y (by decide) hy, fB 89 y (by decide) hy⟩, fun y => fA 86 y (by decide) (by decide) (by decide) (by decide)⟩, Or.inl ⟨z, ⟨rfl, a88, a89⟩, fun x y p q => fA x y (by omega) (by omega) (by omega) (by omega)⟩⟩
  refine TT.bindE (in_v2 _ _ _ _) ?_
  by_cases p : 0 ≤ s ∧ s ≤ 3
  rotate_left
  · rw [if_neg p]
    exact TT.pos rfl (TT.ok (bad (by unfold sl; rw [if_neg (by omega)])))
  rw [if_pos p]
  refine TT.neg (by decide) ?_
  have p4 : 0 ≤ s ∧ s < 4 := by omega
  have e90A : A.1 90 s = M.1 90 s := fA 90 s (by decide) (by decide) (by decide) (by decide)
  have hmany := mn_ hT (i := s) (by omega) (by omega)
  rw [wp85_5 hT14, e90A]
  refine TT.join (fun _ => sl (M.1 90 s) s a ≠ -1) (fun _ ha => ?_) (fun j hj => TT.ite (fun e => TT.guard ⟨wk90 hT14, by omega, by rw [wl90 hT14]; omega⟩ (TT.ite (fun c => TT.ok (bad (by unfold sl; rw [if_pos p4, if_pos e, if_neg (by omega)]))) (fun c => hj () (by unfold sl; rw [if_pos p4, if_pos e, if_pos (by omega)]; omega)))) (fun e => TT.bindE (is_V hT14 a (by omega) (by omega)) ?_))
  rotate_left
  · rw [e90A]
    by_cases c : 0 ≤ a ∧ a < M.1 90 s
    · rw [if_pos c]
      exact TT.neg (by decide) (hj () (by unfold sl; rw [if_pos p4, if_neg e, if_pos c]; omega))
    · rw [if_neg c]
      exact TT.pos rfl (TT.ok (bad (by unfold sl; rw [if_pos p4, if_neg e, if_neg c])))
  have hlen := len_ hT (i := 0) (by decide) (by decide)
  have hbA : BY A := fun i i0 i1 => by
    rw [hl14] at i1
    rw [fA 86 i (by decide) (by decide) (by decide) (by decide)]; exact hb i i0 i1
  refine TT.bind (TT.and (readText_T hT14 (by rw [hl14]; exact hlen) (s := s) (by omega) (by omega)) (readText_W hT14 hbA (by rw [hl14]; exact hlen) p4.1 p4.2)) (fun r q => ?_)
  obtain ⟨⟨_, qR, _⟩, D, qE, qr, q95⟩ := q
  rw [show A.1 86 = M.1 86 from funext fun y => fA 86 y (by decide) (by decide) (by decide) (by decide), hl14] at qE
  have hTr := RTQ.wt hT14 qR
  have rA : ∀ x y, (86 ≤ x ∧ x ≤ 94) → ¬(x = 88 ∧ y = 0) → ¬(x = 89 ∧ y = 0) → r.2.1 x y = A.1 x y := fun x y z1 z2 z3 => qR.2 x y (scr_lo _ (by omega) (by omega) (by omega)) z2 z3
  have h1 : r.2.1 87 0 = 0 := by rw [rA 87 0 (by decide) (by omega) (by omega)]; exact a87
  have h2 : ∀ y, y ≠ 0 → r.2.1 87 y = M.1 87 y ∧ r.2.1 88 y = M.1 88 y ∧ r.2.1 89 y = M.1 89 y := fun y hy => ⟨by rw [rA 87 y (by decide) (by omega) (by omega)]; exact fB 87 y (by decide) hy, by rw [rA 88 y (by decide) (by omega) (by omega)]; exact fB 88 y (by decide) hy, by rw [rA 89 y (by decide) (by omega) (by omega)]; exact fB 89 y (by decide) hy⟩
  have h3 : ∀ y, r.2.1 86 y = M.1 86 y := fun y => by rw [rA 86 y (by decide) (by omega) (by omega)]; exact fA 86 y (by decide) (by decide) (by decide) (by decide)
  have h4 : ∀ x y, 90 ≤ x → x ≤ 94 → r.2.1 x y = M.1 x y := fun x y z1 z2 => by rw [rA x y (by omega) (by omega) (by omega)]; exact fA x y (by omega) (by omega) (by omega) (by omega)
  refine TT.ite (fun c => TT.ok ⟨⟨h1, h2, h3⟩, Or.inr ⟨ha, D, qE, Or.inl ⟨fun z => by rw [qr, if_pos z] at c; exact absurd c (by decide), rfl, h4⟩⟩⟩) (fun c => ?_)
  have c88 : r.2.1 88 0 = 0 := by
    by_cases z : r.2.1 88 0 = 0
    · exact z
    · rw [qr, if_neg z] at c; exact absurd rfl c
  have q95 := q95 c88
  have g90 : r.2.2.1 90 = 12 ∧ (0 : Int) ≤ s ∧ s < r.2.2.2.1 90 := ⟨wk90 hTr, by omega, by rw [wl90 hTr]; omega⟩
  have hsl := sl_b hmany.1 hmany.2 ha
  unfold TYQ
  generalize hk : sl (M.1 90 s) s a = k at *
  obtain ⟨_, k0, k2, hk3⟩ := hsl
  rw [wp85_5 hTr, h4 90 s (by decide) (by decide)]
  refine TT.join (fun k' : Int => k' = k) (fun k' hk' => ?_) (fun j hj => TT.ite (fun e => TT.guard (wk85 hTr) (TT.guard g90 (hj _ (by omega)))) (fun e => hj _ (by omega)))
  subst hk'
  refine TT.guard (wk85 hTr) (TT.guard g90 ?_)
  refine TT.join (fun t : Int => M.1 90 s + t = imax (M.1 90 s) (k' + 1)) (fun t ht => TT.guard g90 (TT.sM ?_)) (fun j hj => TT.ite (fun e => hj _ (by unfold imax; split <;> omega)) (fun e => hj _ (by unfold imax; split <;> omega)))
  have hm2 : 0 ≤ imax (M.1 90 s) (k' + 1) ∧ imax (M.1 90 s) (k' + 1) ≤ 2 := by unfold imax; split <;> omega
  rw [w32_of (x := M.1 90 s + t) (by omega) (by omega), ht]
  generalize imax (M.1 90 s) (k' + 1) = m at *
  have hS : Shp (mst r.2 90 s m) := hTr.1.mst _ (by
    rw [freeOf, List.all_eq_true]
    intro p hp
    have g3 := List.all_eq_true.mp PL_lo p hp
    simp only [decide_eq_true_eq] at g3
    rw [decide_eq_false (show ¬ p.1 = 90 by omega)]; rfl)
  have wb := wd_b p4.1 p4.2
  refine TT.bind (storeAll_V hS p4.1 p4.2 (show k' = 0 ∨ k' = 1 by omega)) (fun z q => TT.ok ?_)
  obtain ⟨z1, z2, z3⟩ := q
  have lo : ∀ x y, 86 ≤ x → x ≤ 89 → z.1 x y = r.2.1 x y := fun x y a b => by rw [z2 x y (by omega)]; exact mst_ne _ _ _ _ _ _ (by omega)
  refine ⟨⟨by show z.1 87 0 = 0; rw [lo 87 0 (by decide) (by decide)]; exact h1, fun y hy => ?_, fun y => by show z.1 86 y = _; rw [lo 86 y (by decide) (by decide)]; exact h3 y⟩, Or.inr ⟨ha, D, ?_, Or.inr ⟨by show z.1 88 0 = 0; rw [lo 88 0 (by decide) (by decide)]; exact c88, rfl, fun y => ?_, fun y y0 y1 => ?_, fun x y x0 x1 ne => ?_⟩⟩⟩
  · show z.1 87 y = _ ∧ z.1 88 y = _ ∧ z.1 89 y = _
    rw [lo 87 y (by decide) (by decide), lo 88 y (by decide) (by decide), lo 89 y (by decide) (by decide)]; exact h2 y hy
  · show EndsX _ _ _ (z.1 88 0, z.1 89 0) D
    rw [lo 88 0 (by decide) (by decide), lo 89 0 (by decide) (by decide)]; exact qE
  · show z.1 90 y = _
    rw [z2 90 y (by omega), mst_r]
    by_cases e : y = s
    · rw [if_pos ⟨rfl, e⟩, if_pos e]
    · rw [if_neg (fun w => e w.2), if_neg e]; exact h4 90 y (by decide) (by decide)
  · show z.1 (91 + s) (wd s * k' + y) = D y
    rw [z3, if_pos (by omega), mst_ne _ _ _ _ _ _ (by decide), show wd s * k' + y - wd s * k' = y by omega]
    exact q95 y y0 (by omega)
  · show z.1 x y = _
    by_cases e : x = 91 + s
    · rw [e, z3, if_neg (fun w => ne ⟨e, w⟩), mst_ne _ _ _ _ _ _ (by omega)]
      exact h4 _ y (by omega) (by omega)
    · rw [z2 x y e, mst_ne _ _ _ _ _ _ (by omega)]; exact h4 x y (by omega) (by omega)
end TextY
