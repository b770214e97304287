/-! feed and end keep the relation -/
section FeedQ
variable {M N : Mem}
def FB (b0 b1 b2 b3 b4 k v : Int) : Prop := (k = 0 ∧ v = b0) ∨ (k = 4 ∧ v = b1) ∨ (k = 8 ∧ v = b2) ∨ (k = 12 ∧ v = b3) ∨ (k = 16 ∧ v = b4)
theorem FB.b {b0 b1 b2 b3 b4 k v : Int} (h : FB b0 b1 b2 b3 b4 k v) : 0 ≤ k ∧ k ≤ 16 := by
  rcases h with h | h | h | h | h <;> omega
theorem feedX_V (hT : WT M) (b0 b1 b2 b3 b4 : Int) {G : Int → Int} (hG : ∀ k v, FB b0 b1 b2 b3 b4 k v → ∀ j, k ≤ j → j < k + 4 → w8 (bUshr v (24 - 8 * (j - k))) = G j) : TT (fX10_feed M 0 b0 b1 b2 b3 b4) (fun r => ∀ y, r.2.1 2 y = if ¬580 < M.1 1 1 ∧ M.1 1 1 ≤ y ∧ y < M.1 1 1 + 20 then G (y - M.1 1 1) else M.1 2 y) := by
  unfold fX10_feed
  have hl := tl_ hT
  rw [wp0_0 hT]
  refine TT.guard (wk0 hT) (TT.guard (wk1 hT) (TT.ite (fun c => TT.ok (fun y => by rw [if_neg (fun z => z.1 c)])) (fun c => ?_)))
  have key : ∀ (N : Mem) (k v : Int), FB b0 b1 b2 b3 b4 k v → (LC (M.1 1 1 + k) M N ∧ ∀ y, N.1 2 y = if M.1 1 1 ≤ y ∧ y < M.1 1 1 + k then G (y - M.1 1 1) else M.1 2 y) → TT (fX6_put N 1 v) (fun r => LC (M.1 1 1 + (k + 4)) M r ∧ ∀ y, r.1 2 y = if M.1 1 1 ≤ y ∧ y < M.1 1 1 + (k + 4) then G (y - M.1 1 1) else M.1 2 y) := by
    rintro N k v hk ⟨⟨e1, e2, e3⟩, et⟩
    have kb := hk.b
    refine (put_T (t := 2) (n := M.1 1 1 + k) v (by rw [e1]; exact wk1 hT) (by rw [e3 1 0 (by decide) (fun q => absurd q.2 (by decide))]; exact wp1_0 hT) (by rw [e1]; exact wk2 hT) (by rw [e1]; exact wl2 hT) (by decide) e2 (by omega) (by omega)).mono ?_
    rintro r ⟨g1, g2, g3, g4⟩
    refine ⟨⟨g1.trans e1, by rw [g2]; omega, fun x y hx hy => (g3 x y hx hy).trans (e3 x y hx hy)⟩, fun y => ?_⟩
    rw [g4 y]
    by_cases c1 : M.1 1 1 + k ≤ y ∧ y < M.1 1 1 + k + 4
    · rw [if_pos c1, if_pos (by omega), ← hG k v hk (y - M.1 1 1) (by omega) (by omega), show y - M.1 1 1 - k = y - (M.1 1 1 + k) by omega]
    · rw [if_neg c1, et y]
      by_cases c2 : M.1 1 1 ≤ y ∧ y < M.1 1 1 + k
      · rw [if_pos c2, if_pos (by omega)]
      · rw [if_neg c2, if_neg (by omega)]
  have g9 : ∀ (N : Mem) (n : Int), LC n M N → N.2.1 0 = 9 := fun N n e => by rw [e.1]; exact wk0 hT
  have g6 : ∀ (N : Mem) (n : Int), LC n M N → N.1 0 0 = 1 := fun N n e => by rw [e.2.2 0 0 (by decide) (fun q => absurd q.1 (by decide)), wp0_0 hT]
  have g7 : ∀ (N : Mem) (n : Int), LC n M N → N.2.1 1 = 6 := fun N n e => by rw [e.1]; exact wk1 hT
  refine TT.bind (key M 0 b0 (Or.inl ⟨rfl, rfl⟩) ⟨⟨rfl, by omega, fun _ _ _ _ => rfl⟩, fun y => by rw [if_neg (by omega)]⟩) (fun r1 q1 => ?_)
  refine TT.guard (g9 _ _ q1.1) ?_
  rw [g6 _ _ q1.1]
  refine TT.guard (g7 _ _ q1.1) (TT.bind (key r1 _ b1 (Or.inr (Or.inl ⟨rfl, rfl⟩)) q1) (fun r2 q2 => ?_))
  refine TT.guard (g9 _ _ q2.1) ?_
  rw [g6 _ _ q2.1]
  refine TT.guard (g7 _ _ q2.1) (TT.bind (key r2 _ b2 (Or.inr (Or.inr (Or.inl ⟨rfl, rfl⟩))) q2) (fun r3 q3 => ?_))
  refine TT.guard (g9 _ _ q3.1) ?_
  rw [g6 _ _ q3.1]
  refine TT.guard (g7 _ _ q3.1) (TT.bind (key r3 _ b3 (Or.inr (Or.inr (Or.inr (Or.inl ⟨rfl, rfl⟩)))) q3) (fun r4 q4 => ?_))
  refine TT.guard (g9 _ _ q4.1) ?_
  rw [g6 _ _ q4.1]
  refine TT.guard (g7 _ _ q4.1) (TT.bind (key r4 _ b4 (Or.inr (Or.inr (Or.inr (Or.inr ⟨rfl, rfl⟩)))) q4) (fun r5 q5 => ?_))
  refine TT.guard (g9 _ _ q5.1) ?_
  rw [g6 _ _ q5.1]
  refine TT.guard (g7 _ _ q5.1) (TT.ok (fun y => ?_))
  show r5.1 2 y = _
  rw [q5.2 y]
  by_cases z : M.1 1 1 ≤ y ∧ y < M.1 1 1 + 20
  · rw [if_pos (by omega), if_pos ⟨c, z⟩]
  · rw [if_neg (by omega), if_neg (fun w => z w.2)]
theorem feedY_V (hT : WT M) (b0 b1 b2 b3 b4 : Int) {G : Int → Int} (hG : ∀ k v, FB b0 b1 b2 b3 b4 k v → ∀ j, k ≤ j → j < k + 4 → w8 (bShr v (24 - 8 * (j - k))) = G j) : TT (fX11_feed M 85 b0 b1 b2 b3 b4) (fun r => ∀ y, r.2.1 86 y = if ¬580 < M.1 87 0 ∧ M.1 87 0 ≤ y ∧ y < M.1 87 0 + 20 then G (y - M.1 87 0) else M.1 86 y) := by
  have h2 : WT (mst M 85 0 0) := hT.keep (Keep.self.st rfl)
  have e87 : (mst M 85 0 0).1 87 0 = M.1 87 0 := mst_ne _ _ _ _ _ _ (by decide)
  have e86 : ∀ y, (mst M 85 0 0).1 86 y = M.1 86 y := fun y => mst_ne _ _ _ _ _ _ (by decide)
  have hl := len_ hT (i := 0) (by decide) (by decide)
  unfold fX11_feed
  refine TT.guard (wk85 hT) (TT.sM ?_)
  rw [← funext e86]
  generalize mst M 85 0 0 = M2 at *
  generalize M.1 87 0 = n at *
  rw [wp85_2 h2, e87, w32_of (x := n + 20) (by omega) (by omega)]
  refine TT.guard ⟨wk87 h2, by decide, by rw [wl87 h2]; decide⟩ (TT.ite (fun c => TT.ok (fun y => by rw [if_neg (fun z => z.1 (by omega))])) (fun c => ?_))
  have key : ∀ (N : Mem) (k v : Int), FB b0 b1 b2 b3 b4 k v → (LX (n + k) M2 N ∧ ∀ y, N.1 86 y = if n ≤ y ∧ y < n + k then G (y - n) else M2.1 86 y) → TT (fX11_four N 85 v) (fun r => LX (n + (k + 4)) M2 r ∧ ∀ y, r.1 86 y = if n ≤ y ∧ y < n + (k + 4) then G (y - n) else M2.1 86 y) := by
    rintro N k v hk ⟨⟨e1, e2, e3⟩, et⟩
    have kb := hk.b
    refine (four_T (t := 86) (z := 87) (n := n + k) v (by rw [e1]; exact wk85 h2) (by rw [e3 85 1 (by decide) (fun q => absurd q.2 (by decide))]; exact wp85_1 h2) (by rw [e3 85 2 (by decide) (fun q => absurd q.2 (by decide))]; exact wp85_2 h2) (by rw [e1]; exact wk86 h2) (by rw [e1]; exact wl86 h2) (by rw [e1]; exact wk87 h2) (by rw [e1]; exact wl87 h2) (by decide) (by decide) (by decide) e2 (by omega) (by omega)).mono ?_
    rintro r ⟨g1, g2, g3, g4⟩
    refine ⟨⟨g1.trans e1, by rw [g2]; omega, fun x y hx hy => (g3 x y hx hy).trans (e3 x y hx hy)⟩, fun y => ?_⟩
    rw [g4 y]
    by_cases c1 : n + k ≤ y ∧ y < n + k + 4
    · rw [if_pos c1, if_pos (by omega), ← hG k v hk (y - n) (by omega) (by omega), show y - n - k = y - (n + k) by omega]
    · rw [if_neg c1, et y]
      by_cases c2 : n ≤ y ∧ y < n + k
      · rw [if_pos c2, if_pos (by omega)]
      · rw [if_neg c2, if_neg (by omega)]
  have g9 : ∀ N : Mem, N.2 = M2.2 → N.2.1 85 = 10 := fun N e => by rw [e]; exact wk85 h2
  refine TT.bind (key M2 0 b0 (Or.inl ⟨rfl, rfl⟩) ⟨⟨rfl, by rw [e87]; omega, fun _ _ _ _ => rfl⟩, fun y => by rw [if_neg (by omega)]⟩) (fun r1 q1 => ?_)
  refine TT.guard (g9 _ q1.1.1) (TT.bind (key r1 _ b1 (Or.inr (Or.inl ⟨rfl, rfl⟩)) q1) (fun r2 q2 => ?_))
  refine TT.guard (g9 _ q2.1.1) (TT.bind (key r2 _ b2 (Or.inr (Or.inr (Or.inl ⟨rfl, rfl⟩))) q2) (fun r3 q3 => ?_))
  refine TT.guard (g9 _ q3.1.1) (TT.bind (key r3 _ b3 (Or.inr (Or.inr (Or.inr (Or.inl ⟨rfl, rfl⟩)))) q3) (fun r4 q4 => ?_))
  refine TT.guard (g9 _ q4.1.1) (TT.bind (key r4 _ b4 (Or.inr (Or.inr (Or.inr (Or.inr ⟨rfl, rfl⟩)))) q4) (fun r5 q5 => ?_))
  refine TT.guard (g9 _ q5.1.1) ?_
  have e : r5.1 85 2 = 87 := by rw [q5.1.2.2 85 2 (by decide) (fun q => absurd q.2 (by decide)), wp85_2 h2]
  rw [e]
  refine TT.guard (by rw [q5.1.1]; exact ⟨wk87 h2, by decide, by rw [wl87 h2]; decide⟩) (TT.ok (fun y => ?_))
  show r5.1 86 y = _
  rw [q5.2 y]
  by_cases z : n ≤ y ∧ y < n + 20
  · rw [if_pos (by omega), if_pos ⟨by omega, z⟩]
  · rw [if_neg (by omega), if_neg (fun w => z w.2)]
/-- the tapes change in the layer 0 alone -/
theorem REL.len (h : INV2 M) (f : ∀ x y, x ≠ 85 → x ≠ 86 → x ≠ 2 → ¬(x = 1 ∧ y = 1) → ¬(x = 87 ∧ y = 0) → N.1 x y = M.1 x y) (g86 : ∀ y, 600 ≤ y → N.1 86 y = M.1 86 y) (e1 : N.1 1 1 = N.1 87 0) (tp : ∀ i, 0 ≤ i → i < N.1 1 1 → (-128 ≤ N.1 2 i ∧ N.1 2 i ≤ 127) ∧ N.1 86 i = N.1 2 i) : REL N := by
  obtain ⟨hI, ⟨⟨h1, h2, h3⟩, h4, h5, h6⟩, h7⟩ := h
  refine ⟨⟨⟨e1, ?_, ?_⟩, fun i a b => ?_, fun s a b => ?_, fun s t a b c d => ?_⟩, fun k a b c => ?_⟩
  · rw [f 1 2 (by decide) (by decide) (by decide) (by decide) (by decide), f 88 0 (by decide) (by decide) (by decide) (by decide) (by decide)]; exact h2
  · rw [f 1 3 (by decide) (by decide) (by decide) (by decide) (by decide), f 89 0 (by decide) (by decide) (by decide) (by decide) (by decide)]; exact h3
  · rw [show 600 * 0 + i = i by omega]; exact tp i a b
  · rw [show (1 : Int) + 2 = 3 from rfl, f 3 s (by decide) (by decide) (by decide) (by omega) (by omega), f 90 _ (by decide) (by decide) (by decide) (by omega) (by omega)]; exact h5 s a b
  · rw [show (1 : Int) + 2 = 3 from rfl, f 3 s (by decide) (by decide) (by decide) (by omega) (by omega)] at d
    have t2 := (h5 s a b).2
    rw [show (1 : Int) + 2 = 3 from rfl] at t2
    exact ((h6 s t a b c d).mv (fun k y dk => by have := dO_b dk; exact f _ y (by omega) (by omega) (by omega) (by omega) (by omega))).row (fun y y0 y1 => f _ _ (by omega) (by omega) (by omega) (by omega) (by omega))
  · have e46 : N.1 46 k = M.1 46 k := f 46 k (by decide) (by decide) (by decide) (by omega) (by omega)
    rw [e46] at c ⊢
    have hb := ((hI.2.2.1.1 k a b).resolve_left c).1.1
    have ln := ((hI.2.2.2.2.2.2 k a b).1 c)
    have l6 := len_ hI.1 (i := k + 1) (by omega) (by omega)
    refine (h7 k a b c).mv (by rw [ln]; exact l6.2) (BK.of _ (fun x y z w => f x y (by omega) (by omega) (by omega) (by omega) (by omega))) ⟨⟨?_, ?_, ?_⟩, fun i p q => g86 _ (by omega), fun s p q => ?_, fun s t y s0 s4 _ _ _ _ => ?_⟩
    · exact f 87 _ (by decide) (by decide) (by decide) (by omega) (by omega)
    · exact f 88 _ (by decide) (by decide) (by decide) (by omega) (by omega)
    · exact f 89 _ (by decide) (by decide) (by decide) (by omega) (by omega)
    · exact f 90 _ (by decide) (by decide) (by decide) (by omega) (by omega)
    · exact f _ _ (by omega) (by omega) (by omega) (by omega) (by omega)
def fbG (b0 b1 b2 b3 b4 j : Int) : Int := w8 (bShr (if j < 4 then b0 else if j < 8 then b1 else if j < 12 then b2 else if j < 16 then b3 else b4) (24 - 8 * (j % 4)))
theorem fbG_at {b0 b1 b2 b3 b4 k v : Int} (h : FB b0 b1 b2 b3 b4 k v) {j : Int} (j0 : k ≤ j) (j1 : j < k + 4) : w8 (bShr v (24 - 8 * (j - k))) = fbG b0 b1 b2 b3 b4 j := by
  have e : j % 4 = j - k := by rcases h with h | h | h | h | h <;> omega
  have e2 : (if j < 4 then b0 else if j < 8 then b1 else if j < 12 then b2 else if j < 16 then b3 else b4) = v := by
    rcases h with ⟨h, w⟩ | ⟨h, w⟩ | ⟨h, w⟩ | ⟨h, w⟩ | ⟨h, w⟩ <;> rw [w]
    · rw [if_pos (by omega)]
    · rw [if_neg (by omega), if_pos (by omega)]
    · rw [if_neg (by omega), if_neg (by omega), if_pos (by omega)]
    · rw [if_neg (by omega), if_neg (by omega), if_neg (by omega), if_pos (by omega)]
    · rw [if_neg (by omega), if_neg (by omega), if_neg (by omega), if_neg (by omega)]
  unfold fbG
  rw [e, e2]
theorem feed_Q (h : INV2 M) (b0 b1 b2 b3 b4 : Int) : TT (fX10_feed M 0 b0 b1 b2 b3 b4) (fun r => WT r.2 ∧ TT (fX11_feed r.2 85 b0 b1 b2 b3 b4) (fun q => r.1 = q.1 ∧ INV2 q.2)) := by
  have hT := h.1.1
  have hl := tl_ hT
  refine (TT.and (feed_P h.1 b0 b1 b2 b3 b4) (TT.and (feedX_T hT b0 b1 b2 b3 b4) (feedX_V hT b0 b1 b2 b3 b4 (G := fbG b0 b1 b2 b3 b4) (fun k v hk j j0 j1 => by rw [w8_sh v (by omega)]; exact fbG_at hk j0 j1)))).mono (fun r q => ⟨q.1.1, ?_⟩)
  obtain ⟨⟨wr, qP⟩, ⟨_, qL⟩, qV⟩ := q
  refine (TT.and qP (TT.and (feedY_T wr b0 b1 b2 b3 b4) (feedY_V wr b0 b1 b2 b3 b4 (G := fbG b0 b1 b2 b3 b4) (fun k v hk j j0 j1 => fbG_at hk j0 j1)))).mono (fun u v => ⟨v.1.1, v.1.2, ?_⟩)
  obtain ⟨⟨_, vI⟩, ⟨_, vL⟩, vV⟩ := v
  have e87 : r.2.1 87 0 = M.1 1 1 := by rw [qL.2.2 87 0 (by decide) (by omega)]; exact h.1.2.2.2.2.2.1.symm
  rw [e87] at vL vV
  have f : ∀ x y, x ≠ 85 → x ≠ 86 → x ≠ 2 → ¬(x = 1 ∧ y = 1) → ¬(x = 87 ∧ y = 0) → u.2.1 x y = M.1 x y := fun a b z1 z2 z3 z4 z5 => by
    rw [vL.2.2 a b z2 z5, mst_ne _ _ _ _ _ _ z1]; exact qL.2.2 a b z3 z4
  have r86 : ∀ y, r.2.1 86 y = M.1 86 y := fun y => qL.2.2 86 y (by decide) (by omega)
  have u2 : ∀ y, u.2.1 2 y = r.2.1 2 y := fun y => by rw [vL.2.2 2 y (by decide) (by omega), mst_ne _ _ _ _ _ _ (by decide)]
  have u1 : u.2.1 1 1 = if 580 < M.1 1 1 then M.1 1 1 else M.1 1 1 + 20 := by rw [vL.2.2 1 1 (by decide) (by omega), mst_ne _ _ _ _ _ _ (by decide), qL.2.1]
  refine REL.len h f (fun y hy => ?_) ?_ (fun i a b => ?_)
  · rw [vV y, if_neg (by omega), r86]
  · rw [u1, vL.2.1]
  · rw [u1] at b
    rw [u2, qV i, vV i, r86]
    by_cases c : ¬580 < M.1 1 1 ∧ M.1 1 1 ≤ i ∧ i < M.1 1 1 + 20
    · rw [if_pos c, if_pos c]
      exact ⟨w8_r _, rfl⟩
    · rw [if_neg c, if_neg c]
      have b' : i < M.1 1 1 := by
        by_cases z : 580 < M.1 1 1
        · rw [if_pos z] at b; exact b
        · rw [if_neg z] at b
          by_cases z2 : M.1 1 1 ≤ i
          · exact absurd ⟨z, z2, b⟩ c
          · omega
      have g := h.2.1.2.1 i a b'
      rw [show 600 * 0 + i = i by omega] at g; exact g
theorem endX_V (hT : WT M) (n : Int) : TT (fX10_end M 0 n) (fun r => ∀ y, r.2.1 2 y = M.1 2 y) := by
  unfold fX10_end
  rw [wp0_0 hT]
  exact TT.ite (fun c => TT.ok (fun _ => rfl)) (fun c => TT.guard (wk0 hT) (TT.guard (wk1 hT) (TT.ite (fun d => TT.ok (fun _ => rfl)) (fun d => TT.sM (TT.ok (fun y => mst_ne _ _ _ _ _ _ (by decide)))))))
theorem endY_V (hT : WT M) (n : Int) : TT (fX11_end M 85 n) (fun r => ∀ y, r.2.1 86 y = M.1 86 y) := by
  have h2 : WT (mst M 85 0 0) := hT.keep (Keep.self.st rfl)
  have e86 : ∀ y, (mst M 85 0 0).1 86 y = M.1 86 y := fun y => mst_ne _ _ _ _ _ _ (by decide)
  have e87 : (mst M 85 0 0).1 87 0 = M.1 87 0 := mst_ne _ _ _ _ _ _ (by decide)
  unfold fX11_end
  refine TT.guard (wk85 hT) (TT.sM ?_)
  generalize mst M 85 0 0 = M2 at *
  rw [wp85_2 h2, e87]
  have g : M2.2.1 87 = 12 ∧ (0 : Int) ≤ 0 ∧ 0 < M2.2.2.1 87 := ⟨wk87 h2, by decide, by rw [wl87 h2]; decide⟩
  refine TT.guard g (TT.bindE (in_v2 _ _ _ _) ?_)
  by_cases c : 0 ≤ n ∧ n ≤ M.1 87 0
  · rw [if_pos c]
    exact TT.neg (by decide) (TT.guard g (TT.sM (TT.ok (fun y => by rw [mst_ne _ _ _ _ _ _ (by decide)]; exact e86 y))))
  · rw [if_neg c]
    exact TT.pos rfl (TT.ok e86)
theorem end_Q (h : INV2 M) (n : Int) : TT (fX10_end M 0 n) (fun r => WT r.2 ∧ TT (fX11_end r.2 85 n) (fun q => r.1 = q.1 ∧ INV2 q.2)) := by
  have hT := h.1.1
  have hl := tl_ hT
  refine (TT.and (end_P h.1 n) (TT.and (endX_T hT n) (endX_V hT n))).mono (fun r q => ⟨q.1.1, ?_⟩)
  obtain ⟨⟨wr, qP⟩, ⟨_, qL⟩, qV⟩ := q
  refine (TT.and qP (TT.and (endY_T wr n) (endY_V wr n))).mono (fun u v => ⟨v.1.1, v.1.2, ?_⟩)
  obtain ⟨⟨_, vI⟩, ⟨_, vL⟩, vV⟩ := v
  have e87 : r.2.1 87 0 = M.1 1 1 := by rw [qL.2.2 87 0 (by decide) (by omega)]; exact h.1.2.2.2.2.2.1.symm
  rw [e87] at vL
  have f : ∀ x y, x ≠ 85 → x ≠ 86 → x ≠ 2 → ¬(x = 1 ∧ y = 1) → ¬(x = 87 ∧ y = 0) → u.2.1 x y = M.1 x y := fun a b z1 z2 z3 z4 z5 => by
    rw [vL.2.2 a b z2 z5, mst_ne _ _ _ _ _ _ z1]; exact qL.2.2 a b z3 z4
  have u86 : ∀ y, u.2.1 86 y = M.1 86 y := fun y => by rw [vV y]; exact qL.2.2 86 y (by decide) (by omega)
  have u2 : ∀ y, u.2.1 2 y = M.1 2 y := fun y => by rw [vL.2.2 2 y (by decide) (by omega), mst_ne _ _ _ _ _ _ (by decide)]; exact qV y
  have u1 : u.2.1 1 1 = if 0 ≤ n ∧ n ≤ M.1 1 1 then n else M.1 1 1 := by rw [vL.2.2 1 1 (by decide) (by omega), mst_ne _ _ _ _ _ _ (by decide), qL.2.1]
  refine REL.len h f (fun y hy => u86 y) ?_ (fun i a b => ?_)
  · rw [u1, vL.2.1]
  · rw [u1] at b
    rw [u2, u86]
    have b' : i < M.1 1 1 := by
      by_cases z : 0 ≤ n ∧ n ≤ M.1 1 1
      · rw [if_pos z] at b; omega
      · rw [if_neg z] at b; exact b
    have g := h.2.1.2.1 i a b'
    rw [show 600 * 0 + i = i by omega] at g; exact g
end FeedQ
