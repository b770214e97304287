/-! house, law, deed, sight -/
section Calls2
variable {M N : Mem} {D : Int → Int}
def spS (D : Int → Int) (h g : Int) : Int := imax 0 (D (2 + (5 * h + g)) - D (32 + (5 * h + g)))
def lkS (D : Int → Int) (h g : Int) : Int := imax 0 (D (32 + (5 * h + g)) - D (2 + (5 * h + g)))
theorem cellV {h g : Int} (h0 : 0 ≤ h) (h1 : h < 6) (g0 : 0 ≤ g) (g1 : g < 5) : fX10_cell M h g = some (5 * h + g) := by
  obtain ⟨r, e, q⟩ := cell_T (M := M) h0 h1 g0 g1
  rw [e, q.1]
theorem TD.spare {a h g : Int} (d : TD M a D) (h0 : 0 ≤ h) (h1 : h < 6) (g0 : 0 ≤ g) (g1 : g < 5) : fX7_spareOf M a h g = some (spS D h g) := by
  have bd := d.bd
  obtain ⟨hT, ha, _, e2, _⟩ := d
  have b := bd.2.2.1 (5 * h + g) (by omega) (by omega)
  have e := e2 (5 * h + g) (by omega) (by omega)
  unfold fX7_spareOf
  rw [if_pos (tk hT ha), cellV h0 h1 g0 g1, tp2_ hT ha, tp3_ hT ha]
  rw [bd1, if_pos ⟨tk2_ hT ha, by omega, by rw [tl2_ hT ha]; omega⟩]
  rw [bd1, if_pos ⟨tk3_ hT ha, by omega, by rw [tl3_ hT ha]; omega⟩, e.1, e.2, w32_of (by omega) (by omega)]; rfl
theorem TD.lack {a h g : Int} (d : TD M a D) (h0 : 0 ≤ h) (h1 : h < 6) (g0 : 0 ≤ g) (g1 : g < 5) : fX7_lackOf M a h g = some (lkS D h g) := by
  have bd := d.bd
  obtain ⟨hT, ha, _, e2, _⟩ := d
  have b := bd.2.2.1 (5 * h + g) (by omega) (by omega)
  have e := e2 (5 * h + g) (by omega) (by omega)
  unfold fX7_lackOf
  rw [if_pos (tk hT ha), cellV h0 h1 g0 g1, tp2_ hT ha, tp3_ hT ha]
  rw [bd1, if_pos ⟨tk3_ hT ha, by omega, by rw [tl3_ hT ha]; omega⟩]
  rw [bd1, if_pos ⟨tk2_ hT ha, by omega, by rw [tl2_ hT ha]; omega⟩, e.1, e.2, w32_of (by omega) (by omega)]; rfl
theorem greaterV (a b : Int) : fX11_greater M a b = some (imax a b) := by
  unfold fX11_greater imax
  by_cases c : b < a
  · rw [if_pos c, if_neg (by omega)]
  · rw [if_neg c]
    by_cases e : a < b
    · rw [if_pos e]
    · rw [if_neg e, show a = b by omega]
theorem hgI {h g f : Int} (h0 : 0 ≤ h) (h1 : h < 6) (g0 : 0 ≤ g) (g1 : g < 5) (f0 : 0 ≤ f) (f1 : f < 100) : w32 (w32 (f + w32 (5 * h)) + g) = f + (5 * h + g) := by
  rw [w32_of (x := 5 * h) (by omega) (by omega), w32_of (x := f + 5 * h) (by omega) (by omega), w32_of (by omega) (by omega)]; omega
theorem RD.spare {k h g : Int} (d : RD N k D) (bd : DBd D) (h0 : 0 ≤ h) (h1 : h < 6) (g0 : 0 ≤ g) (g1 : g < 5) : fX11_spare N 85 h g = some (spS D h g) := by
  have b := bd.2.2.1 (5 * h + g) (by omega) (by omega)
  unfold fX11_spare
  rw [if_pos (wk85 d.1), hgI h0 h1 g0 g1 (by decide) (by decide), hgI h0 h1 g0 g1 (by decide) (by decide), d.of (by omega) (by omega), d.of (by omega) (by omega)]
  rw [bd1, bd1, greaterV, w32_of (by omega) (by omega)]; rfl
theorem RD.lack {k h g : Int} (d : RD N k D) (bd : DBd D) (h0 : 0 ≤ h) (h1 : h < 6) (g0 : 0 ≤ g) (g1 : g < 5) : fX11_lacks N 85 h g = some (lkS D h g) := by
  have b := bd.2.2.1 (5 * h + g) (by omega) (by omega)
  unfold fX11_lacks
  rw [if_pos (wk85 d.1), hgI h0 h1 g0 g1 (by decide) (by decide), hgI h0 h1 g0 g1 (by decide) (by decide), d.of (by omega) (by omega), d.of (by omega) (by omega)]
  rw [bd1, bd1, greaterV, w32_of (by omega) (by omega)]; rfl
def hsS (h g w : Int) (D : Int → Int) : Int := if (0 ≤ h ∧ h < D 0) ∧ (0 ≤ g ∧ g < 5) then (if w = 0 then D (2 + (5 * h + g)) else if w = 1 then D (32 + (5 * h + g)) else if w = 2 then spS D h g else if w = 3 then lkS D h g else -1) else -1
set_option maxHeartbeats 1000000 in
theorem house_E (h : INV2 M) (k x g w : Int) : TT (fX10_house M 0 k x g w) (fun r => TT (fX11_house M 85 k x g w) (fun u => r = u.1 ∧ Keep M u.2)) := by
  have hT := h.1.1
  refine TT.both (tv M k (-1) (hsS x g w)) (houseX_T hT k x g w) (houseY_T hT k x g w) ?_ ?_
  · unfold fX10_house
    rw [wp0_0 hT]
    refine PC.guard (fun _ => PC.guard (fun _ => PC.townX h k _ _ (PC.pos rfl (PC.ok rfl)) (fun a D ne d bd => PC.neg ne (PC.guard fun _ => ?_))))
    have d' := d
    obtain ⟨_, ha, _, e2, _⟩ := d'
    obtain ⟨b0, b1, _⟩ := bd
    rw [d.isHouse, isGoodX, tp2_ hT ha, tp3_ hT ha]
    unfold hsS
    by_cases c : 0 ≤ x ∧ x < D 0
    rotate_left
    · rw [if_neg c, if_neg (show ¬((0 ≤ x ∧ x < D 0) ∧ 0 ≤ g ∧ g < 5) from fun z => c z.1)]
      exact PC.bindE rfl (PC.pos rfl (PC.ok rfl))
    rw [if_pos c]
    refine PC.bindE rfl (PC.neg n10 ?_)
    by_cases c' : 0 ≤ g ∧ g < 5
    rotate_left
    · rw [if_neg c', if_neg (show ¬((0 ≤ x ∧ x < D 0) ∧ 0 ≤ g ∧ g < 5) from fun z => c' z.2)]
      exact PC.bindE rfl (PC.pos rfl (PC.ok rfl))
    rw [if_pos c', if_pos (show (0 ≤ x ∧ x < D 0) ∧ 0 ≤ g ∧ g < 5 from ⟨c, c'⟩)]
    refine PC.bindE rfl (PC.neg n10 ?_)
    rw [cellV c.1 (by omega) c'.1 c'.2, d.spare c.1 (by omega) c'.1 c'.2, d.lack c.1 (by omega) c'.1 c'.2]
    have e := e2 (5 * x + g) (by omega) (by omega)
    refine PC.ite (fun z => PC.bindE rfl (PC.guard (fun _ => PC.ok (by rw [if_pos z]; exact e.1)))) (fun z0 => PC.ite (fun z => PC.bindE rfl (PC.guard (fun _ => PC.ok (by rw [if_neg z0, if_pos z]; exact e.2)))) (fun z1 => PC.ite (fun z => PC.bindE rfl (PC.ok (by rw [if_neg z0, if_neg z1, if_pos z]))) (fun z2 => PC.ite (fun z => PC.bindE rfl (PC.ok (by rw [if_neg z0, if_neg z1, if_neg z2, if_pos z]))) (fun z3 => PC.ok (by rw [if_neg z0, if_neg z1, if_neg z2, if_neg z3])))))
  · unfold fX11_house
    refine PC.guard (fun _ => PC.sM (PC.townY h k _ _ (PC.pos rfl (PC.ok rfl)) (fun N D d bd _ => PC.neg n10 (PC.guard fun _ => ?_))))
    rw [d.isHouse bd, isGoodY, in_v2]
    have b0 := bd.1
    unfold hsS
    by_cases c : 0 ≤ x ∧ x < D 0
    rotate_left
    · rw [if_neg c, if_neg (show ¬((0 ≤ x ∧ x < D 0) ∧ 0 ≤ g ∧ g < 5) from fun z => c z.1)]
      exact PC.bindE rfl (PC.pos rfl (PC.ok rfl))
    rw [if_pos c]
    refine PC.bindE rfl (PC.neg n10 ?_)
    by_cases c' : 0 ≤ g ∧ g < 5
    rotate_left
    · rw [if_neg c', if_neg (show ¬((0 ≤ x ∧ x < D 0) ∧ 0 ≤ g ∧ g < 5) from fun z => c' z.2)]
      exact PC.bindE rfl (PC.pos rfl (PC.ok rfl))
    rw [if_pos c', if_pos (show (0 ≤ x ∧ x < D 0) ∧ 0 ≤ g ∧ g < 5 from ⟨c, c'⟩)]
    refine PC.bindE rfl (PC.neg n10 ?_)
    by_cases c3 : 0 ≤ w ∧ w ≤ 3
    rotate_left
    · rw [if_neg c3]
      exact PC.bindE rfl (PC.pos rfl (PC.ok (by rw [if_neg (by omega), if_neg (by omega), if_neg (by omega), if_neg (by omega)])))
    rw [if_pos c3]
    refine PC.bindE rfl (PC.neg n10 ?_)
    rw [d.spare bd c.1 (by omega) c'.1 c'.2, d.lack bd c.1 (by omega) c'.1 c'.2]
    refine PC.ite (fun z => PC.bindE rfl (PC.ok (by rw [if_neg (by omega), if_neg (by omega), if_pos z]))) (fun z2 => PC.ite (fun z => PC.bindE rfl (PC.ok (by rw [if_neg (by omega), if_neg (by omega), if_neg z2, if_pos z]))) (fun z3 => PC.jI (PC.ite (fun z => ?_) (fun z => ?_))))
    · dsimp only
      rw [hgI (f := 2) c.1 (by omega) c'.1 c'.2 (by decide) (by decide)]
      exact PC.bindE (d.of (by omega) (by omega)) (PC.ok (by rw [if_pos z]))
    · dsimp only
      rw [hgI (f := 32) c.1 (by omega) c'.1 c'.2 (by decide) (by decide)]
      exact PC.bindE (d.of (by omega) (by omega)) (PC.ok (by rw [if_neg z, if_pos (show w = 1 by omega)]))
/-- law, nights, sight of the reference -/
theorem hasLaw_V (hT : WT M) (k : Int) : fX11_hasLaw M 85 k = some (if 0 ≤ k ∧ k < M.1 90 1 then 1 else 0, mst M 85 27 k) := by
  have hT2 : WT (mst M 85 27 k) := hT.keep (Keep.self.st rfl)
  unfold fX11_hasLaw
  rw [if_pos (wk85 hT)]
  show Option.bind (fX11_is (mst M 85 27 k) 85 1 k) _ = _
  rw [is_V hT2 k (by decide) (by decide), mst_ne _ _ _ _ _ _ (by decide)]
  by_cases c : 0 ≤ k ∧ k < M.1 90 1
  · rw [if_pos c]; rfl
  · rw [if_neg c]; rfl
theorem hasNights_V (hT : WT M) (k : Int) : fX11_hasNights M 85 k = some (if 0 ≤ k ∧ k < M.1 90 2 then 1 else 0, mst M 85 28 k) := by
  have hT2 : WT (mst M 85 28 k) := hT.keep (Keep.self.st rfl)
  unfold fX11_hasNights
  rw [if_pos (wk85 hT)]
  show Option.bind (fX11_is (mst M 85 28 k) 85 2 k) _ = _
  rw [is_V hT2 k (by decide) (by decide), mst_ne _ _ _ _ _ _ (by decide)]
  by_cases c : 0 ≤ k ∧ k < M.1 90 2
  · rw [if_pos c]; rfl
  · rw [if_neg c]; rfl
theorem hasSight_V (hT : WT M) (k : Int) : fX11_hasSight M 85 k = some (if 0 ≤ k ∧ k < M.1 90 3 then 1 else 0, mst M 85 48 k) := by
  have hT2 : WT (mst M 85 48 k) := hT.keep (Keep.self.st rfl)
  unfold fX11_hasSight
  rw [if_pos (wk85 hT)]
  show Option.bind (fX11_is (mst M 85 48 k) 85 3 k) _ = _
  rw [is_V hT2 k (by decide) (by decide), mst_ne _ _ _ _ _ _ (by decide)]
  by_cases c : 0 ≤ k ∧ k < M.1 90 3
  · rw [if_pos c]; rfl
  · rw [if_neg c]; rfl
theorem lawOf_V (hT : WT N) {k i : Int} (hk : k = 0 ∨ k = 1) (e : N.1 85 27 = k) (i0 : 0 ≤ i) (i3 : i < 3) : fX11_lawOf N 85 i = some (N.1 92 (3 * k + i)) := by
  unfold fX11_lawOf
  rw [if_pos (wk85 hT), wp85_7 hT, e, w32_of (x := 3 * k) (by omega) (by omega), w32_of (x := 3 * k + i) (by omega) (by omega), if_pos ⟨wk92 hT, by omega, by rw [wl92 hT]; omega⟩]
theorem isDouble_V (hT : WT N) {k : Int} (hk : k = 0 ∨ k = 1) (e : N.1 85 27 = k) (n : Int) : fX11_isDouble N 85 n = some (if 0 ≤ n ∧ n ≤ 19 then bAnd (bShr (N.1 92 (3 * k + 2)) n) 1 else 0) := by
  unfold fX11_isDouble
  rw [in_v2]
  by_cases c : 0 ≤ n ∧ n ≤ 19
  · rw [if_pos c, if_pos c]
    rw [bd1, if_neg (by decide), if_pos (wk85 hT), lawOf_V hT hk e (by decide) (by decide)]
    rw [bd1]
    unfold fX11_has
    rcases and1 (bShr (N.1 92 (3 * k + 2)) n) with z | z
    · rw [z]; rfl
    · rw [z]; rfl
  · rw [if_neg c, if_neg c]; rfl
def lwS (w : Int) (L : Int → Int) : Int := if w = 0 then L 0 else if w = 1 then L 1 else if 10 ≤ w ∧ w ≤ 29 then bAnd (bShr (L 2) (w - 10)) 1 else -1
theorem counts_V (hT : WT M) {a : Int} (ha : LWA a) (n : Int) : fX0_counts M a n = some (if 0 ≤ n ∧ n < 20 then 1 + bAnd (bShr (M.1 a 2) n) 1 else 1) := by
  unfold fX0_counts
  by_cases c : n < 0
  · rw [if_pos c, if_neg (by omega)]
  · rw [if_neg c]
    by_cases d : n < 20
    · have := and1 (bShr (M.1 a 2) n)
      rw [if_pos d, if_pos (lk hT ha), if_pos (show 0 ≤ n ∧ n < 20 by omega), w32_of (by omega) (by omega)]
    · rw [if_neg d, if_neg (by omega)]
theorem law_E (h : INV2 M) (k w : Int) : TT (fX10_law M 0 k w) (fun r => TT (fX11_law M 85 k w) (fun u => r = u.1 ∧ Keep M u.2)) := by
  have hT := h.1.1
  have hc := cn_ hT (i := 1) (by decide) (by decide)
  refine TT.both (if 0 ≤ k ∧ k < M.1 3 1 then lwS w (fun y => M.1 92 (3 * k + y)) else -1) (lawX_T hT k w) (lawY_T hT k w) ?_ ?_
  · unfold fX10_law
    rw [wp0_0 hT]
    refine PC.guard (fun _ => PC.guard (fun _ => ?_))
    rw [lawAt_V hT k]
    by_cases c : 0 ≤ k ∧ k < M.1 3 1
    rotate_left
    · rw [if_neg c, if_neg c]
      exact PC.bindE rfl (PC.pos rfl (PC.ok rfl))
    rw [if_pos c, if_pos c]
    obtain ⟨e0, e1, e2⟩ := lawV_D h c.1 c.2
    have ha : LWA (17 + 19 * k) := (show k = 0 ∨ k = 1 by omega).elim (fun e => Or.inl (by rw [e]; rfl)) (fun e => Or.inr (by rw [e]; rfl))
    refine PC.bindE rfl (PC.neg (by omega) ?_)
    unfold lwS
    refine PC.ite (fun z => PC.guard (fun _ => PC.ok (by rw [if_pos z]; show _ = M.1 92 (3 * k + 0); rw [Int.add_zero]; exact e0))) (fun z0 => PC.ite (fun z => PC.guard (fun _ => PC.ok (by rw [if_neg z0, if_pos z]; exact e1))) (fun z1 => PC.ite (fun z => PC.ok (by rw [if_neg z0, if_neg z1, if_neg (by omega)])) (fun z2 => PC.ite (fun z3 => PC.guard (fun _ => ?_)) (fun z3 => PC.ok (by rw [if_neg z0, if_neg z1, if_neg (by omega)])))))
    rw [w32_of (x := w - 10) (by omega) (by omega)]
    refine PC.bindE (counts_V hT ha _) (PC.ok ?_)
    have := and1 (bShr (M.1 (17 + 19 * k) 2) (w - 10))
    rw [if_pos (show 0 ≤ w - 10 ∧ w - 10 < 20 by omega), if_neg z0, if_neg z1, if_pos (show 10 ≤ w ∧ w ≤ 29 by omega), w32_of (by omega) (by omega), e2]
    show 1 + bAnd (bShr (M.1 92 (3 * k + 2)) (w - 10)) 1 - 1 = bAnd (bShr (M.1 92 (3 * k + 2)) (w - 10)) 1
    omega
  · unfold fX11_law
    refine PC.guard (fun _ => PC.sM ?_)
    have hT2 : WT (mst M 85 0 0) := hT.keep m85
    have e90 : (mst M 85 0 0).1 90 1 = M.1 3 1 := by rw [mst_ne _ _ _ _ _ _ (by decide)]; exact cnt90 h (by decide) (by decide)
    refine PC.bindE (hasLaw_V hT2 k) ?_
    rw [e90]
    by_cases c : 0 ≤ k ∧ k < M.1 3 1
    rotate_left
    · rw [if_neg c, if_neg c]
      exact PC.pos rfl (PC.ok rfl)
    rw [if_pos c, if_pos c]
    refine PC.neg n10 ?_
    have hT3 : WT (mst (mst M 85 0 0) 85 27 k) := hT2.keep (Keep.self.st rfl)
    have f3 : ∀ y, (mst (mst M 85 0 0) 85 27 k).1 92 y = M.1 92 y := fun y => by rw [mst_ne _ _ _ _ _ _ (by decide), mst_ne _ _ _ _ _ _ (by decide)]
    have hk : k = 0 ∨ k = 1 := by omega
    have e27 : (mst (mst M 85 0 0) 85 27 k).1 85 27 = k := mst_at _ _ _ _
    show PC ((fX11_in (mst (mst M 85 0 0) 85 27 k) w 0 1).bind _) _
    generalize mst (mst M 85 0 0) 85 27 k = A at *
    rw [in_v2]
    unfold lwS
    by_cases c1 : 0 ≤ w ∧ w ≤ 1
    · rw [if_pos c1]
      refine PC.bindE rfl (PC.neg n10 (PC.guard (fun _ => PC.bindE (lawOf_V hT3 hk e27 c1.1 (by omega)) (PC.ok ?_))))
      rw [f3]
      rcases (show w = 0 ∨ w = 1 by omega) with e | e <;> subst e
      · rfl
      · rfl
    · rw [if_neg c1, if_neg (show ¬ w = 0 by omega), if_neg (show ¬ w = 1 by omega)]
      refine PC.bindE rfl (PC.pos rfl ?_)
      show PC ((fX11_in A w 10 29).bind _) _
      rw [in_v2]
      by_cases c2 : 10 ≤ w ∧ w ≤ 29
      · rw [if_pos c2, if_pos c2]
        refine PC.bindE rfl (PC.neg n10 (PC.guard (fun _ => PC.bindE (isDouble_V hT3 hk e27 _) ?_)))
        rw [w32_of (x := w - 10) (by omega) (by omega), if_pos (show 0 ≤ w - 10 ∧ w - 10 ≤ 19 by omega), f3]
        rcases and1 (bShr (M.1 92 (3 * k + 2)) (w - 10)) with z | z
        · rw [z]; exact PC.pos rfl (PC.ok rfl)
        · rw [z]; exact PC.neg n10 (PC.ok rfl)
      · rw [if_neg c2, if_neg c2]
        exact PC.bindE rfl (PC.pos rfl (PC.ok rfl))
end Calls2
