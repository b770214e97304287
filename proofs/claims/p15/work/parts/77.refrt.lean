/-! the reference: a text read as the spec has it -/
section RefRt
variable {M N : Mem} {T : Int → Int} {n i : Int} {s : Int}
def bt3 (a b c y : Int) : Int := if y = 0 then 3 else if 68 ≤ y ∧ y < 68 + a then y - 68 else if (74 ≤ y ∧ y < 74 + b) ∨ (79 ≤ y ∧ y < 79 + b) then 1 else if 88 ≤ y ∧ y < 88 + c then -1 else 0
theorem blankTown_W (hT : WT M) (hz : ∀ y, 0 ≤ y → y < 161 → M.1 95 y = 0) : TT (fX11_blankTown M 85) (fun r => ∀ y, 0 ≤ y → y < 161 → r.1 95 y = bt3 6 5 4 y) := by
  unfold fX11_blankTown
  rw [wp85_19 hT]
  refine TT.guard (wk85 hT) (TT.guard ⟨wk95 hT, by decide, by rw [wl95 hT]; decide⟩ (TT.sM ?_))
  have hB : DB M (mst M 95 0 3) := DB.st ⟨rfl, fun _ _ _ => rfl⟩ _ _
  have hD : ∀ y, 0 ≤ y → y < 161 → (mst M 95 0 3).1 95 y = bt3 0 0 0 y := fun y a b => by
    rw [mst_r]
    unfold bt3
    by_cases q : y = 0
    · rw [if_pos ⟨rfl, q⟩, if_pos q]
    · rw [if_neg (fun z => q z.2), if_neg q, if_neg (by omega), if_neg (by omega), if_neg (by omega)]; exact hz y a b
  generalize mst M 95 0 3 = N at *
  refine TT.iter (fun u : Int × Mem => (0 ≤ u.1 ∧ u.1 ≤ 6) ∧ DB M u.2 ∧ ∀ y, 0 ≤ y → y < 161 → u.2.1 95 y = bt3 u.1 0 0 y) (fun u => (6 - u.1).toNat) ?_ BIG (0, N) ⟨⟨by dsimp only; omega, by dsimp only; omega⟩, hB, hD⟩ (by unfold BIG; dsimp only; omega)
  rintro rec ⟨i, s⟩ ⟨⟨i0, i1⟩, hBs, hDs⟩ hr
  simp only at i0 i1 hBs hDs ⊢
  have hTs := hT.keep hBs.keep
  rw [wp85_19 hTs]
  refine TT.ite (fun c => ?_) (fun c => ?_)
  · rw [w32_of (x := 68 + i) (by omega) (by omega)]
    refine TT.guard (wk85 hTs) (TT.guard ⟨wk95 hTs, by omega, by rw [wl95 hTs]; omega⟩ (TT.sM (hr _ ⟨⟨by dsimp only [w32]; omega, by dsimp only [w32]; omega⟩, hBs.st _ _, fun y y0 y1 => ?_⟩ (by dsimp only [w32]; omega))))
    show (mst s 95 (68 + i) i).1 95 y = bt3 (w32 (i + 1)) 0 0 y
    rw [mst_r, w32_of (x := i + 1) (by omega) (by omega)]
    by_cases q : y = 68 + i
    · rw [if_pos ⟨rfl, q⟩]
      unfold bt3
      rw [if_neg (by omega), if_pos (by omega)]; omega
    · rw [if_neg (fun z => q z.2), hDs y y0 y1]
      unfold bt3
      by_cases z : y = 0
      · rw [if_pos z, if_pos z]
      · rw [if_neg z, if_neg z]
        by_cases x : 68 ≤ y ∧ y < 68 + i
        · rw [if_pos x, if_pos (by omega)]
        · rw [if_neg x, if_neg (show ¬(68 ≤ y ∧ y < 68 + (i + 1)) by omega)]
  have e6 : i = 6 := by omega
  subst e6
  refine TT.iter (fun u : Int × Mem => (0 ≤ u.1 ∧ u.1 ≤ 5) ∧ DB M u.2 ∧ ∀ y, 0 ≤ y → y < 161 → u.2.1 95 y = bt3 6 u.1 0 y) (fun u => (5 - u.1).toNat) ?_ BIG (0, s) ⟨⟨by dsimp only; omega, by dsimp only; omega⟩, hBs, hDs⟩ (by unfold BIG; dsimp only; omega)
  rintro rec2 ⟨j, u⟩ ⟨⟨j0, j1⟩, hBu, hDu⟩ hr2
  simp only at j0 j1 hBu hDu ⊢
  have hTu := hT.keep hBu.keep
  rw [wp85_19 hTu]
  refine TT.ite (fun c => ?_) (fun c => ?_)
  · rw [w32_of (x := 74 + j) (by omega) (by omega), w32_of (x := 79 + j) (by omega) (by omega)]
    refine TT.guard (wk85 hTu) (TT.guard ⟨wk95 hTu, by omega, by rw [wl95 hTu]; omega⟩ (TT.sM ?_))
    have hB3 := hBu.st (74 + j) 1
    have hT3 := hT.keep hB3.keep
    rw [wp85_19 hT3]
    refine TT.guard ⟨wk95 hT3, by omega, by rw [wl95 hT3]; omega⟩ (TT.sM (hr2 _ ⟨⟨by dsimp only [w32]; omega, by dsimp only [w32]; omega⟩, hB3.st _ _, fun y y0 y1 => ?_⟩ (by dsimp only [w32]; omega)))
    show (mst (mst u 95 (74 + j) 1) 95 (79 + j) 1).1 95 y = bt3 6 (w32 (j + 1)) 0 y
    rw [mst_r, mst_r, w32_of (x := j + 1) (by omega) (by omega)]
    by_cases q : y = 79 + j
    · rw [if_pos ⟨rfl, q⟩]
      unfold bt3
      rw [if_neg (by omega), if_neg (by omega), if_pos (by omega)]
    · rw [if_neg (fun z => q z.2)]
      by_cases q2 : y = 74 + j
      · rw [if_pos ⟨rfl, q2⟩]
        unfold bt3
        rw [if_neg (by omega), if_neg (by omega), if_pos (by omega)]
      · rw [if_neg (fun z => q2 z.2), hDu y y0 y1]
        unfold bt3
        by_cases z : y = 0
        · rw [if_pos z, if_pos z]
        · rw [if_neg z, if_neg z]
          by_cases x : 68 ≤ y ∧ y < 68 + 6
          · rw [if_pos x, if_pos x]
          · rw [if_neg x, if_neg x]
            by_cases v : (74 ≤ y ∧ y < 74 + j) ∨ (79 ≤ y ∧ y < 79 + j)
            · rw [if_pos v, if_pos (by omega)]
            · rw [if_neg v, if_neg (show ¬((74 ≤ y ∧ y < 74 + (j + 1)) ∨ (79 ≤ y ∧ y < 79 + (j + 1))) by omega)]
  have e5 : j = 5 := by omega
  subst e5
  refine TT.iter (fun u : Int × Mem => (0 ≤ u.1 ∧ u.1 ≤ 4) ∧ DB M u.2 ∧ ∀ y, 0 ≤ y → y < 161 → u.2.1 95 y = bt3 6 5 u.1 y) (fun u => (4 - u.1).toNat) ?_ BIG (0, u) ⟨⟨by dsimp only; omega, by dsimp only; omega⟩, hBu, hDu⟩ (by unfold BIG; dsimp only; omega)
  rintro rec3 ⟨k, v⟩ ⟨⟨k0, k1⟩, hBv, hDv⟩ hr3
  simp only at k0 k1 hBv hDv ⊢
  have hTv := hT.keep hBv.keep
  rw [wp85_19 hTv]
  refine TT.ite (fun c => ?_) (fun c => TT.ok (fun y y0 y1 => by rw [hDv y y0 y1, show k = 4 by omega]))
  rw [w32_of (x := 88 + k) (by omega) (by omega)]
  refine TT.guard (wk85 hTv) (TT.guard ⟨wk95 hTv, by omega, by rw [wl95 hTv]; omega⟩ (TT.sM (hr3 _ ⟨⟨by dsimp only [w32]; omega, by dsimp only [w32]; omega⟩, hBv.st _ _, fun y y0 y1 => ?_⟩ (by dsimp only [w32]; omega))))
  show (mst v 95 (88 + k) (-1)).1 95 y = bt3 6 5 (w32 (k + 1)) y
  rw [mst_r, w32_of (x := k + 1) (by omega) (by omega)]
  by_cases q : y = 88 + k
  · rw [if_pos ⟨rfl, q⟩]
    unfold bt3
    rw [if_neg (by omega), if_neg (by omega), if_neg (by omega), if_pos (by omega)]
  · rw [if_neg (fun z => q z.2), hDv y y0 y1]
    unfold bt3
    by_cases z : y = 0
    · rw [if_pos z, if_pos z]
    · rw [if_neg z, if_neg z]
      by_cases x : 68 ≤ y ∧ y < 68 + 6
      · rw [if_pos x, if_pos x]
      · rw [if_neg x, if_neg x]
        by_cases t : (74 ≤ y ∧ y < 74 + 5) ∨ (79 ≤ y ∧ y < 79 + 5)
        · rw [if_pos t, if_pos t]
        · rw [if_neg t, if_neg t]
          by_cases t2 : 88 ≤ y ∧ y < 88 + k
          · rw [if_pos t2, if_pos (by omega)]
          · rw [if_neg t2, if_neg (show ¬(88 ≤ y ∧ y < 88 + (k + 1)) by omega)]
theorem blank_W (hT : WT M) (h0 : 0 ≤ s) (h3 : s ≤ 3) : TT (fX11_blank M 85 s) (fun r => ∀ y, 0 ≤ y → y < 161 → r.1 95 y = blD s y) := by
  unfold fX11_blank
  refine TT.iter (fun u : Int × Mem => (0 ≤ u.1 ∧ u.1 ≤ 161) ∧ DB M u.2 ∧ ∀ y, 0 ≤ y → y < u.1 → u.2.1 95 y = if s = 3 ∧ 17 ≤ y then -1 else 0) (fun u => (161 - u.1).toNat) ?_ BIG (0, M) ⟨⟨by dsimp only; omega, by dsimp only; omega⟩, ⟨rfl, fun _ _ _ => rfl⟩, fun y a b => by dsimp only at b; omega⟩ (by unfold BIG; dsimp only; omega)
  rintro rec ⟨i, u⟩ ⟨⟨i0, i1⟩, hB, hc⟩ hr
  simp only at i0 i1 hB hc ⊢
  have hTu := hT.keep hB.keep
  rw [wp85_19 hTu]
  refine TT.ite (fun c => TT.guard (wk85 hTu) ?_) (fun c => ?_)
  · refine TT.join (fun t : Int => t = if s = 3 ∧ 17 ≤ i then -1 else 0) (fun t ht => ?_) (fun j hj => TT.join (fun _ => ¬(s = 3 ∧ 17 ≤ i)) (fun _ h => hj _ (by rw [if_neg h])) (fun k hk => TT.ite (fun e => TT.ite (fun h => hk () (by omega)) (fun h => hj _ (by rw [if_pos (by omega)]))) (fun e => hk () (by omega))))
    refine TT.guard ⟨wk95 hTu, i0, by rw [wl95 hTu]; exact c⟩ (TT.sM (hr _ ⟨⟨by dsimp only [w32]; omega, by dsimp only [w32]; omega⟩, hB.st _ _, fun y a b => ?_⟩ (by dsimp only [w32]; omega)))
    have b' : y < w32 (i + 1) := b
    rw [w32_of (by omega) (by omega)] at b'
    show (mst u 95 i t).1 95 y = _
    rw [mst_r]
    by_cases q : y = i
    · rw [if_pos ⟨rfl, q⟩, q, ht]
    · rw [if_neg (fun z => q z.2)]; exact hc y a (by omega)
  · have hi : i = 161 := by omega
    subst hi
    refine TT.join (fun t : Mem => DB M t ∧ (s = 0 → ∀ y, 0 ≤ y → y < 161 → t.1 95 y = bt3 6 5 4 y) ∧ (s ≠ 0 → t = u)) (fun t ht => ?_) (fun j hj => TT.ite (fun e => TT.guard (wk85 hTu) (TT.bind (TT.and (blankTown_T hTu (fun y a b => by rw [hc y a b, if_neg (by omega)]) (fun _ _ _ => dz)) (blankTown_W hTu (fun y a b => by rw [hc y a b, if_neg (by omega)]))) (fun r q => hj r ⟨⟨q.1.1.1.trans hB.1, fun x y c => (q.1.1.2 x y c).trans (hB.2 x y c)⟩, fun _ => q.2, fun h => absurd e h⟩))) (fun e => hj u ⟨hB, fun h => absurd h e, fun _ => rfl⟩))
    obtain ⟨t1, t2, t3⟩ := ht
    have hTt := hT.keep t1.keep
    rw [wp85_19 hTt]
    refine TT.ite (fun e => ?_) (fun e => TT.ok (fun y y0 y1 => ?_))
    · refine TT.guard (wk85 hTt) (TT.guard ⟨wk95 hTt, by decide, by rw [wl95 hTt]; decide⟩ (TT.sM ?_))
      have hB2 := t1.st 0 2
      have hT2 := hT.keep hB2.keep
      rw [wp85_19 hT2]
      refine TT.guard ⟨wk95 hT2, by decide, by rw [wl95 hT2]; decide⟩ (TT.sM (TT.ok (fun y y0 y1 => ?_)))
      rw [t3 (by omega), mst_r, mst_r]
      have eb : blD s y = if y = 0 then 2 else if y = 1 then 20 else 0 := by
        unfold blD
        rw [if_neg (by omega), if_pos e]
      rw [eb]
      by_cases q : y = 1
      · rw [if_pos ⟨rfl, q⟩, if_neg (by omega), if_pos q]
      · rw [if_neg (fun z => q z.2)]
        by_cases q2 : y = 0
        · rw [if_pos ⟨rfl, q2⟩, if_pos q2]
        · rw [if_neg (fun z => q2 z.2), if_neg q2, if_neg q, hc y y0 y1, if_neg (by omega)]
    · by_cases e0 : s = 0
      · rw [t2 e0 y y0 y1, e0]
        show bt3 6 5 4 y = (if y = 0 then 3 else if 68 ≤ y ∧ y ≤ 73 then y - 68 else if 74 ≤ y ∧ y ≤ 83 then 1 else if 88 ≤ y ∧ y ≤ 91 then -1 else 0)
        unfold bt3
        by_cases z : y = 0
        · rw [if_pos z, if_pos z]
        · rw [if_neg z, if_neg z]
          by_cases x : 68 ≤ y ∧ y ≤ 73
          · rw [if_pos (by omega), if_pos x]
          · rw [if_neg (by omega), if_neg x]
            by_cases x2 : 74 ≤ y ∧ y ≤ 83
            · rw [if_pos (by omega), if_pos x2]
            · rw [if_neg (by omega), if_neg x2]
              by_cases x3 : 88 ≤ y ∧ y ≤ 91
              · rw [if_pos (by omega), if_pos x3]
              · rw [if_neg (by omega), if_neg x3]
      · rw [t3 e0, hc y y0 y1]
        unfold blD
        rw [if_neg e0, if_neg e]
        by_cases e2 : s = 2
        · rw [if_pos e2, if_neg (by omega)]
        · rw [if_neg e2]
          by_cases z : 17 ≤ y
          · rw [if_pos (by omega), if_pos z]
          · rw [if_neg (by omega), if_neg z]
/-- the fault so far: none, or 2, or 3 -/
def FPk (fp : Int × Int) : Prop := (fp.1 = 0 ∧ fp.2 = -1) ∨ fp.1 = 2 ∨ fp.1 = 3
theorem FPk.add {q p : Int} {fp : Int × Int} (h : FPk fp) (hq : q = 2 ∨ q = 3) : FPk (nt q p fp) := by
  unfold nt
  split
  · exact Or.inr hq
  · exact h
theorem FPk.all {l : Int} {fp : Int × Int} (h : FPk fp) : ∀ k : Nat, FPk (fpN T n l i fp k)
  | 0 => h
  | k + 1 => by
    unfold fpN
    split
    · exact (FPk.all h k).add (Or.inl rfl)
    · exact FPk.all h k
theorem FPk.seg : ∀ k : Nat, FPk (sg T n s k).2.1
  | 0 => Or.inl ⟨rfl, rfl⟩
  | k + 1 => by
    show FPk (fpL T n s (sg T n s k))
    unfold fpL
    refine FPk.all ?_ _
    unfold fp0
    split
    · exact (FPk.seg k).add (Or.inr rfl)
    · exact FPk.seg k
set_option maxHeartbeats 1000000 in
theorem readText_W (hT : WT M) (hb : BY M) (hl : 0 ≤ M.1 85 11 ∧ M.1 85 11 ≤ 600) (h0 : 0 ≤ s) (h3 : s < 4) : TT (fX11_readText M 85 s) (fun r => ∃ D, EndsX (M.1 86) (M.1 85 11) s (r.2.1 88 0, r.2.1 89 0) D ∧ (r.1 = if r.2.1 88 0 = 0 then 1 else 0) ∧ (r.2.1 88 0 = 0 → ∀ y, 0 ≤ y → y < 161 → r.2.1 95 y = D y)) := by
  unfold fX11_readText
  refine TT.guard (wk85 hT) (TT.bind (TT.and (blank_T hT h0 (by omega)) (blank_W hT h0 (by omega))) (fun r1 q1 => ?_))
  obtain ⟨q1, qB⟩ := q1
  have hK1 := q1.1.keep
  have hT1 := hT.keep hK1
  refine TT.guard (wk85 hT1) (TT.sM (TT.sM (TT.sM (TT.sM ?_))))
  have hV : VK r1 (mst (mst (mst (mst r1 85 21 (-1)) 85 22 (-1)) 85 10 0) 85 17 0) := ⟨rfl, fun x y _ c => by
    rw [mst_r, if_neg (by rintro ⟨e1, e2⟩; omega), mst_r, if_neg (by rintro ⟨e1, e2⟩; omega), mst_r, if_neg (by rintro ⟨e1, e2⟩; omega), mst_r, if_neg (by rintro ⟨e1, e2⟩; omega)]⟩
  have hd : DOf s (mst (mst (mst (mst r1 85 21 (-1)) 85 22 (-1)) 85 10 0) 85 17 0) := q1.2 _ (fun y => vk95 hV y)
  have e11 : r1.1 85 11 = M.1 85 11 := q1.1.2 85 11 (by decide)
  have g21 : (mst (mst (mst (mst r1 85 21 (-1)) 85 22 (-1)) 85 10 0) 85 17 0).1 85 21 = -1 := rfl
  have g22 : (mst (mst (mst (mst r1 85 21 (-1)) 85 22 (-1)) 85 10 0) 85 17 0).1 85 22 = -1 := rfl
  have g10 : (mst (mst (mst (mst r1 85 21 (-1)) 85 22 (-1)) 85 10 0) 85 17 0).1 85 10 = 0 := rfl
  have g17 : (mst (mst (mst (mst r1 85 21 (-1)) 85 22 (-1)) 85 10 0) 85 17 0).1 85 17 = 0 := rfl
  have g11 : (mst (mst (mst (mst r1 85 21 (-1)) 85 22 (-1)) 85 10 0) 85 17 0).1 85 11 = M.1 85 11 := e11
  generalize mst (mst (mst (mst r1 85 21 (-1)) 85 22 (-1)) 85 10 0) 85 17 0 = N at *
  have hp : PS N := ⟨by rw [g10]; decide, by rw [g10, g11]; exact hl.1, by rw [g11]; exact hl.2⟩
  have hTN := hT1.keep hV.keep
  have n86 : N.1 86 = M.1 86 := funext fun y => (hV.2 86 y (by decide) (Or.inl (by decide))).trans (q1.1.2 86 y (by decide))
  have nby : BY N := fun j a b => by rw [n86]; rw [g11] at b; exact hb j a b
  have tv := token_V hTN hp nby
  rw [n86, g11, g10] at tv
  generalize hTT : M.1 86 = T at *
  generalize hn : M.1 85 11 = n at *
  refine TT.bind (TT.and (token_T hTN hp) tv) (fun r13 q13 => ?_)
  obtain ⟨q13, qK, qY⟩ := q13
  have hT13 := hTN.keep q13.1.keep
  have hd13 := DOf.stab s _ _ q13.1.vk q13.lf hd
  have rep0 : RRep r13 T n (sg T n s 0) := ⟨⟨qK.t.trans n86, (qK.2 85 11 (by decide)).trans g11, qK.by nby, Int.le_refl _, hl.1⟩, qY, Or.inl ⟨rfl, (qK.2 85 17 (by decide)).trans g17⟩, fun _ => ⟨fun y a b => by rw [qK.2 95 y (Or.inl (by decide)), vk95 hV y]; exact qB y a b, (qK.2 85 21 (by decide)).trans g21, (qK.2 85 22 (by decide)).trans g22⟩⟩
  refine TT.guard (wk85 hT13) (TT.bind (TT.and (lines_T hT13 q13.2.1 hd13) (lines_W hT13 q13.2.1 h0 h3 hd13 rep0)) (fun r15 q15 => ?_))
  obtain ⟨⟨b15, l15, d15, p15⟩, m, hm, hE⟩ := q15
  have hK15 : Keep M r15.2 := ((hK1.trans hV.keep).trans q13.1.keep).trans l15.1
  have hT15 := hT.keep hK15
  refine TT.join (fun t : Mem => Keep M t ∧ ((r15.1 = 0 ∧ t = r15.2) ∨ (r15.1 ≠ 0 ∧ tK T n (sg T n s m).1 = 0 ∧ (∀ y, t.1 95 y = r15.2.1 95 y) ∧ FR (f4 s n (sg T n s m)) t (n + 1)))) (fun t ht => ?_) (fun j hj => ?_)
  · obtain ⟨t1, tO⟩ := ht
    have hTt := hT.keep t1
    rw [wp85_3 hTt]
    refine TT.guard (wk85 hTt) (TT.join (fun z : Int => z = if r15.1 = 0 then 1 else t.1 85 17) (fun z hz => ?_) (fun j hj => TT.ite (fun e => hj _ (by rw [if_pos e])) (fun e => hj _ (by rw [if_neg e]))))
    refine TT.guard ⟨wk88 hTt, by decide, by rw [wl88 hTt]; decide⟩ (TT.sM ?_)
    refine TT.join (fun w : Int => w = if r15.1 = 0 then t.1 85 16 else if 0 < t.1 85 17 then t.1 85 18 else -1) (fun w hw => ?_) (fun j hj => TT.ite (fun e => hj _ (by rw [if_pos e]; rfl)) (fun e => TT.ite (fun e2 => hj _ (by rw [if_neg e, if_pos (show 0 < t.1 85 17 from e2)]; rfl)) (fun e2 => hj _ (by rw [if_neg e, if_neg (show ¬0 < t.1 85 17 from e2)]))))
    rw [show (mst t 88 0 z).1 85 4 = 89 from (wp85_4 hTt : t.1 85 4 = 89)]
    refine TT.guard ⟨(wk89 hTt : t.2.1 89 = 12), by decide, by show 0 < t.2.2.1 89; rw [wl89 hTt]; decide⟩ (TT.sM ?_)
    rw [show (mst (mst t 88 0 z) 89 0 w).1 85 3 = 88 from (wp85_3 hTt : t.1 85 3 = 88), show (mst (mst t 88 0 z) 89 0 w).1 88 0 = z from rfl]
    have key : ∃ D, EndsX T n s (z, w) D ∧ (z = 0 → ∀ y, 0 ≤ y → y < 161 → t.1 95 y = D y) := by
      rcases tO with ⟨o1, o2⟩ | ⟨o1, o2, o3, o4⟩
      · rw [if_pos o1] at hz hw
        rcases hE with ⟨_, e2, e3⟩ | ⟨e1, _⟩
        · refine ⟨(sg T n s m).2.2.1, ⟨m, hm, Or.inr ⟨e2, hz, ?_⟩⟩, fun x => by omega⟩
          show BRK T n s (sg T n s m) w
          rw [hw, o2]; exact e3
        · exact absurd o1 e1
      · rw [if_neg o1] at hz hw
        rcases hE with ⟨e1, _⟩ | ⟨_, _, rep⟩
        · exact absurd e1 o1
        · have fk := @FPk.seg T n s m
          refine ⟨(sg T n s m).2.2.1, ⟨m, hm, Or.inl ⟨o2, ?_, rfl⟩⟩, fun x y y0 y1 => ?_⟩
          · have f4k : (f4 s n (sg T n s m)).1 = 0 → (f4 s n (sg T n s m)).2 = -1 := fun x => by
              unfold f4 at x ⊢
              split at x
              · exact absurd (show (4 : Int) = 0 from x) (by decide)
              · rename_i hq
                rw [if_neg hq]
                rcases fk with fk | fk | fk
                · exact fk.2
                · rw [x] at fk; exact absurd fk (by decide)
                · rw [x] at fk; exact absurd fk (by decide)
            have f4p : (f4 s n (sg T n s m)).1 ≠ 0 → 0 < (f4 s n (sg T n s m)).1 := fun x => by
              unfold f4 at x ⊢
              split
              · show (0 : Int) < 4
                decide
              · rename_i hq
                rw [if_neg hq] at x
                rcases fk with fk | fk | fk
                · exact absurd fk.1 x
                · rw [fk]; decide
                · rw [fk]; decide
            rcases o4 with ⟨a1, a2⟩ | ⟨a1, a2, a3, _⟩
            · rw [a2, if_neg (by decide)] at hw
              rw [a2] at hz
              refine Prod.ext ?_ ?_
              · show z = _
                rw [hz, a1]
              · show w = _
                rw [hw, f4k a1]
            · rw [a2, if_pos (f4p a1)] at hw
              rw [a2] at hz
              refine Prod.ext ?_ ?_
              · show z = _
                rw [hz]
              · show w = _
                rw [hw, a3]
          · have z0 : (sg T n s m).2.1.1 = 0 := by
              rcases o4 with ⟨a1, a2⟩ | ⟨a1, a2, a3, _⟩
              · unfold f4 at a1
                split at a1
                · exact absurd (show (4 : Int) = 0 from a1) (by decide)
                · exact a1
              · exfalso
                rw [x] at hz
                exact a1 (a2.symm.trans hz.symm)
            rw [o3]; exact (rep.2.2.2 z0).1 y y0 y1
    obtain ⟨D, kE, kD⟩ := key
    exact TT.guard ⟨(wk88 hTt : t.2.1 88 = 12), by decide, by show 0 < t.2.2.1 88; rw [wl88 hTt]; decide⟩ (TT.ite (fun e => TT.ok ⟨D, kE, by show (1 : Int) = if z = 0 then 1 else 0; rw [if_pos e], kD⟩) (fun e => TT.ok ⟨D, kE, by show (0 : Int) = if z = 0 then 1 else 0; rw [if_neg e], kD⟩))
  · rcases hE with ⟨e1, e2, e3⟩ | ⟨e1, e2, rep⟩
    · exact TT.pos e1 (hj r15.2 ⟨hK15, Or.inl ⟨e1, rfl⟩⟩)
    · obtain ⟨⟨c1, c2, c3, c4, c5⟩, cX, cF, cD⟩ := rep
      have eS : tS T n (sg T n s m).1 = n := by
        have a := @tS_n T n (sg T n s m).1 c5
        unfold tK at e2
        by_cases z : n ≤ tS T n (sg T n s m).1
        · omega
        · exfalso
          rw [if_neg z] at e2
          split at e2
          · omega
          · split at e2
            · split at e2 <;> omega
            · split at e2 <;> omega
      have cF' := cF
      rw [eS] at cF'
      have same : f4 s n (sg T n s m) = (sg T n s m).2.1 → TT (j r15.2) _ := fun z => hj r15.2 ⟨hK15, Or.inr ⟨e1, e2, fun _ => rfl, by rw [z]; exact cF'.up (by omega)⟩⟩
      refine TT.neg e1 (TT.ite (fun ez => TT.guard (wk85 hT15) (TT.ite (fun e17 => ?_) (fun e17 => same ?_))) (fun ez => same (by unfold f4; rw [if_neg (fun x => ez x.2.1)])))
      · have fz : (sg T n s m).2.1.1 = 0 := by
          rcases cF with x | x
          · exact x.1
          · exact absurd (x.2.1.symm.trans e17) x.1
        obtain ⟨d1, d2, d3⟩ := cD fz
        rw [wp85_19 hT15, d1 0 (by decide) (by decide), d1 1 (by decide) (by decide), d2, d3, cX.1, eS]
        refine TT.guard ⟨wk95 hT15, by decide, by rw [wl95 hT15]; decide⟩ (TT.join (fun _ => (sg T n s m).2.2.1 0 ≤ (sg T n s m).2.2.2.1 ∨ (sg T n s m).2.2.1 1 ≤ (sg T n s m).2.2.2.2) (fun _ hq => TT.bind (later_V hT15 (by decide) cF' (Int.le_refl _)) (fun z q => hj z ⟨?_, Or.inr ⟨e1, e2, fun y => q.1.2 95 y (Or.inl (by decide)), ?_⟩⟩)) (fun k hk => TT.ite (fun x1 => TT.guard ⟨wk95 hT15, by decide, by rw [wl95 hT15]; decide⟩ (TT.ite (fun x2 => same ?_) (fun x2 => hk () (Or.inr (by omega))))) (fun x1 => hk () (Or.inl (by omega)))))
        · exact hK15.trans (VK.keep (M := r15.2) ⟨q.1.1, fun x y _ b => q.1.2 x y (by omega)⟩)
        · have e4 : f4 s n (sg T n s m) = nt 4 n (sg T n s m).2.1 := by
            unfold f4 nt
            rw [if_pos ⟨fz, ez, hq⟩, if_pos fz]
          rw [e4]; exact q.2
        · unfold f4
          rw [if_neg (fun x => by have := x.2.2; omega)]
      · unfold f4
        rw [if_neg]
        rintro ⟨x, _⟩
        rcases cF with y | y
        · exact e17 y.2
        · exact y.1 x
end RefRt
