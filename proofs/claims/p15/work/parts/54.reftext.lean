/-! the reference's text -/
section RefX
variable {M : Mem}
def DOf (s : Int) (M : Mem) : Prop := (s = 0 → DT M) ∧ (s = 1 → DL M) ∧ (s = 2 → DN M) ∧ (s ≠ 0 → s ≠ 1 → s ≠ 2 → DS M)
theorem DOf.stab (s : Int) : Stab (DOf s) := fun M N h f d => ⟨fun e => DT.stab M N h f (d.1 e), fun e => DL.stab M N h f (d.2.1 e), fun e => DN.stab M N h f (d.2.2.1 e), fun a b c => DS.stab M N h f (d.2.2.2 a b c)⟩
theorem LQ.to {D D' : Mem → Prop} {M : Mem} {r : Int × Mem} (h : LQ D M r) (g : D r.2 → D' r.2) : LQ D' M r := ⟨h.1, h.2.1, g h.2.2.1, h.2.2.2⟩
theorem lineOf_T (hT : WT M) (hp : PT M) {s : Int} (hd : DOf s M) (w a : Int) : TT (fX11_lineOf M 85 s w a) (LQ (DOf s) M) := by
  unfold fX11_lineOf
  refine TT.ite (fun e => TT.guard (wk85 hT) (TT.bind (townLine_T hT hp (hd.1 e) w a) (fun r q => TT.guard q.1 (TT.ok (q.to (fun d => ⟨fun _ => d, fun h => by omega, fun h => by omega, fun h => absurd e h⟩)))))) (fun e0 => ?_)
  refine TT.ite (fun e => TT.guard (wk85 hT) (TT.bind (lawLine_T hT hp (hd.2.1 e) w) (fun r q => TT.guard q.1 (TT.ok (q.to (fun d => ⟨fun h => by omega, fun _ => d, fun h => by omega, fun _ h => absurd e h⟩)))))) (fun e1 => ?_)
  refine TT.ite (fun e => TT.guard (wk85 hT) (TT.bind (nightsLine_T hT hp (hd.2.2.1 e) w a) (fun r q => TT.guard q.1 (TT.ok (q.to (fun d => ⟨fun h => by omega, fun h => by omega, fun _ => d, fun _ _ h => absurd e h⟩)))))) (fun e2 => ?_)
  exact TT.guard (wk85 hT) (TT.bind (sightLine_T hT hp (hd.2.2.2 e0 e1 e2) w a) (fun r q => TT.guard q.1 (TT.ok (q.to (fun d => ⟨fun h => by omega, fun h => by omega, fun h => by omega, fun _ _ _ => d⟩)))))
set_option maxHeartbeats 1000000 in
theorem lines_T (hT : WT M) (hp : PT M) {s : Int} (hd : DOf s M) : TT (fX11_lines M 85 s) (fun r => B01 r.1 ∧ LK M r.2 ∧ DOf s r.2 ∧ PS r.2) := by
  unfold fX11_lines
  refine TT.iter (fun u : Int × Mem => B01 u.1 ∧ LK M u.2 ∧ DOf s u.2 ∧ PS u.2 ∧ (u.1 ≠ 0 → PT u.2)) (fun u => if u.1 = 0 then 0 else (u.2.1 85 11 - u.2.1 85 12 + 1).toNat + 1) ?_ BIG (1, M) ⟨Or.inr rfl, LK.self M, hd, hp.1, fun _ => hp⟩ (by
    obtain ⟨⟨h1, h2, h3⟩, ⟨h4, h5⟩, _⟩ := hp
    unfold BIG; dsimp only; rw [if_neg (by decide)]; omega)
  rintro rec ⟨b, u⟩ ⟨hb, hL, hdu, hpu, hf⟩ hr
  simp only at hb hL hdu hpu hf ⊢
  have hTu := hT.keep hL.1
  refine TT.ite (fun _ => TT.guard hb (TT.ok ⟨hb, hL, hdu, hpu⟩)) (fun hb0 => TT.guard (wk85 hTu) (TT.ite (fun _ => TT.guard hb (TT.ok ⟨hb, hL, hdu, hpu⟩)) (fun hs => TT.sM ?_)))
  have hpT := hf hb0
  have hpT2 := hpT
  obtain ⟨_, hb12, hbl, _⟩ := hpT
  have hlt := hbl hs
  have hV : VK u (mst u 85 23 1) := ⟨rfl, fun x y _ c => by rw [mst_r, if_neg (by rintro ⟨e1, e2⟩; omega)]⟩
  -- good is set anew: what is read holds as before
  have hd8 : DOf s (mst u 85 23 1) := ⟨hdu.1, hdu.2.1, hdu.2.2.1, hdu.2.2.2⟩
  have hp8 : PT (mst u 85 23 1) := hpT2
  have hT8 := hTu.keep hV.keep
  have hL8 := hL.trans hV.lk
  have a10 : (mst u 85 23 1).1 85 10 = u.1 85 10 := rfl
  have a11 : (mst u 85 23 1).1 85 11 = u.1 85 11 := rfl
  have a12 : (mst u 85 23 1).1 85 12 = u.1 85 12 := rfl
  generalize mst u 85 23 1 = N at *
  refine TT.join (fun _ => True) (fun w _ => ?_) (fun j hj => TT.ite (fun _ => hj _ trivial) (fun _ => hj _ trivial))
  refine TT.bind (lineOf_T hT8 hp8 hd8 w _) (fun r q => ?_)
  obtain ⟨q1, q2, q3, ⟨q4, q5⟩, q6⟩ := q
  have hLr := hL8.trans q2
  have hTr := hT.keep hLr.1
  refine TT.join (fun t : Int × Mem => B01 t.1 ∧ LK M t.2 ∧ DOf s t.2 ∧ PS t.2 ∧ u.1 85 10 ≤ t.2.1 85 10 ∧ (t.1 ≠ 0 → PT t.2)) (fun t ht => ?_) (fun j hj => ?_)
  · obtain ⟨t1, t2, t3, t4, t5, t6⟩ := ht
    have hTt := hT.keep t2.1
    have hl11 := t2.2
    have hu11 := hL.2
    obtain ⟨t7, t8, t9⟩ := t4
    refine TT.ite (fun e => hr _ ⟨t1, t2, t3, ⟨t7, t8, t9⟩, t6⟩ ?_) (fun e => TT.guard (wk85 hTt) (TT.bind (token_T hTt ⟨t7, t8, t9⟩) (fun z qz => hr _ ⟨t1, t2.trans qz.1.vk.lk, DOf.stab s _ _ qz.1.vk qz.lf t3, qz.2.1.1, fun _ => qz.2.1⟩ ?_)))
    · show (if t.1 = 0 then 0 else _) < (if b = 0 then 0 else _)
      rw [if_pos e, if_neg hb0]; omega
    · show (if t.1 = 0 then 0 else (z.1 85 11 - z.1 85 12 + 1).toNat + 1) < (if b = 0 then 0 else (u.1 85 11 - u.1 85 12 + 1).toNat + 1)
      rw [if_neg e, if_neg hb0]
      have z11 : z.1 85 11 = t.2.1 85 11 := qz.1.2 85 11 (by decide)
      have z12 := qz.2.2
      omega
  · refine TT.ite (fun e => hj _ ⟨q1, hLr, q3, q4, ?_, q6⟩) (fun e => TT.guard (wk85 hTr) (TT.ite (fun _ => hj _ ⟨q1, hLr, q3, q4, ?_, q6⟩) (fun _ => TT.bind (fails_T hTr) (fun z qz => hj _ ?_))))
    · show u.1 85 10 ≤ r.2.1 85 10
      omega
    · show u.1 85 10 ≤ r.2.1 85 10
      omega
    · have hVz : VK r.2 z.2 := ⟨qz.2.1, fun x y _ c => qz.2.2 x y (by omega)⟩
      have e10 := qz.2.2 85 10 (by decide)
      refine ⟨Or.inl qz.1, hLr.trans hVz.lk, DOf.stab s _ _ hVz ?_ q3, q4.of e10 (qz.2.2 85 11 (by decide)), ?_, fun h => absurd qz.1 h⟩
      · unfold LF; rw [qz.2.2 85 17 (by decide), qz.2.2 85 23 (by decide)]; exact ⟨id, id⟩
      · show u.1 85 10 ≤ z.2.1 85 10
        omega
/-! an empty one -/
def DB (M N : Mem) : Prop := N.2 = M.2 ∧ ∀ x y, x ≠ 95 → N.1 x y = M.1 x y
theorem DB.keep {M N : Mem} (h : DB M N) : Keep M N := Keep.of h.1 h.2 (fun _ => rfl)
theorem DB.st {M N : Mem} (h : DB M N) (i v : Int) : DB M (mst N 95 i v) := ⟨h.1, fun x y c => by rw [mst_ne _ _ _ _ _ _ c]; exact h.2 x y c⟩
def DTu (M : Mem) : Prop := (0 ≤ M.1 95 1 ∧ M.1 95 1 ≤ 4) ∧ (∀ i, 2 ≤ i → i ≤ 91 → dlo i ≤ M.1 95 i ∧ M.1 95 i ≤ dhi i) ∧ M.1 95 0 = 3
theorem DTu.st {M : Mem} (d : DTu M) {i v : Int} (i0 : 2 ≤ i) (v0 : dlo i ≤ v) (v1 : v ≤ dhi i) : DTu (mst M 95 i v) := by
  refine ⟨?_, fun j a b => ?_, ?_⟩
  · rw [mst_nf _ _ _ _ _ _ (by omega)]; exact d.1
  · rw [mst_r]
    by_cases q : j = i
    · rw [if_pos ⟨rfl, q⟩, q]; exact ⟨v0, v1⟩
    · rw [if_neg (fun z => q z.2)]; exact d.2.1 j a b
  · rw [mst_nf _ _ _ _ _ _ (by omega)]; exact d.2.2
theorem blankTown_T (hT : WT M) (hz : ∀ y, 0 ≤ y → y < 161 → M.1 95 y = 0) (h2 : ∀ i, 2 ≤ i → i ≤ 91 → dlo i ≤ 0 ∧ 0 ≤ dhi i) : TT (fX11_blankTown M 85) (fun r => DB M r ∧ DTu r) := by
  unfold fX11_blankTown
  rw [wp85_19 hT]
  refine TT.guard (wk85 hT) (TT.guard ⟨wk95 hT, by decide, by rw [wl95 hT]; decide⟩ (TT.sM ?_))
  have hB : DB M (mst M 95 0 3) := DB.st ⟨rfl, fun _ _ _ => rfl⟩ _ _
  have hD : DTu (mst M 95 0 3) := ⟨by rw [mst_nf _ _ _ _ _ _ (by decide), hz 1 (by decide) (by decide)]; decide, fun i a b => by rw [mst_nf _ _ _ _ _ _ (by omega), hz i (by omega) (by omega)]; exact h2 i a b, mst_at _ _ _ _⟩
  generalize mst M 95 0 3 = N at *
  refine TT.iter (fun s : Int × Mem => (0 ≤ s.1 ∧ s.1 ≤ 6) ∧ DB M s.2 ∧ DTu s.2) (fun s => (6 - s.1).toNat) ?_ BIG (0, N) ⟨⟨by dsimp only; omega, by dsimp only; omega⟩, hB, hD⟩ (by unfold BIG; dsimp only; omega)
  rintro rec ⟨i, s⟩ ⟨⟨i0, i1⟩, hBs, hDs⟩ hr
  simp only at i0 i1 hBs hDs ⊢
  have hTs := hT.keep hBs.keep
  rw [wp85_19 hTs]
  refine TT.ite (fun c => ?_) (fun _ => ?_)
  · rw [w32_of (x := 68 + i) (by omega) (by omega)]
    refine TT.guard (wk85 hTs) (TT.guard ⟨wk95 hTs, by omega, by rw [wl95 hTs]; omega⟩ (TT.sM (hr _ ⟨⟨by dsimp only [w32]; omega, by dsimp only [w32]; omega⟩, hBs.st _ _, hDs.st (by omega) ?_ ?_⟩ (by dsimp only [w32]; omega))))
    · unfold dlo; rw [if_neg (by omega)]; omega
    · unfold dhi; rw [if_neg (by omega), if_pos (by omega)]; omega
  refine TT.iter (fun s : Int × Mem => (0 ≤ s.1 ∧ s.1 ≤ 5) ∧ DB M s.2 ∧ DTu s.2) (fun s => (5 - s.1).toNat) ?_ BIG (0, s) ⟨⟨by dsimp only; omega, by dsimp only; omega⟩, hBs, hDs⟩ (by unfold BIG; dsimp only; omega)
  rintro rec2 ⟨j, u⟩ ⟨⟨j0, j1⟩, hBu, hDu⟩ hr2
  simp only at j0 j1 hBu hDu ⊢
  have hTu := hT.keep hBu.keep
  rw [wp85_19 hTu]
  refine TT.ite (fun c => ?_) (fun _ => ?_)
  · rw [w32_of (x := 74 + j) (by omega) (by omega), w32_of (x := 79 + j) (by omega) (by omega)]
    refine TT.guard (wk85 hTu) (TT.guard ⟨wk95 hTu, by omega, by rw [wl95 hTu]; omega⟩ (TT.sM ?_))
    have hB3 := hBu.st (74 + j) 1
    have hT3 := hT.keep hB3.keep
    have hD3 : DTu (mst u 95 (74 + j) 1) := hDu.st (by omega) (by unfold dlo; rw [if_neg (by omega)]; omega) (by unfold dhi; rw [if_neg (by omega), if_neg (by omega)]; omega)
    rw [wp85_19 hT3]
    refine TT.guard ⟨wk95 hT3, by omega, by rw [wl95 hT3]; omega⟩ (TT.sM (hr2 _ ⟨⟨by dsimp only [w32]; omega, by dsimp only [w32]; omega⟩, hB3.st _ _, hD3.st (by omega) ?_ ?_⟩ (by dsimp only [w32]; omega)))
    · unfold dlo; rw [if_neg (by omega)]; omega
    · unfold dhi; rw [if_neg (by omega), if_neg (by omega)]; omega
  refine TT.iter (fun s : Int × Mem => (0 ≤ s.1 ∧ s.1 ≤ 4) ∧ DB M s.2 ∧ DTu s.2) (fun s => (4 - s.1).toNat) ?_ BIG (0, u) ⟨⟨by dsimp only; omega, by dsimp only; omega⟩, hBu, hDu⟩ (by unfold BIG; dsimp only; omega)
  rintro rec3 ⟨k, v⟩ ⟨⟨k0, k1⟩, hBv, hDv⟩ hr3
  simp only at k0 k1 hBv hDv ⊢
  have hTv := hT.keep hBv.keep
  rw [wp85_19 hTv]
  refine TT.ite (fun c => ?_) (fun _ => TT.ok ⟨hBv, hDv⟩)
  rw [w32_of (x := 88 + k) (by omega) (by omega)]
  refine TT.guard (wk85 hTv) (TT.guard ⟨wk95 hTv, by omega, by rw [wl95 hTv]; omega⟩ (TT.sM (hr3 _ ⟨⟨by dsimp only [w32]; omega, by dsimp only [w32]; omega⟩, hBv.st _ _, hDv.st (by omega) ?_ ?_⟩ (by dsimp only [w32]; omega))))
  · unfold dlo; rw [if_pos (by omega)]; omega
  · unfold dhi; rw [if_pos (by omega)]; omega
theorem dz {i : Int} : dlo i ≤ 0 ∧ 0 ≤ dhi i := by
  unfold dlo dhi
  constructor
  · split <;> omega
  · split
    · omega
    · split <;> omega
theorem blank_T (hT : WT M) {s : Int} (h0 : 0 ≤ s) (h3 : s ≤ 3) : TT (fX11_blank M 85 s) (fun r => DB M r ∧ ∀ N : Mem, (∀ y, N.1 95 y = r.1 95 y) → DOf s N) := by
  unfold fX11_blank
  refine TT.iter (fun u : Int × Mem => (0 ≤ u.1 ∧ u.1 ≤ 161) ∧ DB M u.2 ∧ ∀ y, 0 ≤ y → y < u.1 → u.2.1 95 y = if s = 3 ∧ 17 ≤ y then -1 else 0) (fun u => (161 - u.1).toNat) ?_ BIG (0, M) ⟨⟨by dsimp only; omega, by dsimp only; omega⟩, ⟨rfl, fun _ _ _ => rfl⟩, fun y a b => by dsimp only at b; omega⟩ (by unfold BIG; dsimp only; omega)
  rintro rec ⟨i, u⟩ ⟨⟨i0, i1⟩, hB, hc⟩ hr
  simp only at i0 i1 hB hc ⊢
  have hTu := hT.keep hB.keep
  rw [wp85_19 hTu]
  refine TT.ite (fun c => TT.guard (wk85 hTu) ?_) (fun c => ?_)
  · refine TT.join (fun t : Int => t = if s = 3 ∧ 17 ≤ i then -1 else 0) (fun t ht => ?_) (fun j hj => TT.join (fun _ => ¬(s = 3 ∧ 17 ≤ i)) (fun _ h => hj _ (by rw [if_neg h])) (fun k hk => TT.ite (fun e => TT.ite (fun h => hk () (by omega)) (fun h => hj _ (by rw [if_pos (by omega)]))) (fun e => hk () (by omega))))
    refine TT.guard ⟨wk95 hTu, i0, by rw [wl95 hTu]; exact c⟩ (TT.sM (hr _ ⟨⟨by dsimp only [w32]; omega, by dsimp only [w32]; omega⟩, hB.st _ _, fun y a b => ?_⟩ (by dsimp only [w32]; omega)))
    have b' : y < w32 (i + 1) := b
    rw [w32_of (by omega) (by omega)] at b'
    show (mst u 95 i t).1 95 y = _
    rw [mst_r]
    by_cases q : y = i
    · rw [if_pos ⟨rfl, q⟩, q, ht]
    · rw [if_neg (fun z => q z.2)]; exact hc y a (by omega)
  · have hi : i = 161 := by omega
    subst hi
    have hc0 : s ≠ 3 → ∀ y, 0 ≤ y → y < 161 → u.1 95 y = 0 := fun h y a b => by rw [hc y a b, if_neg (fun q => h q.1)]
    refine TT.join (fun t : Mem => DB M t ∧ (s = 0 → DTu t) ∧ (s ≠ 0 → t = u)) (fun t ht => ?_) (fun j hj => TT.ite (fun e => TT.guard (wk85 hTu) (TT.bind (blankTown_T hTu (hc0 (by omega)) (fun _ _ _ => dz)) (fun r q => hj r ⟨⟨q.1.1.trans hB.1, fun x y c => (q.1.2 x y c).trans (hB.2 x y c)⟩, fun _ => q.2, fun h => absurd e h⟩))) (fun e => hj u ⟨hB, fun h => absurd h e, fun _ => rfl⟩))
    obtain ⟨t1, t2, t3⟩ := ht
    have hTt := hT.keep t1.keep
    rw [wp85_19 hTt]
    refine TT.ite (fun e => ?_) (fun e => TT.ok ⟨t1, fun N hN => ⟨fun e0 => ?_, fun h => absurd h e, fun e2 => ?_, fun a b d => ?_⟩⟩)
    · refine TT.guard (wk85 hTt) (TT.guard ⟨wk95 hTt, by decide, by rw [wl95 hTt]; decide⟩ (TT.sM ?_))
      have hB2 := t1.st 0 2
      have hT2 := hT.keep hB2.keep
      rw [wp85_19 hT2]
      refine TT.guard ⟨wk95 hT2, by decide, by rw [wl95 hT2]; decide⟩ (TT.sM (TT.ok ⟨hB2.st _ _, fun N hN => ⟨fun h => by omega, fun _ _ => ?_, fun h => by omega, fun _ h => absurd e h⟩⟩))
      rw [hN]
      show (2 : Int) ≤ 2 ∧ (2 : Int) ≤ 5
      decide
    · have d := t2 e0
      refine ⟨by rw [hN]; exact d.1, fun i a b _ => by rw [hN]; exact d.2.1 i a b, fun _ => ⟨by rw [hN, d.2.2]; decide, fun i a b => ?_⟩⟩
      rw [hN]
      have g := d.2.1 i (by omega) (by omega)
      unfold dlo dhi at g
      rw [if_neg (by omega), if_neg (by omega), if_neg (by omega)] at g
      exact g
    · have z := hc0 (by omega)
      rw [t3 (by omega)] at hN
      refine ⟨by rw [hN, z 0 (by decide) (by decide)]; decide, fun _ j a b _ => ?_⟩
      rw [hN, z (4 + 4 * j) (by omega) (by omega)]; decide
    · rw [t3 a] at hN
      have z : ∀ y, 0 ≤ y → y < 17 → u.1 95 y = 0 := fun y a b => by rw [hc y a (by omega), if_neg (fun q => by omega)]
      refine ⟨by rw [hN, z 0 (by decide) (by decide)]; decide, fun _ j a b => ?_⟩
      rw [hN, hN, z (1 + 2 * j) (by omega) (by omega), z (2 + 2 * j) (by omega) (by omega)]; decide
end RefX
