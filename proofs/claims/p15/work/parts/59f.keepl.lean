/-! the class: the reader's lines -/
section KeepL
variable {M N O : Mem}
def lo3 (l i : Int) : Int := (sTab 2).getD (3 * l + i).toNat 0
def hi3 (l i : Int) : Int := (sTab 3).getD (3 * l + i).toNat 0
def NumQ (M r : Mem) (l i : Int) : Prop := (r.2 = M.2 ∧ ∀ x y, x ≠ 67 → (x ≠ 47 ∨ (y ≠ 0 ∧ y ≠ 1)) → r.1 x y = M.1 x y) ∧ (∀ j, j ≠ i → r.1 67 j = M.1 67 j) ∧ (r.1 47 0 = 0 → M.1 47 0 = 0 ∧ lo3 l i ≤ r.1 67 i ∧ r.1 67 i ≤ hi3 l i)
set_option maxHeartbeats 1000000 in
theorem readNumber_T (hT : WT M) {l i : Int} (l0 : 0 ≤ l) (l1 : l < 18) (i0 : 0 ≤ i) (i3 : i < 3) : TT (fX3_readNumber M 47 l i) (fun r => NumQ M r l i) := by
  unfold fX3_readNumber
  rw [w32_of (x := 3 * l) (by omega) (by omega), w32_of (x := 3 * l + i) (by omega) (by omega), wp47_12 hT]
  refine TT.join (fun _ => True) (fun t2 _ => ?_) (fun j1 hj1 => TT.join (fun _ => True) (fun _ _ => hj1 _ trivial) (fun j19 hj19 => TT.join (fun _ => True) (fun _ _ => TT.ite (fun _ => TT.guard (wk47 hT) (TT.guard ⟨wk67 hT, by decide, by rw [wl67 hT]; decide⟩ (TT.ite (fun _ => hj1 _ trivial) (fun _ => hj19 () trivial)))) (fun _ => hj19 () trivial)) (fun j21 hj21 => TT.ite (fun _ => hj21 () trivial) (fun _ => TT.ite (fun _ => hj21 () trivial) (fun _ => hj19 () trivial)))))
  refine TT.guard (wk47 hT) (TT.guard (by omega) ?_)
  refine TT.join (fun t : Mem => (t.2 = M.2 ∧ ∀ x y, (x ≠ 47 ∨ (y ≠ 0 ∧ y ≠ 1)) → t.1 x y = M.1 x y) ∧ (t.1 47 0 = 0 → M.1 47 0 = 0 ∧ lo3 l i ≤ M.1 47 11 ∧ M.1 47 11 ≤ hi3 l i)) (fun t ht => ?_) (fun j5 hj5 => TT.join (fun _ => True) (fun _ _ => TT.bind (note_T hT _ (by decide)) (fun r q => hj5 r ⟨q.1, fun e => absurd e q.2⟩)) (fun j11 hj11 => TT.ite (fun _ => hj11 () trivial) (fun c1 => TT.guard (by omega) (TT.ite (fun _ => hj11 () trivial) (fun c2 => TT.ite (fun _ => hj5 M ⟨⟨rfl, fun _ _ _ => rfl⟩, fun e => ⟨e, Int.not_lt.mp c1, Int.not_lt.mp c2⟩⟩) (fun _ => hj11 () trivial))))))
  obtain ⟨⟨t1, t2⟩, t3⟩ := ht
  have hTt : WT t := KD.wt (M := M) ⟨t1, fun x y q _ _ => t2 x y (by
    by_cases c : x = 47 ∧ (y = 0 ∨ y = 1)
    · exfalso
      rw [c.1, scr47 (by omega)] at q; cases q
    · omega)⟩ hT
  rw [wp47_12 hTt]
  refine TT.guard (wk47 hTt) (TT.guard ⟨wk67 hTt, i0, by rw [wl67 hTt]; exact i3⟩ (TT.sM (TT.ok ⟨⟨t1, fun x y a b => ?_⟩, fun j hj => ?_, fun e => ?_⟩)))
  · rw [mst_ne _ _ _ _ _ _ a]; exact t2 x y b
  · rw [mst_nf _ _ _ _ _ _ hj]; exact t2 67 j (Or.inl (by decide))
  · have e' : t.1 47 0 = 0 := e
    obtain ⟨g1, g2⟩ := t3 e'
    rw [mst_at, t2 47 11 (by decide)]
    exact ⟨g1, g2⟩
/-- what a kept line leaves -/
def KQ (M t : Mem) : Prop := KD M t ∧ DRF t ∧ ∀ y, 6 ≤ y → y ≤ 8 → t.1 47 y = M.1 47 y
theorem DRF.of (d : DRF M) (h : TownR N 48) (e : ∀ x y, 57 ≤ x → x ≤ 66 → N.1 x y = M.1 x y) : DRF N := by
  unfold DRF DI at *
  exact ⟨h, by rw [e 57 _ (by decide) (by decide), e 57 _ (by decide) (by decide)]; exact d.2.1, by rw [e 58 _ (by decide) (by decide)]; exact d.2.2.1, by rw [e 63 _ (by decide) (by decide)]; exact d.2.2.2.1, ⟨fun y a b => by rw [e 64 _ (by decide) (by decide)]; exact d.2.2.2.2.1.1 y a b, fun y a b => by rw [e 65 _ (by decide) (by decide)]; exact d.2.2.2.2.1.2 y a b⟩, fun y a b => by rw [e 66 _ (by decide) (by decide)]; exact d.2.2.2.2.2 y a b⟩
theorem TownR.st {a j i v : Int} (h : TownR M a) (j1 : 1 ≤ j) (j8 : j ≤ 8) (v0 : tlo j ≤ v) (v1 : v ≤ thi j) : TownR (mst M (a + j) i v) a := by
  refine ⟨by rw [mst_ne _ _ _ _ _ _ (by omega)]; exact h.1, by rw [mst_ne _ _ _ _ _ _ (by omega)]; exact h.2.1, fun k y k1 k8 y0 y1 => ?_⟩
  rw [mst_r]
  by_cases c : a + k = a + j ∧ y = i
  · rw [if_pos c, show k = j by omega]; exact ⟨v0, v1⟩
  · rw [if_neg c]; exact h.2.2 k y k1 k8 y0 y1
theorem KQ.town {j i v : Int} (d : DRF M) (j1 : 1 ≤ j) (j8 : j ≤ 8) (v0 : tlo j ≤ v) (v1 : v ≤ thi j) : KQ M (mst M (48 + j) i v) := by
  refine ⟨(KD.self M).st (Or.inl ?_), d.of (d.1.st j1 j8 v0 v1) (fun x y a b => mst_ne _ _ _ _ _ _ (by omega)), fun y _ _ => mst_ne _ _ _ _ _ _ (by omega)⟩
  rcases (show j = 1 ∨ j = 2 ∨ j = 3 ∨ j = 4 ∨ j = 5 ∨ j = 6 ∨ j = 7 ∨ j = 8 by omega) with e | e | e | e | e | e | e | e <;> subst e <;> rfl
theorem KQ.st47 {t : Mem} {i v : Int} (h : KQ M t) (hi : i = 14 ∨ i = 15) : KQ M (mst t 47 i v) := by
  have s : SK t (mst t 47 i v) := (SK.self t).st (by omega)
  exact ⟨h.1.trans s.kd, s.drf h.2.1, fun y a b => by rw [mst_nf _ _ _ _ _ _ (by omega)]; exact h.2.2 y a b⟩
def NV (M : Mem) (l : Int) : Prop := ∀ j, 0 ≤ j → j < (sTab 1).getD l.toNat 0 → lo3 l j ≤ M.1 67 j ∧ M.1 67 j ≤ hi3 l j
theorem addThief_T (hT : WT M) (d : DRF M) {v : Int} (v0 : 0 ≤ v) (v9 : v ≤ 9) : TT (fX7_addThief M 48 v) (fun r => KQ M r) := by
  unfold fX7_addThief
  have h1 := d.1.2.1
  rw [wp48_8 hT]
  refine TT.guard (wk48 hT) (TT.ite (fun c => TT.guard ⟨wk55 hT, h1.1, by rw [wl55 hT]; exact c⟩ (TT.sM (TT.sM (TT.ok ?_)))) (fun _ => TT.ok ⟨KD.self M, d, fun _ _ _ => rfl⟩))
  have g : KQ M (mst M (48 + 7) (M.1 48 1) v) := KQ.town d (by decide) (by decide) v0 v9
  have e1 : (mst M (48 + 7) (M.1 48 1) v).1 48 1 = M.1 48 1 := mst_ne _ _ _ _ _ _ (by decide)
  refine ⟨g.1.st (Or.inl rfl), g.2.1.of ⟨?_, ?_, fun k y k1 k8 y0 y1 => ?_⟩ (fun x y a b => mst_ne _ _ _ _ _ _ (by omega)), fun y a b => ?_⟩
  · rw [mst_nf _ _ _ _ _ _ (by decide)]; exact g.2.1.1.1
  · show 0 ≤ (mst _ 48 1 _).1 48 1 ∧ (mst _ 48 1 _).1 48 1 ≤ 4
    rw [mst_at]
    have e2 : (mst M 55 (M.1 48 1) v).1 48 1 = M.1 48 1 := e1
    rw [e2, w32_of (by omega) (by omega)]; omega
  · rw [mst_ne _ _ _ _ _ _ (by omega)]; exact g.2.1.1.2.2 k y k1 k8 y0 y1
  · rw [mst_ne _ _ _ _ _ _ (by decide)]; exact g.2.2 y a b
set_option maxHeartbeats 1000000 in
theorem keepTown_T (hT : WT M) (d : DRF M) {l : Int} (l0 : 0 ≤ l) (l9 : l < 9) (hN : NV M l) : TT (fX3_keepTown M 47 l) (fun r => KQ M r) := by
  unfold fX3_keepTown
  rw [wp47_12 hT, wp47_2 hT]
  refine TT.guard (wk47 hT) (TT.guard ⟨wk67 hT, by decide, by rw [wl67 hT]; decide⟩ (TT.guard ⟨wk67 hT, by decide, by rw [wl67 hT]; decide⟩ ?_))
  have g2 : M.2.1 67 = 12 ∧ (0 : Int) ≤ 2 ∧ 2 < M.2.2.1 67 := ⟨wk67 hT, by decide, by rw [wl67 hT]; decide⟩
  refine TT.join (fun t : Mem => KQ M t) (fun t ht => TT.ite (fun _ => TT.ok ht) (fun _ => TT.ite (fun _ => TT.ok ht) (fun _ => TT.guard (wk47 (ht.1.wt hT)) (TT.sM (TT.ok (ht.st47 (Or.inl rfl))))))) (fun j hj => ?_)
  rw [wp48_2 hT, wp48_3 hT, wp48_4 hT, wp48_5 hT, wp48_6 hT, wp48_7 hT, wp48_9 hT]
  rcases (show l = 0 ∨ l = 1 ∨ l = 2 ∨ l = 3 ∨ l = 4 ∨ l = 5 ∨ l = 6 ∨ l = 7 ∨ l = 8 by omega) with e | e | e | e | e | e | e | e | e <;> subst e
  · have n0 : 1 ≤ M.1 67 0 ∧ M.1 67 0 ≤ 6 := hN 0 (by decide) (by decide)
    refine TT.pos rfl (TT.guard (wk48 hT) (TT.sM (hj _ ⟨(KD.self M).st (Or.inl rfl), d.of ⟨?_, d.1.2.1, fun k y k1 k8 y0 y1 => ?_⟩ (fun x y a b => mst_ne _ _ _ _ _ _ (by omega)), fun y _ _ => mst_ne _ _ _ _ _ _ (by decide)⟩)))
    · rw [mst_at]; exact n0
    · rw [mst_ne _ _ _ _ _ _ (by omega)]; exact d.1.2.2 k y k1 k8 y0 y1
  · have n0 : 0 ≤ M.1 67 0 ∧ M.1 67 0 ≤ 5 := hN 0 (by decide) (by decide)
    have n1 : 0 ≤ M.1 67 1 ∧ M.1 67 1 ≤ 4 := hN 1 (by decide) (by decide)
    have n2 : 0 ≤ M.1 67 2 ∧ M.1 67 2 ≤ 9 := hN 2 (by decide) (by decide)
    exact TT.neg (by decide) (TT.pos rfl (TT.guard (wk48 hT) (TT.bind (cell_T (by omega) (by omega) (by omega) (by omega)) (fun r q => TT.guard g2 (TT.guard ⟨wk49 hT, q.2.1, by rw [wl49 hT]; exact q.2.2⟩ (TT.sM (hj _ (KQ.town (j := 1) d (by decide) (by decide) n2.1 n2.2))))))))
  · have n0 : 0 ≤ M.1 67 0 ∧ M.1 67 0 ≤ 5 := hN 0 (by decide) (by decide)
    have n1 : 0 ≤ M.1 67 1 ∧ M.1 67 1 ≤ 4 := hN 1 (by decide) (by decide)
    have n2 : 0 ≤ M.1 67 2 ∧ M.1 67 2 ≤ 9 := hN 2 (by decide) (by decide)
    exact TT.neg (by decide) (TT.neg (by decide) (TT.pos rfl (TT.guard (wk48 hT) (TT.bind (cell_T (by omega) (by omega) (by omega) (by omega)) (fun r q => TT.guard g2 (TT.guard ⟨wk50 hT, q.2.1, by rw [wl50 hT]; exact q.2.2⟩ (TT.sM (hj _ (KQ.town (j := 2) d (by decide) (by decide) n2.1 n2.2)))))))))
  · have n0 : 0 ≤ M.1 67 0 ∧ M.1 67 0 ≤ 5 := hN 0 (by decide) (by decide)
    have n1 : 0 ≤ M.1 67 1 ∧ M.1 67 1 ≤ 9 := hN 1 (by decide) (by decide)
    exact TT.neg (by decide) (TT.neg (by decide) (TT.neg (by decide) (TT.pos rfl (TT.guard (wk48 hT) (TT.guard ⟨wk51 hT, n0.1, by rw [wl51 hT]; omega⟩ (TT.sM (hj _ (KQ.town (j := 3) d (by decide) (by decide) n1.1 n1.2))))))))
  · have n0 : 0 ≤ M.1 67 0 ∧ M.1 67 0 ≤ 5 := hN 0 (by decide) (by decide)
    have n1 : 0 ≤ M.1 67 1 ∧ M.1 67 1 ≤ 5 := hN 1 (by decide) (by decide)
    exact TT.neg (by decide) (TT.neg (by decide) (TT.neg (by decide) (TT.neg (by decide) (TT.pos rfl (TT.guard (wk48 hT) (TT.guard ⟨wk52 hT, n0.1, by rw [wl52 hT]; omega⟩ (TT.sM (TT.sM (hj _ ((KQ.town (j := 4) d (by decide) (by decide) n1.1 n1.2).st47 (Or.inl rfl)))))))))))
  · have n0 : 0 ≤ M.1 67 0 ∧ M.1 67 0 ≤ 4 := hN 0 (by decide) (by decide)
    have n1 : 1 ≤ M.1 67 1 ∧ M.1 67 1 ≤ 9 := hN 1 (by decide) (by decide)
    exact TT.neg (by decide) (TT.neg (by decide) (TT.neg (by decide) (TT.neg (by decide) (TT.neg (by decide) (TT.pos rfl (TT.guard (wk48 hT) (TT.guard ⟨wk53 hT, n0.1, by rw [wl53 hT]; omega⟩ (TT.sM (hj _ (KQ.town (j := 5) d (by decide) (by decide) n1.1 n1.2))))))))))
  · have n0 : 0 ≤ M.1 67 0 ∧ M.1 67 0 ≤ 4 := hN 0 (by decide) (by decide)
    have n1 : 0 ≤ M.1 67 1 ∧ M.1 67 1 ≤ 9 := hN 1 (by decide) (by decide)
    exact TT.neg (by decide) (TT.neg (by decide) (TT.neg (by decide) (TT.neg (by decide) (TT.neg (by decide) (TT.neg (by decide) (TT.pos rfl (TT.guard (wk48 hT) (TT.guard ⟨wk54 hT, n0.1, by rw [wl54 hT]; omega⟩ (TT.sM (hj _ (KQ.town (j := 6) d (by decide) (by decide) n1.1 n1.2)))))))))))
  · have n0 : 0 ≤ M.1 67 0 ∧ M.1 67 0 ≤ 3 := hN 0 (by decide) (by decide)
    have n1 : 0 ≤ M.1 67 1 ∧ M.1 67 1 ≤ 3 := hN 1 (by decide) (by decide)
    exact TT.neg (by decide) (TT.neg (by decide) (TT.neg (by decide) (TT.neg (by decide) (TT.neg (by decide) (TT.neg (by decide) (TT.neg (by decide) (TT.pos rfl (TT.guard (wk48 hT) (TT.guard ⟨wk56 hT, n0.1, by rw [wl56 hT]; omega⟩ (TT.sM (TT.sM (hj _ ((KQ.town (j := 8) d (by decide) (by decide) (Int.le_trans (by decide) n1.1) n1.2).st47 (Or.inr rfl))))))))))))))
  · have n0 : 1 ≤ M.1 67 0 ∧ M.1 67 0 ≤ 9 := hN 0 (by decide) (by decide)
    exact TT.neg (by decide) (TT.neg (by decide) (TT.neg (by decide) (TT.neg (by decide) (TT.neg (by decide) (TT.neg (by decide) (TT.neg (by decide) (TT.neg (by decide) (TT.guard (wk48 hT) (TT.bind (addThief_T hT d (by omega) n0.2) (fun r q => hj r q))))))))))
theorem keepLaw_T (hT : WT M) (d : DRF M) {l : Int} (l0 : 9 ≤ l) (l9 : l < 12) (hN : NV M l) : TT (fX3_keepLaw M 47 l) (fun r => KQ M r) := by
  unfold fX3_keepLaw
  have g0 : M.2.1 67 = 12 ∧ (0 : Int) ≤ 0 ∧ 0 < M.2.2.1 67 := ⟨wk67 hT, by decide, by rw [wl67 hT]; decide⟩
  rw [wp47_12 hT, wp47_3 hT]
  have key : ∀ i v, 0 ≤ i → (i = 0 → 2 ≤ v ∧ v ≤ 5) → (i = 1 → 1 ≤ v ∧ v ≤ 99) → KQ M (mst M 57 i v) := fun i v i0 h0 h1 => by
    refine ⟨(KD.self M).st (Or.inl rfl), ?_, fun y _ _ => mst_ne _ _ _ _ _ _ (by decide)⟩
    obtain ⟨d1, d2, d3, d4, d5, d6⟩ := d
    refine ⟨⟨d1.1, d1.2.1, fun k y k1 k8 y0 y1 => by rw [mst_ne _ _ _ _ _ _ (by omega)]; exact d1.2.2 k y k1 k8 y0 y1⟩, ⟨?_, ?_⟩, d3, d4, d5, d6⟩
    · rw [mst_r]
      by_cases c : i = 0
      · rw [if_pos ⟨rfl, c.symm⟩]; exact h0 c
      · rw [if_neg (fun z => c z.2.symm)]; exact d2.1
    · rw [mst_r]
      by_cases c : i = 1
      · rw [if_pos ⟨rfl, c.symm⟩]; exact h1 c
      · rw [if_neg (fun z => c z.2.symm)]; exact d2.2
  refine TT.ite (fun e => ?_) (fun e9 => TT.ite (fun e => ?_) (fun e10 => ?_))
  · subst e
    have n0 : 2 ≤ M.1 67 0 ∧ M.1 67 0 ≤ 5 := hN 0 (by decide) (by decide)
    exact TT.guard (wk47 hT) (TT.guard g0 (TT.guard (wk57 hT) (TT.sM (TT.ok (key 0 _ (by decide) (fun _ => n0) (fun h => absurd h (by decide)))))))
  · subst e
    have n0 : 1 ≤ M.1 67 0 ∧ M.1 67 0 ≤ 99 := hN 0 (by decide) (by decide)
    exact TT.guard (wk47 hT) (TT.guard g0 (TT.guard (wk57 hT) (TT.sM (TT.ok (key 1 _ (by decide) (fun h => absurd h (by decide)) (fun _ => n0))))))
  · exact TT.guard (wk47 hT) (TT.guard (wk57 hT) (TT.guard g0 (TT.sM (TT.ok (key 2 _ (by decide) (fun h => absurd h (by decide)) (fun h => absurd h (by decide)))))))
theorem nightAdd_T (hT : WT M) (d : DRF M) (a b c e : Int) : TT (fX1_add M 58 a b c e) (fun r => KQ M r) := by
  unfold fX1_add
  have h1 := d.2.2.1
  have g : ∀ (N : Mem), N.2 = M.2 → (∀ x y, (x < 59 ∨ 62 < x) → N.1 x y = M.1 x y) → ∀ o, 1 ≤ o → o ≤ 4 → N.1 58 o = 58 + o ∧ N.2.1 (58 + o) = 12 ∧ N.2.2.1 (58 + o) = 40 ∧ N.1 58 0 = M.1 58 0 := by
    intro N e2 f o o1 o4
    obtain ⟨p1, p2, p3⟩ := (NightS_58 hT).2 o o1 o4
    rw [show o - 1 + 1 = o by omega] at p1
    rw [f 58 _ (by decide), f 58 _ (by decide), e2]
    exact ⟨p1, p2, p3, rfl⟩
  have g1 := g M rfl (fun _ _ _ => rfl) 1 (by decide) (by decide)
  refine TT.guard (wk58 hT) (TT.ite (fun c1 => ?_) (fun _ => TT.ok ⟨KD.self M, d, fun _ _ _ => rfl⟩))
  have step : ∀ (N : Mem) (o v : Int), N.2 = M.2 → (∀ x y, (x < 59 ∨ 62 < x) → N.1 x y = M.1 x y) → 1 ≤ o → o ≤ 4 → (∀ x y, (x < 59 ∨ 62 < x) → (mst N (58 + o) (N.1 58 0) v).1 x y = M.1 x y) := fun N o v e2 f o1 o4 x y q => by
    rw [mst_ne _ _ _ _ _ _ (by omega)]; exact f x y q
  rw [g1.1]
  refine TT.guard ⟨g1.2.1, h1.1, by rw [g1.2.2.1]; exact c1⟩ (TT.sM ?_)
  have f1 := step M 1 a rfl (fun _ _ _ => rfl) (by decide) (by decide)
  have e1 : (mst M (58 + 1) (M.1 58 0) a).2 = M.2 := rfl
  generalize mst M (58 + 1) (M.1 58 0) a = N1 at *
  have g2 := g N1 e1 f1 2 (by decide) (by decide)
  rw [g2.1]
  refine TT.guard ⟨g2.2.1, by rw [g2.2.2.2]; exact h1.1, by rw [g2.2.2.1, g2.2.2.2]; exact c1⟩ (TT.sM ?_)
  have f2 := step N1 2 b e1 f1 (by decide) (by decide)
  have e2 : (mst N1 (58 + 2) (N1.1 58 0) b).2 = M.2 := e1
  generalize mst N1 (58 + 2) (N1.1 58 0) b = N2 at *
  have g3 := g N2 e2 f2 3 (by decide) (by decide)
  rw [g3.1]
  refine TT.guard ⟨g3.2.1, by rw [g3.2.2.2]; exact h1.1, by rw [g3.2.2.1, g3.2.2.2]; exact c1⟩ (TT.sM ?_)
  have f3 := step N2 3 c e2 f2 (by decide) (by decide)
  have e3 : (mst N2 (58 + 3) (N2.1 58 0) c).2 = M.2 := e2
  generalize mst N2 (58 + 3) (N2.1 58 0) c = N3 at *
  have g4 := g N3 e3 f3 4 (by decide) (by decide)
  rw [g4.1]
  refine TT.guard ⟨g4.2.1, by rw [g4.2.2.2]; exact h1.1, by rw [g4.2.2.1, g4.2.2.2]; exact c1⟩ (TT.sM (TT.sM (TT.ok ?_)))
  have f4 := step N3 4 e e3 f3 (by decide) (by decide)
  have e4 : (mst N3 (58 + 4) (N3.1 58 0) e).2 = M.2 := e3
  generalize mst N3 (58 + 4) (N3.1 58 0) e = N4 at *
  have en : w32 (N4.1 58 0 + 1) = M.1 58 0 + 1 := by rw [f4 58 0 (by decide), w32_of (by omega) (by omega)]
  rw [en]
  have f5 : ∀ x y, (x < 59 ∨ 62 < x) → ¬(x = 58 ∧ y = 0) → (mst N4 58 0 (M.1 58 0 + 1)).1 x y = M.1 x y := fun x y q z => by rw [mst_r, if_neg z]; exact f4 x y q
  have v5 : (mst N4 58 0 (M.1 58 0 + 1)).1 58 0 = M.1 58 0 + 1 := mst_at _ _ _ _
  have e5 : (mst N4 58 0 (M.1 58 0 + 1)).2 = M.2 := e4
  generalize mst N4 58 0 (M.1 58 0 + 1) = N5 at *
  refine ⟨⟨e5, fun x y q _ _ => f5 x y ?_ ?_⟩, ?_, fun y _ _ => f5 47 y (by decide) (by omega)⟩
  · by_cases z : x < 59 ∨ 62 < x
    · exact z
    · exfalso
      rcases (show x = 59 ∨ x = 60 ∨ x = 61 ∨ x = 62 by omega) with w | w | w | w <;> subst w <;> cases q
  · rintro ⟨z1, z2⟩
    subst z1; subst z2; cases q
  · obtain ⟨d1, d2, d3, d4, d5, d6⟩ := d
    refine ⟨⟨by rw [f5 48 _ (by decide) (by omega)]; exact d1.1, by rw [f5 48 _ (by decide) (by omega)]; exact d1.2.1, fun k y k1 k8 y0 y1 => by rw [f5 _ _ (by omega) (by omega)]; exact d1.2.2 k y k1 k8 y0 y1⟩, by rw [f5 57 _ (by decide) (by omega), f5 57 _ (by decide) (by omega)]; exact d2, by rw [v5]; omega, by rw [f5 63 _ (by decide) (by omega)]; exact d4, ⟨fun y a b => by rw [f5 64 _ (by decide) (by omega)]; exact d5.1 y a b, fun y a b => by rw [f5 65 _ (by decide) (by omega)]; exact d5.2 y a b⟩, fun y a b => by rw [f5 66 _ (by decide) (by omega)]; exact d6 y a b⟩
theorem sightAdd_T (hT : WT M) (d : DRF M) {h g : Int} (h0 : 0 ≤ h ∧ h ≤ 5) (g0 : 0 ≤ g ∧ g ≤ 4) : TT (fX4_add M 63 h g) (fun r => KQ M r) := by
  unfold fX4_add
  obtain ⟨d1, d2, d3, d4, d5, d6⟩ := d
  rw [wp63_1 hT]
  refine TT.guard (wk63 hT) (TT.ite (fun c1 => TT.guard ⟨wk64 hT, d4.1, by rw [wl64 hT]; exact c1⟩ (TT.sM ?_)) (fun _ => TT.ok ⟨KD.self M, ⟨d1, d2, d3, d4, d5, d6⟩, fun _ _ _ => rfl⟩))
  rw [show (mst M 64 (M.1 63 0) h).1 63 2 = 65 from (wp63_2 hT : M.1 63 2 = 65), show (mst M 64 (M.1 63 0) h).1 63 0 = M.1 63 0 from rfl]
  refine TT.guard ⟨(wk65 hT : M.2.1 65 = 12), d4.1, by show M.1 63 0 < M.2.2.1 65; rw [wl65 hT]; exact c1⟩ (TT.sM (TT.sM (TT.ok ?_)))
  have en : w32 ((mst (mst M 64 (M.1 63 0) h) 65 (M.1 63 0) g).1 63 0 + 1) = M.1 63 0 + 1 := w32_of (by show -2147483648 ≤ M.1 63 0 + 1; omega) (by show M.1 63 0 + 1 < 2147483648; omega)
  rw [en]
  refine ⟨(((KD.self M).st (Or.inr (Or.inl rfl))).st (Or.inr (Or.inr rfl))).st (Or.inl rfl), ⟨⟨d1.1, d1.2.1, fun k y k1 k8 y0 y1 => ?_⟩, d2, d3, ?_, ⟨fun y y0 y1 => ?_, fun y y0 y1 => ?_⟩, d6⟩, fun y _ _ => rfl⟩
  · rw [mst_ne _ _ _ _ _ _ (by omega), mst_ne _ _ _ _ _ _ (by omega), mst_ne _ _ _ _ _ _ (by omega)]; exact d1.2.2 k y k1 k8 y0 y1
  · rw [mst_at]; omega
  · rw [mst_ne _ _ _ _ _ _ (by decide), mst_ne _ _ _ _ _ _ (by decide), mst_r]
    by_cases z : y = M.1 63 0
    · rw [if_pos ⟨rfl, z⟩]; exact h0
    · rw [if_neg (fun w => z w.2)]; exact d5.1 y y0 y1
  · rw [mst_ne _ _ _ _ _ _ (by decide), mst_r]
    by_cases z : y = M.1 63 0
    · rw [if_pos ⟨rfl, z⟩]; exact g0
    · rw [if_neg (fun w => z w.2), mst_ne _ _ _ _ _ _ (by decide)]; exact d5.2 y y0 y1
set_option maxHeartbeats 1000000 in
theorem keepLine_T (hT : WT M) (d : DRF M) {l : Int} (l0 : 0 ≤ l) (l9 : l < 18) (hN : NV M l) : TT (fX3_keepLine M 47 l) (fun r => KQ M r) := by
  unfold fX3_keepLine
  have g : ∀ k, 0 ≤ k → k < 3 → M.2.1 67 = 12 ∧ (0 : Int) ≤ k ∧ k < M.2.2.1 67 := fun k k0 k3 => ⟨wk67 hT, k0, by rw [wl67 hT]; exact k3⟩
  rw [wp47_12 hT, wp47_4 hT, wp47_5 hT, wp63_3 hT]
  refine TT.ite (fun c => TT.guard (wk47 hT) (TT.bind (keepTown_T hT d l0 c hN) (fun r q => TT.ok q))) (fun c9 => ?_)
  refine TT.ite (fun c => TT.guard (wk47 hT) (TT.bind (keepLaw_T hT d (by omega) c hN) (fun r q => TT.ok q))) (fun c12 => ?_)
  refine TT.ite (fun c => TT.guard (wk47 hT) (TT.guard (wk58 hT) (TT.bind (nightAdd_T hT d _ _ _ _) (fun r q => TT.ok q)))) (fun c15 => ?_)
  refine TT.ite (fun c => TT.guard (wk47 hT) (TT.guard (g 0 (by decide) (by decide)) (TT.guard (g 1 (by decide) (by decide)) (TT.guard (g 2 (by decide) (by decide)) (TT.guard (wk58 hT) (TT.bind (nightAdd_T hT d _ _ _ _) (fun r q => TT.ok q))))))) (fun c14 => ?_)
  refine TT.ite (fun c => ?_) (fun c16 => ?_)
  · subst c
    have n0 : 0 ≤ M.1 67 0 ∧ M.1 67 0 ≤ 5 := hN 0 (by decide) (by decide)
    have n1 : 0 ≤ M.1 67 1 ∧ M.1 67 1 ≤ 4 := hN 1 (by decide) (by decide)
    exact TT.guard (wk47 hT) (TT.guard (g 0 (by decide) (by decide)) (TT.guard (g 1 (by decide) (by decide)) (TT.guard (wk63 hT) (TT.bind (sightAdd_T hT d n0 n1) (fun r q => TT.ok q)))))
  · have e : l = 17 := by omega
    subst e
    have n0 : 0 ≤ M.1 67 0 ∧ M.1 67 0 ≤ 5 := hN 0 (by decide) (by decide)
    have n1 : 0 ≤ M.1 67 1 ∧ M.1 67 1 ≤ 4 := hN 1 (by decide) (by decide)
    have n2 : 0 ≤ M.1 67 2 ∧ M.1 67 2 ≤ 18 := hN 2 (by decide) (by decide)
    refine TT.guard (wk47 hT) (TT.guard (wk63 hT) (TT.guard (g 0 (by decide) (by decide)) (TT.guard (g 1 (by decide) (by decide)) (TT.bind (cell_T n0.1 (by omega) n1.1 (by omega)) (fun r q => TT.guard (g 2 (by decide) (by decide)) (TT.guard ⟨wk66 hT, q.2.1, by rw [wl66 hT]; exact q.2.2⟩ (TT.sM (TT.ok ?_))))))))
    obtain ⟨d1, d2, d3, d4, d5, d6⟩ := d
    refine ⟨(KD.self M).st (Or.inl rfl), ⟨⟨d1.1, d1.2.1, fun k y k1 k8 y0 y1 => ?_⟩, d2, d3, d4, d5, fun y y0 y1 => ?_⟩, fun y _ _ => rfl⟩
    · rw [mst_ne _ _ _ _ _ _ (by omega)]; exact d1.2.2 k y k1 k8 y0 y1
    · rw [mst_r]
      by_cases z : y = r
      · rw [if_pos ⟨rfl, z⟩]; omega
      · rw [if_neg (fun w => z w.2)]; exact d6 y y0 y1
end KeepL
