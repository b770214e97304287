/-! the class: a Told made anew; image -/
section Image
variable {M N O : Mem}
def St (S S' : Mem) (n b q i w : Int) : Prop := FZ S S' n (fun x y => x = b + q ∧ y = i) ∧ (S'.2.2.2 : Int) = n + 1 + w ∧ S'.1 (b + q) i = n
theorem st_of {S r : Mem} {kd m n w b q i : Int} (hn : n = (S.2.2.2 : Int)) (h : NewQ (mnew S kd m) r n w) : St S (mst r (b + q) i n) n b q i w := by
  have e := mnw_n S kd m
  refine ⟨fun x hx => ?_, ?_, mst_at _ _ _ _⟩
  · obtain ⟨g1, g2, g3⟩ := h.2 x (by omega)
    refine ⟨?_, ?_, fun y hy => ?_⟩
    · show r.2.1 x = _
      rw [g1, mnw_k, if_neg (by omega)]
    · show r.2.2.1 x = _
      rw [g2, mnw_l, if_neg (by omega)]
    · rw [mst_r, if_neg hy, g3 y (show ¬ x = n by omega), mnw_c, if_neg (by omega)]
  · show (r.2.2.2 : Int) = _
    rw [h.1]; omega
theorem HdS.fz {b n q i : Int} (h : HdS M b) (g : FZ M N n (fun x y => x = b + q ∧ y = i)) (hq : 3 ≤ q) (hn : b + 7 ≤ n) : HdS N b := by
  have c : ∀ y, N.1 b y = M.1 b y := fun y => (g b (by omega)).2.2 y (fun z => by omega)
  have k : ∀ o, 0 ≤ o → o ≤ 6 → N.2.1 (b + o) = M.2.1 (b + o) ∧ N.2.2.1 (b + o) = M.2.2.1 (b + o) := fun o o0 o6 => ⟨(g (b + o) (by omega)).1, (g (b + o) (by omega)).2.1⟩
  have k0 : N.2.1 b = M.2.1 b := (g b (by omega)).1
  unfold HdS at *
  rw [c, c, c, c, c, c, k0, (k 1 (by decide) (by decide)).1, (k 1 (by decide) (by decide)).2, (k 2 (by decide) (by decide)).1, (k 2 (by decide) (by decide)).2, (k 3 (by decide) (by decide)).1, (k 3 (by decide) (by decide)).2, (k 4 (by decide) (by decide)).1, (k 4 (by decide) (by decide)).2, (k 5 (by decide) (by decide)).1, (k 5 (by decide) (by decide)).2, (k 6 (by decide) (by decide)).1, (k 6 (by decide) (by decide)).2]
  exact h
theorem CpS.fz {b n q i j : Int} (h : CpS M b j) (g : FZ M N n (fun x y => x = b + q ∧ y = i)) (hq : 3 ≤ q) (q6 : q ≤ 6) (j0 : 0 ≤ j) (hj : j ≠ i) (hn : b + 26 + 19 * j ≤ n) : CpS N b j := by
  obtain ⟨⟨a1, a2⟩, ⟨a3, a4⟩, ⟨a5, a6⟩, a7, a8⟩ := h
  have c : ∀ x, x < n → N.1 x j = M.1 x j := fun x hx => (g x hx).2.2 j (fun z => hj z.2)
  refine ⟨⟨?_, ObjS.fz a2 (by decide) g (by omega) (fun y _ z => by omega)⟩, ⟨?_, ?_⟩, ⟨?_, ObjS.fz a6 (by decide) g (by omega) (fun y _ z => by omega)⟩, ?_, ObjS.fz a8 (by decide) g (by omega) (fun y _ z => by omega)⟩
  · rw [c _ (by omega)]; exact a1
  · rw [c _ (by omega)]; exact a3
  · rw [(g _ (by omega)).1]; exact a4
  · rw [c _ (by omega)]; exact a5
  · rw [c _ (by omega)]; exact a7
def Ft (i : Int) : Int := if i = 1 then 0 else i + 2
def Kt (i : Int) : Int := if i = 1 then 11 else if i = 2 then 12 else if i = 3 then 18 else i + 10
def Lt (i : Int) : Int := if i = 1 then 600 else if i = 2 then 4 else 2
theorem Ft_ne {i fd : Int} (h1 : 1 ≤ i) (h : (fd ≤ 3 ∧ 1 ≤ fd) ∨ (4 ≤ fd ∧ i + 2 < fd)) : Ft i ≠ fd := by
  unfold Ft; split <;> omega
theorem FZ.none {n : Int} {P : Int → Int → Prop} (h : ∀ x, x < n → N.2.1 x = M.2.1 x ∧ N.2.2.1 x = M.2.2.1 x ∧ ∀ y, N.1 x y = M.1 x y) : FZ M N n P := fun x hx => ⟨(h x hx).1, (h x hx).2.1, fun y _ => (h x hx).2.2 y⟩
theorem k7 (S : Mem) (kd m : Int) : (mnew S kd m).2.1 (S.2.2.2 : Int) = kd := by rw [mnw_k, if_pos rfl]
theorem TT.mkTown {ρ : Type} {Q : ρ → Prop} {g : Mem → Option ρ} {S : Mem} {b i : Int} (hH : HdS S b) (b0 : 0 ≤ b) (hn : b + 7 ≤ (S.2.2.2 : Int)) (i0 : 0 ≤ i) (ci : i < 2)
    (rest : ∀ S1, St S S1 (S.2.2.2 : Int) b 3 i 8 → HdS S1 b → TownS S1 (S.2.2.2 : Int) → TT (g S1) Q) : TT (if S.2.1 b = 6 then bM (mnew S 7 10) fun M48 => if (0 : Int) ≤ (S.2.2.2 : Int) then (fX7_init M48 (S.2.2.2 : Int)).bind fun r51 => if r51.2.1 (S.2.2.2 : Int) = 7 then if r51.2.1 (S.1 b 5) = 18 ∧ (0 : Int) ≤ i ∧ i < r51.2.2.1 (S.1 b 5) then bM (mst r51 (S.1 b 5) i (S.2.2.2 : Int)) g else none else none else none else none) Q := by
  have hH' := hH
  obtain ⟨t0, _, _, ⟨t5, t5k, t5l⟩, _⟩ := hH'
  rw [t5]
  refine TT.guard t0 (TT.sM (TT.guard (by omega) (TT.bind (townInit_T (by omega) (mnw_n S 7 10).symm (k7 S 7 10)) (fun r q => ?_))))
  have e := mnw_n S 7 10
  obtain ⟨g1, g2, _⟩ := q.1.2 (b + 3) (by omega)
  rw [mnw_k, if_neg (by omega)] at g1
  rw [mnw_l, if_neg (by omega)] at g2
  have st : St S (mst r (b + 3) i (S.2.2.2 : Int)) (S.2.2.2 : Int) b 3 i 8 := st_of rfl q.1
  exact TT.guard q.2.1 (TT.guard ⟨by rw [g1]; exact t5k, i0, by rw [g2, t5l]; exact ci⟩ (TT.sM (rest _ st (hH.fz st.1 (by decide) hn) (ObjS.fr q.2 rfl (fun y _ => mst_ne _ _ _ _ _ _ (by omega))))))
theorem TT.mkLaw {ρ : Type} {Q : ρ → Prop} {g : Mem → Option ρ} {S : Mem} {b i : Int} (hH : HdS S b) (b0 : 0 ≤ b) (hn : b + 7 ≤ (S.2.2.2 : Int)) (i0 : 0 ≤ i) (ci : i < 2)
    (rest : ∀ S1, St S S1 (S.2.2.2 : Int) b 4 i 0 → HdS S1 b → S1.2.1 (S.2.2.2 : Int) = 0 → TT (g S1) Q) : TT (if S.2.1 b = 6 then bM (mnew S 0 3) fun M48 => if (0 : Int) ≤ (S.2.2.2 : Int) then (fX0_init M48 (S.2.2.2 : Int)).bind fun r51 => if r51.2.1 (S.2.2.2 : Int) = 0 then if r51.2.1 (S.1 b 6) = 14 ∧ (0 : Int) ≤ i ∧ i < r51.2.2.1 (S.1 b 6) then bM (mst r51 (S.1 b 6) i (S.2.2.2 : Int)) g else none else none else none else none) Q := by
  have hH' := hH
  obtain ⟨t0, _, _, _, ⟨t5, t5k, t5l⟩, _⟩ := hH'
  rw [t5]
  refine TT.guard t0 (TT.sM (TT.guard (by omega) (TT.bind (lawInit_T (by omega) (mnw_n S 0 3).symm (k7 S 0 3)) (fun r q => ?_))))
  have e := mnw_n S 0 3
  obtain ⟨g1, g2, _⟩ := q.1.2 (b + 4) (by omega)
  rw [mnw_k, if_neg (by omega)] at g1
  rw [mnw_l, if_neg (by omega)] at g2
  have st : St S (mst r (b + 4) i (S.2.2.2 : Int)) (S.2.2.2 : Int) b 4 i 0 := st_of rfl q.1
  exact TT.guard q.2 (TT.guard ⟨by rw [g1]; exact t5k, i0, by rw [g2, t5l]; exact ci⟩ (TT.sM (rest _ st (hH.fz st.1 (by decide) hn) (q.2))))
theorem TT.mkNights {ρ : Type} {Q : ρ → Prop} {g : Mem → Option ρ} {S : Mem} {b i : Int} (hH : HdS S b) (b0 : 0 ≤ b) (hn : b + 7 ≤ (S.2.2.2 : Int)) (i0 : 0 ≤ i) (ci : i < 2)
    (rest : ∀ S1, St S S1 (S.2.2.2 : Int) b 5 i 4 → HdS S1 b → NightS S1 (S.2.2.2 : Int) → TT (g S1) Q) : TT (if S.2.1 b = 6 then bM (mnew S 1 5) fun M48 => if (0 : Int) ≤ (S.2.2.2 : Int) then (fX1_init M48 (S.2.2.2 : Int)).bind fun r51 => if r51.2.1 (S.2.2.2 : Int) = 1 then if r51.2.1 (S.1 b 7) = 15 ∧ (0 : Int) ≤ i ∧ i < r51.2.2.1 (S.1 b 7) then bM (mst r51 (S.1 b 7) i (S.2.2.2 : Int)) g else none else none else none else none) Q := by
  have hH' := hH
  obtain ⟨t0, _, _, _, _, ⟨t5, t5k, t5l⟩, _⟩ := hH'
  rw [t5]
  refine TT.guard t0 (TT.sM (TT.guard (by omega) (TT.bind (nightInit_T (by omega) (mnw_n S 1 5).symm (k7 S 1 5)) (fun r q => ?_))))
  have e := mnw_n S 1 5
  obtain ⟨g1, g2, _⟩ := q.1.2 (b + 5) (by omega)
  rw [mnw_k, if_neg (by omega)] at g1
  rw [mnw_l, if_neg (by omega)] at g2
  have st : St S (mst r (b + 5) i (S.2.2.2 : Int)) (S.2.2.2 : Int) b 5 i 4 := st_of rfl q.1
  exact TT.guard q.2.1 (TT.guard ⟨by rw [g1]; exact t5k, i0, by rw [g2, t5l]; exact ci⟩ (TT.sM (rest _ st (hH.fz st.1 (by decide) hn) (ObjS.fr q.2 rfl (fun y _ => mst_ne _ _ _ _ _ _ (by omega))))))
theorem TT.mkSight {ρ : Type} {Q : ρ → Prop} {g : Mem → Option ρ} {S : Mem} {b i : Int} (hH : HdS S b) (b0 : 0 ≤ b) (hn : b + 7 ≤ (S.2.2.2 : Int)) (i0 : 0 ≤ i) (ci : i < 2)
    (rest : ∀ S1, St S S1 (S.2.2.2 : Int) b 6 i 3 → HdS S1 b → SightS S1 (S.2.2.2 : Int) → TT (g S1) Q) : TT (if S.2.1 b = 6 then bM (mnew S 4 4) fun M48 => if (0 : Int) ≤ (S.2.2.2 : Int) then (fX4_init M48 (S.2.2.2 : Int)).bind fun r51 => if r51.2.1 (S.2.2.2 : Int) = 4 then if r51.2.1 (S.1 b 8) = 16 ∧ (0 : Int) ≤ i ∧ i < r51.2.2.1 (S.1 b 8) then bM (mst r51 (S.1 b 8) i (S.2.2.2 : Int)) g else none else none else none else none) Q := by
  have hH' := hH
  obtain ⟨t0, _, _, _, _, _, ⟨t5, t5k, t5l⟩⟩ := hH'
  rw [t5]
  refine TT.guard t0 (TT.sM (TT.guard (by omega) (TT.bind (sightInit_T (by omega) (mnw_n S 4 4).symm (k7 S 4 4)) (fun r q => ?_))))
  have e := mnw_n S 4 4
  obtain ⟨g1, g2, _⟩ := q.1.2 (b + 6) (by omega)
  rw [mnw_k, if_neg (by omega)] at g1
  rw [mnw_l, if_neg (by omega)] at g2
  have st : St S (mst r (b + 6) i (S.2.2.2 : Int)) (S.2.2.2 : Int) b 6 i 3 := st_of rfl q.1
  exact TT.guard q.2.1 (TT.guard ⟨by rw [g1]; exact t5k, i0, by rw [g2, t5l]; exact ci⟩ (TT.sM (rest _ st (hH.fz st.1 (by decide) hn) (ObjS.fr q.2 rfl (fun y _ => mst_ne _ _ _ _ _ _ (by omega))))))
theorem mk_all {s S1 S2 S3 S4 : Mem} {b i m : Int} (hm : m ≤ b + 1) (i0 : 0 ≤ i) (hn : (s.2.2.2 : Int) = b + 7 + 19 * i) (st1 : St s S1 (s.2.2.2 : Int) b 3 i 8) (ob1 : TownS S1 (s.2.2.2 : Int)) (st2 : St S1 S2 (S1.2.2.2 : Int) b 4 i 0) (ob2 : S2.2.1 (S1.2.2.2 : Int) = 0) (st3 : St S2 S3 (S2.2.2.2 : Int) b 5 i 4) (ob3 : NightS S3 (S2.2.2.2 : Int)) (st4 : St S3 S4 (S3.2.2.2 : Int) b 6 i 3) (ob4 : SightS S4 (S3.2.2.2 : Int)) :
    (S4.2.2.2 : Int) = b + 7 + 19 * (i + 1) ∧ FZ s S4 m (fun x _ => x = b) ∧ CpS S4 b i ∧ ∀ j, 0 ≤ j → j < i → CpS s b j → CpS S4 b j := by
  obtain ⟨f1, n1, p1⟩ := st1
  obtain ⟨f2, n2, p2⟩ := st2
  obtain ⟨f3, n3, p3⟩ := st3
  obtain ⟨f4, n4, p4⟩ := st4
  have x3 : (s.2.2.2 : Int) = b + (7 + 19 * i) := by omega
  have x4 : (S1.2.2.2 : Int) = b + (16 + 19 * i) := by omega
  have x5 : (S2.2.2.2 : Int) = b + (17 + 19 * i) := by omega
  have x6 : (S3.2.2.2 : Int) = b + (22 + 19 * i) := by omega
  have x7 : (S4.2.2.2 : Int) = b + 7 + 19 * (i + 1) := by omega
  clear n1 n2 n3 n4 hn
  rw [x3] at f1 p1 ob1
  rw [x4] at f2 p2 ob2
  rw [x5] at f3 p3 ob3
  rw [x6] at f4 p4 ob4
  clear x3 x4 x5 x6
  refine ⟨x7, fun x hx => ?_, ⟨⟨?_, ?_⟩, ⟨?_, ?_⟩, ⟨?_, ?_⟩, p4, ob4⟩, fun j j0 j1 h => ?_⟩
  · obtain ⟨a1, a2, a3⟩ := f1 x (by omega)
    obtain ⟨b1, b2, b3⟩ := f2 x (by omega)
    obtain ⟨c1, c2, c3⟩ := f3 x (by omega)
    obtain ⟨d1, d2, d3⟩ := f4 x (by omega)
    exact ⟨by rw [d1, c1, b1, a1], by rw [d2, c2, b2, a2], fun y _ => by rw [d3 y (by omega), c3 y (by omega), b3 y (by omega), a3 y (by omega)]⟩
  · rw [(f4 _ (by omega)).2.2 _ (by omega), (f3 _ (by omega)).2.2 _ (by omega), (f2 _ (by omega)).2.2 _ (by omega), p1]
  · exact ObjS.fz (ObjS.fz (ObjS.fz ob1 (by decide) f2 (by omega) (fun y _ z => by omega)) (by decide) f3 (by omega) (fun y _ z => by omega)) (by decide) f4 (by omega) (fun y _ z => by omega)
  · rw [(f4 _ (by omega)).2.2 _ (by omega), (f3 _ (by omega)).2.2 _ (by omega), p2]
  · rw [(f4 _ (by omega)).1, (f3 _ (by omega)).1]; exact ob2
  · rw [(f4 _ (by omega)).2.2 _ (by omega), p3]
  · exact ObjS.fz ob3 (by decide) f4 (by omega) (fun y _ z => by omega)
  · exact (((h.fz f1 (by decide) (by decide) j0 (by omega) (by omega)).fz f2 (by decide) (by decide) j0 (by omega) (by omega)).fz f3 (by decide) (by decide) j0 (by omega) (by omega)).fz f4 (by decide) (by decide) j0 (by omega) (by omega)
set_option maxHeartbeats 1000000 in
theorem toldInit_T {b : Int} (b0 : 0 ≤ b) (hb : b + 1 = M.2.2.2) (hk : M.2.1 b = 6) : TT (fX6_init M b) (fun r => (r.2.2.2 : Int) = b + 45 ∧ FZ M r (b + 1) (fun x _ => x = b) ∧ ToldS r b) := by
  unfold fX6_init
  refine TT.guard b0 ?_
  refine TT.al (F := Ft) (K := Kt) (L := Lt) hb hk (by decide) (TI.zero _ _ _ _) rfl rfl rfl (fun i h1 h2 => by omega) (fun N1 h1 => ?_)
  refine TT.sM (TT.sM (TT.sM ?_))
  have h1' : TI M (mst (mst (mst N1 b 1 0) b 2 0) b 3 (-1)) b Ft Kt Lt 1 := ((h1.st (fun i a _ => Ft_ne a (by omega))).st (fun i a _ => Ft_ne a (by omega))).st (fun i a _ => Ft_ne a (by omega))
  generalize mst (mst (mst N1 b 1 0) b 2 0) b 3 (-1) = N1' at *
  refine TT.al hb hk (by decide) h1' rfl rfl rfl (fun i a c => Ft_ne a (by omega)) (fun N2 h2 => ?_)
  refine TT.al hb hk (by decide) h2 rfl rfl rfl (fun i a c => Ft_ne a (by omega)) (fun N3 h3 => ?_)
  refine TT.al hb hk (by decide) h3 rfl rfl rfl (fun i a c => Ft_ne a (by omega)) (fun N4 h4 => ?_)
  refine TT.al hb hk (by decide) h4 rfl rfl rfl (fun i a c => Ft_ne a (by omega)) (fun N5 h5 => ?_)
  refine TT.al hb hk (by decide) h5 rfl rfl rfl (fun i a c => Ft_ne a (by omega)) (fun N6 h6 => ?_)
  have hHd : HdS N6 b := ⟨by rw [(h6.2.1 b (by omega)).1]; exact hk, h6.2.2 1 (by decide) (by decide), h6.2.2 2 (by decide) (by decide), h6.2.2 3 (by decide) (by decide), h6.2.2 4 (by decide) (by decide), h6.2.2 5 (by decide) (by decide), h6.2.2 6 (by decide) (by decide)⟩
  have hcnt : (N6.2.2.2 : Int) = b + 7 := by have := h6.1; omega
  have hlow : FZ M N6 (b + 1) (fun x _ => x = b) := by rw [hb]; exact h6.2.1
  clear h1 h1' h2 h3 h4 h5 h6
  refine TT.iter (fun s : Int × Mem => (0 ≤ s.1 ∧ s.1 ≤ 2) ∧ (s.2.2.2.2 : Int) = b + 7 + 19 * s.1 ∧ FZ M s.2 (b + 1) (fun x _ => x = b) ∧ HdS s.2 b ∧ ∀ j, 0 ≤ j → j < s.1 → CpS s.2 b j) (fun s => (2 - s.1).toNat) ?_ BIG (0, N6) ⟨⟨by dsimp only; omega, by dsimp only; omega⟩, by dsimp only; omega, hlow, hHd, fun j a c => by dsimp only at c; omega⟩ (by unfold BIG; dsimp only; omega)
  clear hHd hcnt hlow
  rintro rec ⟨i, s⟩ ⟨⟨i0, i2⟩, hn, hl, hH, hC⟩ hr
  simp only at i0 i2 hn hl hH hC ⊢
  refine TT.ite (fun ci => ?_) (fun ci => TT.ok ⟨by omega, hl, hH, fun j a c => hC j a (by omega)⟩)
  have hwi := wi i0 ci
  refine TT.mkTown hH b0 (by omega) i0 ci (fun S1 st1 H1 ob1 => ?_)
  refine TT.mkLaw H1 b0 (by have := st1.2.1; omega) i0 ci (fun S2 st2 H2 ob2 => ?_)
  refine TT.mkNights H2 b0 (by have := st1.2.1; have := st2.2.1; omega) i0 ci (fun S3 st3 H3 ob3 => ?_)
  refine TT.mkSight H3 b0 (by have := st1.2.1; have := st2.2.1; have := st3.2.1; omega) i0 ci (fun S4 st4 H4 ob4 => ?_)
  obtain ⟨m1, m2, m3, m4⟩ := mk_all (Int.le_refl (b + 1)) i0 hn st1 ob1 st2 ob2 st3 ob3 st4 ob4
  refine hr (w32 (i + 1), S4) ⟨hwi.2.1, ?_, hl.trans m2 (Int.le_refl _), H4, fun j j0 j1 => ?_⟩ hwi.2.2.1
  · show (S4.2.2.2 : Int) = b + 7 + 19 * w32 (i + 1)
    rw [hwi.1]; exact m1
  · have j1' : j < w32 (i + 1) := j1
    rw [hwi.1] at j1'
    show CpS S4 b j
    by_cases c : j = i
    · rw [c]; exact m3
    · exact m4 j j0 (by omega) (hC j j0 (by omega))
end Image
