/-! hands: the gifts of a walk; hands -/
section Hands3
variable {O P A B M N : Mem} {D L S E : Int → Int} {a l k q n sa kn : Int}
/-- gifts are told of thieves of the town alone -/
def GVd (D : Int → Int) (c : Int) (A : Mem) : Prop := ∀ y, 0 ≤ y → y < 120 → (0 ≤ A.1 72 y ∧ A.1 72 y ≤ c) ∧ (30 * D 1 ≤ y → A.1 72 y = 0)
theorem GVd.same {c c' : Int} (h : GVd D c A) (hc : c ≤ c') (e : ∀ j, N.1 72 j = A.1 72 j) : GVd D c' N := fun y y0 y1 => by
  have := h y y0 y1
  rw [e y]
  exact ⟨⟨this.1.1, by omega⟩, this.2⟩
theorem GVd.give {c t h g : Int} (b : GVd D c A) (bd : DBd D) (c0 : 0 ≤ c) (c1 : c ≤ 1000) (p : gvP A D t h g) : GVd D (c + 1) (gvC A D L t h g) := fun y y0 y1 => by
  obtain ⟨⟨⟨t0, t1⟩, _⟩, ⟨h0, h1⟩, ⟨g0, g1⟩, _⟩ := p
  have b0 := bd.1
  have o := b y y0 y1
  have e72 : (gvC A D L t h g).1 72 y = if y = 30 * t + 5 * h + g then w32 (A.1 72 (30 * t + 5 * h + g) + 1) else A.1 72 y := by
    show (mst _ 72 (30 * t + 5 * h + g) _).1 72 y = _
    by_cases e : y = 30 * t + 5 * h + g
    · rw [if_pos e, e, mst_at]; rfl
    · rw [if_neg e, mst_nf _ _ _ _ _ _ e]; rfl
  rw [e72]
  by_cases e : y = 30 * t + 5 * h + g
  · rw [if_pos e, ← e, w32_of (by omega) (by omega)]
    refine ⟨by omega, fun z => ?_⟩
    exfalso
    omega
  · rw [if_neg e]
    exact ⟨⟨o.1.1, by omega⟩, o.2⟩
set_option maxHeartbeats 1000000 in
theorem CW.ends_72 (c : CW O A a l D L) : PC (fX9_nightEnds A 68) (fun r => ∀ y, r.1 72 y = A.1 72 y) := by
  unfold fX9_nightEnds
  refine PC.iter (fun s => CW O s.2 a l D L ∧ (∀ y, s.2.1 72 y = A.1 72 y)) ?_ _ _ ⟨c, fun _ => rfl⟩
  clear c
  rintro rec ⟨i, B⟩ ⟨c, f⟩ hrec
  simp only at c f ⊢
  have hT := c.1.1
  rw [wp68_8 hT, wp68_10 hT]
  generalize hv : w32 (B.1 75 i + B.1 77 i) = v
  refine PC.guard (fun _ => PC.guard (fun _ => PC.ite (fun _ => PC.guard (fun _ => PC.guard (fun _ => PC.guard (fun _ => PC.sM ?_)))) (fun _ => PC.sM (PC.ok (fun y => by rw [mst_ne _ _ _ _ _ _ (by decide)]; exact f y)))))
  have c2 : CW O (mst B 75 i v) a l D L := c.st (by decide)
  have f2 : ∀ y, (mst B 75 i v).1 72 y = A.1 72 y := fun y => by rw [mst_ne _ _ _ _ _ _ (by decide)]; exact f y
  generalize mst B 75 i v = C at *
  refine PC.guard (fun _ => PC.guard (fun _ => PC.join (fun t => CW O t a l D L ∧ (∀ y, t.1 72 y = A.1 72 y)) (fun t ⟨ct, ft⟩ => ?_) (fun j hj => PC.ite (fun _ => hj _ ⟨c2, f2⟩) (fun _ => PC.sM (hj _ ⟨c2.stF (by decide), fun y => by rw [mst_ne _ _ _ _ _ _ (by decide)]; exact f2 y⟩)))))
  rw [wp68_10 ct.1.1]
  refine PC.guard (fun _ => PC.guard (fun _ => PC.sM ?_))
  have c3 : CW O (mst t 77 i 0) a l D L := ct.st (by decide)
  rw [wp68_9 c3.1.1]
  refine PC.guard (fun _ => PC.sM (hrec _ ⟨c3.st (by decide), fun y => by (try dsimp only); rw [mst_ne _ _ _ _ _ _ (by decide), mst_ne _ _ _ _ _ _ (by decide)]; exact ft y⟩))
theorem GVd.act {c : Int} (b : GVd D c A) (cw : CW A A a l D L) (lb : LBd L) (c0 : 0 ≤ c) (c1 : c ≤ 1000) {k : Int} : PC (fX9_act A 68 n k) (fun r => (r.1 = 0 → GVd D c r.2) ∧ GVd D (c + 1) r.2) := by
  have bd := cw.1.bd
  have up : GVd D (c + 1) A := b.same (by omega) (fun _ => rfl)
  unfold fX9_act
  refine PC.guard (fun _ => PC.guard (fun _ => PC.guard (fun _ => PC.guard (fun _ => PC.guard (fun _ => ?_)))))
  refine PC.ite (fun _ => PC.guard (fun _ => PC.bind (cw.take _ _ _) (fun r hr => PC.guard (fun _ => PC.ok ?_)))) (fun _ => PC.ite (fun _ => PC.guard (fun _ => PC.bind (cw.give _ _ _) (fun r hr => PC.guard (fun _ => PC.ok ?_)))) (fun _ => PC.ite (fun _ => PC.guard (fun _ => PC.bind (cw.set lb _ _ _) (fun r hr => PC.guard (fun _ => PC.ok ?_)))) (fun _ => PC.guard (fun _ => PC.bind cw.ends_72 (fun r hr => PC.ok ⟨fun z => absurd z (by (try dsimp only); decide), b.same (by omega) hr⟩)))))
  · rcases hr with ⟨hr, _⟩ | ⟨hr, _⟩ <;> rw [hr]
    · exact ⟨fun _ => b, up⟩
    · exact ⟨fun z => absurd z (by (try dsimp only); decide), b.same (by omega) (fun _ => rfl)⟩
  · rcases hr with ⟨hr, _⟩ | ⟨hr, p⟩ <;> rw [hr]
    · exact ⟨fun _ => b, up⟩
    · exact ⟨fun z => absurd z (by (try dsimp only); decide), b.give bd c0 c1 p⟩
  · rcases hr with ⟨hr, _⟩ | ⟨hr, s⟩ <;> rw [hr]
    · exact ⟨fun _ => b, up⟩
    · exact ⟨fun z => absurd z (by (try dsimp only); decide), b.same (by omega) (fun _ => rfl)⟩
/-- of a walk of the class, by its own town -/
def GV (A : Mem) : Prop := ∀ y, 0 ≤ y → y < 120 → (0 ≤ A.1 72 y ∧ A.1 72 y ≤ 500) ∧ (30 * A.1 (A.1 68 0) 1 ≤ y → A.1 72 y = 0)
theorem GVd.to {c : Int} (b : GVd D c A) (c1 : c ≤ 500) (cw : CW A A a l D L) : GV A := fun y y0 y1 => by
  have := b y y0 y1
  rw [cw.2.2.1, cw.1.2.2.1.2]
  exact ⟨⟨this.1.1, by omega⟩, this.2⟩
theorem fol_G {m : Int} (c : CW A A a l D L) (lb : LBd L) (hn : NTA n) (z : A.1 68 15 = 0) (b : GVd D 0 A) : PC (fX9_follow A 68 n m) GV := by
  have hT := c.1.1
  have h40 := nd0_ hT hn
  unfold fX9_follow
  refine PC.guard (fun _ => PC.iter (fun s => CW s s a l D L ∧ (0 ≤ s.1 68 15 ∧ s.1 68 15 ≤ 40) ∧ GVd D (s.1 68 15) s) ?_ _ _ ⟨c, by rw [z]; decide, by rw [z]; exact b⟩)
  rintro rec s ⟨cs, s15, bs'⟩ hrec
  refine PC.guard (fun _ => PC.ite (fun cc => ?_) (fun cc => PC.ok (bs'.to (by omega) cs)))
  have c' : s.1 68 15 < A.1 n 0 := by unfold imin at cc; split at cc <;> omega
  refine PC.bind (PC.and (bs'.act cs lb s15.1 (by omega)) (PC.of (act_T cs.1.1 (by rw [cs.2.2.1]; exact cs.1.2.1) (by rw [cs.2.2.2.1]; exact cs.2.1.2.1) hn (s.1 68 15) ⟨s15.1, by omega⟩))) (fun r q => ?_)
  obtain ⟨⟨q1, q2⟩, _, w1, w2, w3, w4⟩ := q
  have cr : CW r.2 r.2 a l D L := ⟨cs.1.keep w1, cs.2.1.keep w1, w2.trans cs.2.2.1, w3.trans cs.2.2.2.1, Keep.self, rfl⟩
  refine PC.ite (fun e => PC.ok ((q1 e).to (by omega) cr)) (fun _ => PC.guard (fun _ => PC.sM (hrec _ ⟨cr.st15 _, ?_, ?_⟩)))
  · rw [mst_at, w4, w32_of (by omega) (by omega)]; omega
  · rw [mst_at, w4, w32_of (by omega) (by omega)]
    exact q2.same (Int.le_refl _) (fun j => mst_ne _ _ _ _ _ _ (by decide))
theorem walkTo_G (h : INV3 M) (t l n m : Int) : PC (fX10_walkTo M 0 t l n m) (fun r => r.1 = 0 ∨ GV r.2) := by
  have hT := h.1.1.1
  have hc := cn_ hT (i := 2) (by decide) (by decide)
  unfold fX10_walkTo
  rw [wp0_0 hT, townAt_V hT, lawAt_V hT, nightsAt_V hT, wp0_3 hT, bd1, bd1, bd1]
  refine PC.guard (fun _ => PC.guard (fun _ => PC.ite (fun _ => PC.ok (Or.inl rfl)) (fun n1 => PC.ite (fun _ => PC.ok (Or.inl rfl)) (fun n2 => PC.ite (fun _ => PC.ok (Or.inl rfl)) (fun n3 => PC.guard (fun _ => ?_))))))
  by_cases ct : 0 ≤ t ∧ t < M.1 3 0
  rotate_left
  · exact absurd (if_neg ct) n1
  by_cases cl : 0 ≤ l ∧ l < M.1 3 1
  rotate_left
  · exact absurd (if_neg cl) n2
  by_cases cn : 0 ≤ n ∧ n < M.1 3 2
  rotate_left
  · exact absurd (if_neg cn) n3
  rw [if_pos ct, if_pos cl, if_pos cn]
  obtain ⟨tl, lb⟩ := lawV_L h.1 cl.1 cl.2
  have tt := townV_D h.1 ct.1 ct.2
  have hn : NTA (18 + 19 * n) := by
    rcases (show n = 0 ∨ n = 1 by omega) with e | e
    · exact Or.inl (by omega)
    · exact Or.inr (by omega)
  refine PC.bind (PC.and (begin_V tt tl) (PC.of (begin_T hT tt.2.1 tl.2.1))) (fun A0 z => ?_)
  obtain ⟨zx, g1, g2, g3, g4⟩ := z
  have cA : CW A0 A0 (8 + 19 * t) (17 + 19 * l) (fun y => M.1 91 (92 * t + y)) (fun y => M.1 92 (3 * l + y)) := ⟨tt.keep g1, tl.keep g1, g2, g3, Keep.self, rfl⟩
  rw [wp0_3 (hT.keep g1)]
  refine PC.guard (fun _ => PC.guard (fun _ => PC.bind (fol_G cA lb hn g4 (fun j j0 j1 => ?_)) (fun r hr => PC.ok (Or.inr hr))))
  have y := (zx.2.2.1 j j0 j1).2
  rw [y]
  exact ⟨⟨by decide, by decide⟩, fun _ => rfl⟩
/-- what the reference answers behind its play -/
theorem RV.count (v : RV B k S n) {d x : Int} (hd26 : B.1 85 26 = d) (d0 : 0 ≤ d) (d4 : d ≤ 4) (h0 : ∀ c t : Int, 0 ≤ c → c < 30 → 0 ≤ t → t < 4 → 0 ≤ cpB B c t) (hz : ∀ c t : Int, 0 ≤ c → c < 30 → d ≤ t → t < 4 → cpB B c t = 0) (hx : x = -1 ∨ (0 ≤ x ∧ x < n)) : PC (iterC (fun (rec18 : (Int × Int) → Option (Int × Mem)) (s19 : Int × Int) => if B.2.1 85 = 10 then (fX11_gifts B 85).bind fun r20 => if s19.2 < bShl 1 (w32 (2 * r20)) then ((fX11_canBe B 85 s19.2).bind fun r24 => if r24 = 0 then (rec18 (w32 (s19.1 + 0), w32 (s19.2 + 1))) else (rec18 (w32 (s19.1 + 1), w32 (s19.2 + 1)))) else (if x = (-1) then (some (s19.1, B)) else (if s19.1 = 0 then (some (s19.1, B)) else (iterC (fun (rec29 : (Int × Int) → Option (Int × Mem)) (s30 : Int × Int) => if s30.2 < B.1 85 26 then ((fX11_giftOf B 85 x 0).bind fun r32 => (fX11_giftOf B 85 x 1).bind fun r34 => (fX11_place B s30.2 r32 r34).bind fun r36 => if B.2.1 (B.1 85 32) = 12 ∧ (0 : Int) ≤ r36 ∧ r36 < B.2.2.1 (B.1 85 32) then if 0 < B.1 (B.1 85 32) r36 then (rec29 (bOr s30.1 (bShl 1 s30.2), w32 (s30.2 + 1))) else (rec29 (bOr s30.1 0, w32 (s30.2 + 1))) else none) else (some (s30.1, B))) BIG (0, 0)))) else none) BIG (0, 0)) (fun u => u.1 = if x = -1 then sn (fun i => ok1 (clS S) (cpB B) n.toNat i) (4 ^ n.toNat) else if sn (fun i => ok1 (clS S) (cpB B) n.toNat i) (4 ^ n.toNat) = 0 then 0 else btF (fun t => cpB B (clS S x.toNat) t) d.toNat) := by
  have hT := v.1
  have g := v.2.2.2.2.2
  have n8 := g.1
  have sh := shl4 ⟨n.toNat, by omega⟩
  have sh1 : bShl 1 (2 * n) = ((4 ^ n.toNat : Nat) : Int) := by
    have := sh.1
    rw [show (((⟨n.toNat, by omega⟩ : Fin 9).val : Nat) : Int) = n by show ((n.toNat : Nat) : Int) = n; omega] at this
    exact this
  have sh2 : 4 ^ n.toNat ≤ 65536 := sh.2
  rw [v.gifts, hd26, wp85_32 hT]
  generalize 4 ^ n.toNat = q at *
  refine PC.iter (fun s => (0 ≤ s.2 ∧ s.2 ≤ (q : Int)) ∧ (0 ≤ s.1 ∧ s.1 ≤ s.2) ∧ s.1 = sn (fun i => ok1 (clS S) (cpB B) n.toNat i) s.2.toNat) ?_ _ _ ⟨⟨by (try dsimp only); omega, by (try dsimp only); omega⟩, ⟨by (try dsimp only); omega, by (try dsimp only); omega⟩, rfl⟩
  rintro rec ⟨c, r⟩ ⟨⟨r0, r1⟩, ⟨c0, c1⟩, hc⟩ hrec
  simp only at r0 r1 c0 c1 hc ⊢
  obtain ⟨ρ, rfl⟩ : ∃ ρ : Nat, r = (ρ : Int) := ⟨r.toNat, by omega⟩
  rw [show ((ρ : Int)).toNat = ρ by omega] at hc
  refine PC.guard (fun _ => PC.bindE rfl ?_)
  rw [w32_of (x := 2 * n) (by omega) (by omega), sh1]
  refine PC.ite (fun z => ?_) (fun z => ?_)
  · have et : ((ρ : Int) + 1).toNat = ρ + 1 := by omega
    have st : sn (fun i => ok1 (clS S) (cpB B) n.toNat i) (ρ + 1) = sn (fun i => ok1 (clS S) (cpB B) n.toNat i) ρ + ok1 (clS S) (cpB B) n.toNat ρ := rfl
    rw [w32_of (x := (ρ : Int) + 1) (by omega) (by omega), w32_of (x := c + 0) (by omega) (by omega), w32_of (x := c + 1) (by omega) (by omega)]
    refine PC.bind (v.canBe hd26 h0 hz (row := ρ) (by omega)) (fun b hb => ?_)
    have ob := ok1_bd (cl := clS S) (cp := cpB B) (s := n.toNat) (row := ρ)
    refine PC.ite (fun y => hrec _ ⟨⟨by (try dsimp only); omega, by (try dsimp only); omega⟩, ⟨by (try dsimp only); omega, by (try dsimp only); omega⟩, ?_⟩) (fun y => hrec _ ⟨⟨by (try dsimp only); omega, by (try dsimp only); omega⟩, ⟨by (try dsimp only); omega, by (try dsimp only); omega⟩, ?_⟩)
    · (try dsimp only)
      rw [et, st, ← hb, y, hc]
    · (try dsimp only)
      rw [et, st, ← hb, show b = 1 by omega, hc]
  have er : ρ = q := by omega
  subst er
  rw [← hc]
  refine PC.ite (fun e => PC.ok (by rw [if_pos e])) (fun e => PC.ite (fun y => PC.ok (by rw [if_neg e, if_pos y]; exact y)) (fun y => ?_))
  rw [if_neg e, if_neg y]
  have hx := hx.resolve_left e
  obtain ⟨ξ, rfl⟩ : ∃ ξ : Nat, x = (ξ : Int) := ⟨x.toNat, by omega⟩
  rw [show ((ξ : Int)).toNat = ξ by omega, v.gift0 hx.2, v.gift1 hx.2]
  have gb := g.2 (ξ : Int) (by omega) hx.2
  refine PC.iter (fun u => (0 ≤ u.2 ∧ u.2 ≤ d) ∧ u.1 = btF (fun t => cpB B (clS S ξ) t) u.2.toNat) ?_ _ _ ⟨⟨by (try dsimp only); omega, by (try dsimp only); omega⟩, rfl⟩
  rintro rec2 ⟨m, t⟩ ⟨⟨t0, t1⟩, hm⟩ hrec2
  simp only at t0 t1 hm ⊢
  obtain ⟨ν, rfl⟩ : ∃ ν : Nat, t = (ν : Int) := ⟨t.toNat, by omega⟩
  rw [show ((ν : Int)).toNat = ν by omega] at hm
  have et : ((ν : Int) + 1).toNat = ν + 1 := by omega
  rw [w32_of (x := (ν : Int) + 1) (by omega) (by omega)]
  refine PC.ite (fun ct => PC.bindE rfl (PC.bindE rfl ?_)) (fun ct => PC.ok (by rw [hm, show ν = d.toNat by omega]))
  rw [plV (by omega) (by omega) gb.1.1 (by omega) gb.2.1 (by omega)]
  have ec : B.1 100 (30 * (ν : Int) + 5 * S (1 + 2 * (ξ : Int)) + S (2 + 2 * (ξ : Int))) = cpB B (clS S ξ) (ν : Int) := by
    unfold cpB clS
    rw [show 30 * (ν : Int) + (5 * S (1 + 2 * (ξ : Int)) + S (2 + 2 * (ξ : Int))) = 30 * (ν : Int) + 5 * S (1 + 2 * (ξ : Int)) + S (2 + 2 * (ξ : Int)) by omega]
  refine PC.bindE rfl (PC.guard (fun _ => ?_))
  rw [ec]
  refine PC.ite (fun y => hrec2 _ ⟨⟨by (try dsimp only); omega, by (try dsimp only); omega⟩, ?_⟩) (fun y => hrec2 _ ⟨⟨by (try dsimp only); omega, by (try dsimp only); omega⟩, ?_⟩)
  · (try dsimp only)
    rw [et, btF_s, if_pos y, hm]
  · (try dsimp only)
    rw [et, btF_s, if_neg y, hm]
theorem sn_01 {f : Nat → Int} (h : ∀ i, 0 ≤ f i ∧ f i ≤ 1) : ∀ m : Nat, 0 ≤ sn f m ∧ sn f m ≤ (m : Int)
  | 0 => ⟨Int.le_refl _, Int.le_refl _⟩
  | m + 1 => by
    have a := sn_01 h m
    have b := h m
    show 0 ≤ sn f m + f m ∧ sn f m + f m ≤ ((m + 1 : Nat) : Int)
    omega
theorem RR.joinr {ρ σ τ : Type} {X : Option ρ} {Q : ρ → σ → Prop} {kk : τ → Option σ} {body : (τ → Option σ) → Option σ} (t0 : τ) (hk : RR X (kk t0) Q) (h : ∀ j : τ → Option σ, RR X (j t0) Q → RR X (body j) Q) : RR X (jn kk body) Q := h kk hk
set_option maxHeartbeats 2000000 in
theorem hands_E (h : INV3 M) (t l nn s x : Int) : TT (fX10_hands M 0 t l nn s x) (fun r => Keep M r.2 ∧ TT (fX11_hands r.2 85 t l nn s x) (fun u => r.1 = u.1 ∧ Keep r.2 u.2)) := by
  have hT := h.1.1.1
  refine TT.rrm (P := fun r => Keep M r.2) (Q := fun N u => Keep N u.2) (Y := fun N => fX11_hands N 85 t l nn s x) (handsX_T hT t l nn s x) (fun N hN => by obtain ⟨i, kN⟩ := hN; have kN : Keep M N := kN; exact handsY_T (hT.keep kN) t l nn s x) (fun N hN => ?_)
  obtain ⟨_, kN⟩ := hN
  have kN : Keep M N := kN
  have k0 : Keep M (mst N 85 0 0) := kN.st rfl
  have e90 : (mst N 85 0 0).1 90 3 = M.1 3 3 := by rw [keep_lo k0 _ (Or.inr (by decide))]; exact cnt90 h.1 (by decide) (by decide)
  unfold fX10_hands fX11_hands
  rw [wp0_0 hT, sightAt_V hT, bd1]
  refine RR.gl (fun _ => RR.gl (fun _ => RR.gr (fun _ => RR.mr ?_)))
  rw [hasSight_V (hT.keep k0), e90]
  by_cases cs : 0 ≤ s ∧ s < M.1 3 3
  rotate_left
  · rw [if_neg cs, if_neg cs]
    exact RR.br (PC.ok (Q := fun v => v.1 = 0) rfl) (fun v hv => RR.posr hv (RR.posl rfl (RR.ok rfl)))
  rw [if_pos cs, if_pos cs]
  obtain ⟨⟨e0, l0⟩, e1, e2⟩ := sightV_D h.1 cs.1 cs.2
  have hc3 := cn_ hT (i := 3) (by decide) (by decide)
  have hs01 : s = 0 ∨ s = 1 := by omega
  have ha : SGA (23 + 19 * s) := SGA.of (by omega)
  have g0 := gd0_ hT ha
  refine RR.br (PC.ok (Q := fun v => v = (1, mst (mst N 85 0 0) 85 48 s)) rfl) (fun v hv => ?_)
  rw [hv]
  have e48 : (mst (mst N 85 0 0) 85 48 s).1 85 48 = s := mst_at _ _ _ _
  have e00 : (mst (mst N 85 0 0) 85 48 s).1 85 0 = 0 := by rw [mst_nf _ _ _ _ _ _ (by decide), mst_at]
  have k1 : Keep M (mst (mst N 85 0 0) 85 48 s) := k0.st rfl
  generalize mst (mst N 85 0 0) 85 48 s = N1 at *
  have eN : mst N1 85 0 0 = N1 := by
    refine Prod.ext (funext fun a => funext fun b => ?_) rfl
    show (if a = 85 ∧ b = 0 then 0 else N1.1 a b) = N1.1 a b
    by_cases z : a = 85 ∧ b = 0
    · rw [if_pos z, z.1, z.2, e00]
    · rw [if_neg z]
  have hT1 := hT.keep k1
  refine RR.negl (by omega) (RR.negr n10 ?_)
  -- the sight, as it is told
  generalize hS : (fun y => M.1 94 (47 * s + y)) = S at *
  have eS : ∀ y, M.1 94 (47 * s + y) = S y := fun y => by rw [← hS]
  have eS0 : M.1 94 (47 * s) = S 0 := by rw [← eS 0, Int.add_zero]
  rw [eS0] at e0 l0
  have gt : SGt S (S 0) := by
    refine ⟨by rw [← e0]; exact g0, fun y y0 y1 => ?_⟩
    have q := e1 y y0 (by rw [eS0]; exact y1)
    rw [eS, eS] at q
    have a1 := gd1_ hT ha (i := y) y0 (by omega)
    have a2 := gd2_ hT ha (i := y) y0 (by omega)
    rw [← q.1, ← q.2]
    exact ⟨a1, a2⟩
  have sv : SV M (23 + 19 * s) S (S 0) := ⟨hT, ha, e0, fun y y0 y1 => by
    have q := e1 y y0 (by rw [eS0]; exact y1)
    rw [eS, eS] at q
    exact q, gt⟩
  rw [e0]
  have rvk : ∀ B', Keep N1 B' → B'.1 85 48 = N1.1 85 48 → RV B' s S (S 0) := fun B' kb eb => ⟨hT1.keep kb, hs01, eb.trans e48, fun y y0 y1 => by rw [keep_lo (k1.trans kb) _ (Or.inr (by decide))]; exact eS y, rfl, gt⟩
  have svk : ∀ A', Keep M A' → SV A' (23 + 19 * s) S (S 0) := fun A' ka => by
    have a47 : 23 + 19 * s + 2 < 47 := by omega
    exact ⟨hT.keep ka, ha, by rw [keep_lo ka _ (Or.inl (by omega))]; exact e0, fun y y0 y1 => by rw [keep_lo ka _ (Or.inl (by omega)), keep_lo ka _ (Or.inl (by omega))]; exact sv.2.2.2.1 y y0 y1, gt⟩
  by_cases cx : x = -1 ∨ (0 ≤ x ∧ x < S 0)
  rotate_left
  · have hy : PC (if N1.2.1 85 = 10 then (fX11_layAll N1 85 t l nn).bind fun r7 => if r7.1 = 0 then (some ((-1), r7.2)) else (jn (fun (t12 : Unit) => if r7.2.2.1 85 = 10 then (fX11_deeds r7.2 85).bind fun r13 => (fX11_play r7.2 85 r13).bind fun r16 => iterC (fun (rec18 : (Int × Int) → Option (Int × Mem)) (s19 : Int × Int) => if r16.2.2.1 85 = 10 then (fX11_gifts r16.2 85).bind fun r20 => if s19.2 < bShl 1 (w32 (2 * r20)) then ((fX11_canBe r16.2 85 s19.2).bind fun r24 => if r24 = 0 then (rec18 (w32 (s19.1 + 0), w32 (s19.2 + 1))) else (rec18 (w32 (s19.1 + 1), w32 (s19.2 + 1)))) else (if x = (-1) then (some (s19.1, r16.2)) else (if s19.1 = 0 then (some (s19.1, r16.2)) else (iterC (fun (rec29 : (Int × Int) → Option (Int × Mem)) (s30 : Int × Int) => if s30.2 < r16.2.1 85 26 then ((fX11_giftOf r16.2 85 x 0).bind fun r32 => (fX11_giftOf r16.2 85 x 1).bind fun r34 => (fX11_place r16.2 s30.2 r32 r34).bind fun r36 => if r16.2.2.1 (r16.2.1 85 32) = 12 ∧ (0 : Int) ≤ r36 ∧ r36 < r16.2.2.2.1 (r16.2.1 85 32) then if 0 < r16.2.1 (r16.2.1 85 32) r36 then (rec29 (bOr s30.1 (bShl 1 s30.2), w32 (s30.2 + 1))) else (rec29 (bOr s30.1 0, w32 (s30.2 + 1))) else none) else (some (s30.1, r16.2))) BIG (0, 0)))) else none) BIG (0, 0) else none) (fun (j11 : Unit → Option (Int × Mem)) => if x = (-1) then (j11 ()) else (if r7.2.2.1 85 = 10 then (fX11_gifts r7.2 85).bind fun r41 => (fX11_in r7.2 x 0 (w32 (r41 - 1))).bind fun r44 => if r44 = 0 then (some ((-1), r7.2)) else (j11 ()) else none))) else none) (fun u => u.1 = -1) := by
      refine PC.guard (fun _ => PC.bind (PC.of (layAllR_T hT1 t l nn)) (fun r7 q7 => PC.ite (fun _ => PC.ok rfl) (fun c7 => PC.jI (PC.neg (fun e => cx (Or.inl e)) (PC.guard (fun _ => ?_))))))
      have rv := rvk r7.2 q7.2.1.1 q7.2.1.2
      rw [rv.gifts]
      refine PC.bindE rfl ?_
      rw [w32_of (x := S 0 - 1) (by omega) (by omega), in_v2, if_neg (show ¬(0 ≤ x ∧ x ≤ S 0 - 1) by omega)]
      exact PC.bindE rfl (PC.pos rfl (PC.ok rfl))
    by_cases c1 : x < -1
    · exact RR.posl c1 (RR.okp (PC.ok (Q := fun v => v = (-1, M)) rfl) hy (fun r u p p' => by rw [p, p']))
    · exact RR.negl c1 (RR.gl (fun _ => RR.negl (by omega) (RR.okp (PC.ok (Q := fun v => v = (-1, M)) rfl) hy (fun r u p p' => by rw [p, p']))))
  refine RR.negl (by omega) (RR.gl (fun _ => RR.posl (by omega) (RR.gr (fun _ => ?_))))
  have wq := walk_Q h k1 t l nn 40
  rw [eN] at wq
  refine RR.bb (RR.all wq (PC.and (walkTo_G h t l nn 40) (PC.of (walkTo_T hT t l nn 40))) (PC.of (layAllR_T hT1 t l nn))) (fun r u p => ?_)
  obtain ⟨⟨pg, pt⟩, pl, pw⟩ := p
  rcases pw with ⟨p1, p2⟩ | ⟨⟨p1, p2⟩, a, lw, nd, D, L, E, ⟨hd, hE⟩, ⟨hw, _⟩, hp⟩
  · exact RR.posl p1 (RR.posr p2 (RR.ok rfl))
  have u0 : u.1 ≠ 0 := by rw [p2]; decide
  refine RR.negl (by rw [p1]; decide) (RR.negr u0 ?_)
  have gv : GV r.2 := pg.resolve_left (by rw [p1]; decide)
  obtain ⟨hRu, hQu, hNu⟩ := pl.2.2 u0
  have i40 : imin 40 (E 0) = E 0 := by unfold imin; split <;> omega
  rw [i40] at hp
  have svA := svk r.2 pt.2.1
  have rvu := rvk u.2 pl.2.1.1 pl.2.1.2
  have hTu := hT1.keep pl.2.1.1
  have main : RR (if x = (-1) then (if r.2.2.1 0 = 9 then if r.2.2.1 (23 + 19 * s) = 4 then (fX4_ways r.2 (23 + 19 * s) (r.2.1 0 3)).bind fun r14 => some (r14, r.2) else none else none) else (if r.2.2.1 0 = 9 then if r.2.2.1 (23 + 19 * s) = 4 then (fX4_mayBe r.2 (23 + 19 * s) (r.2.1 0 3) x).bind fun r18 => some (r18, r.2) else none else none)) (if u.2.2.1 85 = 10 then (fX11_deeds u.2 85).bind fun r13 => (fX11_play u.2 85 r13).bind fun r16 => iterC (fun (rec18 : (Int × Int) → Option (Int × Mem)) (s19 : Int × Int) => if r16.2.2.1 85 = 10 then (fX11_gifts r16.2 85).bind fun r20 => if s19.2 < bShl 1 (w32 (2 * r20)) then ((fX11_canBe r16.2 85 s19.2).bind fun r24 => if r24 = 0 then (rec18 (w32 (s19.1 + 0), w32 (s19.2 + 1))) else (rec18 (w32 (s19.1 + 1), w32 (s19.2 + 1)))) else (if x = (-1) then (some (s19.1, r16.2)) else (if s19.1 = 0 then (some (s19.1, r16.2)) else (iterC (fun (rec29 : (Int × Int) → Option (Int × Mem)) (s30 : Int × Int) => if s30.2 < r16.2.1 85 26 then ((fX11_giftOf r16.2 85 x 0).bind fun r32 => (fX11_giftOf r16.2 85 x 1).bind fun r34 => (fX11_place r16.2 s30.2 r32 r34).bind fun r36 => if r16.2.2.1 (r16.2.1 85 32) = 12 ∧ (0 : Int) ≤ r36 ∧ r36 < r16.2.2.2.1 (r16.2.1 85 32) then if 0 < r16.2.1 (r16.2.1 85 32) r36 then (rec29 (bOr s30.1 (bShl 1 s30.2), w32 (s30.2 + 1))) else (rec29 (bOr s30.1 0, w32 (s30.2 + 1))) else none) else (some (s30.1, r16.2))) BIG (0, 0)))) else none) BIG (0, 0) else none) (fun r u => r.1 = u.1) := by
    refine RR.gr (fun _ => ?_)
    rw [hd]
    refine RR.br (P := fun v => v = E 0) (PC.ok rfl) (fun v hv => ?_)
    rw [hv]
    refine RR.br (PC.and hp (PC.of (playR_T hTu hRu hQu hNu (E 0) hE.2))) (fun b hb => ?_)
    obtain ⟨⟨_, wb, _⟩, _, rk⟩ := hb
    obtain ⟨c, e, ⟨bd, lb⟩, _, _, _, r72, _⟩ := wb
    have b1 := bd.2.1
    have rvb := rvk b.2 (pl.2.1.1.trans rk.1) ((rk.2 48 (Or.inr rfl)).trans pl.2.1.2)
    have d26 : b.2.1 85 26 = D 1 := e.1.2.2.1.2.2
    have nA : ∀ y, 30 * D 1 ≤ y → 0 ≤ y → y < 120 → r.2.1 72 y = 0 := fun y z y0 y1 => (gv y y0 y1).2 (by rw [c.2.2.1, c.1.2.2.1.2]; exact z)
    have cAB : ∀ cc tt : Int, 0 ≤ cc → cc < 30 → 0 ≤ tt → tt < 4 → cpA r.2 cc tt = cpB b.2 cc tt := fun cc tt c0 c1 t0 t1 => r72 _ (by omega) (by omega)
    have h0 : ∀ cc tt : Int, 0 ≤ cc → cc < 30 → 0 ≤ tt → tt < 4 → 0 ≤ cpB b.2 cc tt := fun cc tt c0 c1 t0 t1 => by
      rw [← cAB cc tt c0 c1 t0 t1]; exact (gv _ (by omega) (by omega)).1.1
    have hz : ∀ cc tt : Int, 0 ≤ cc → cc < 30 → D 1 ≤ tt → tt < 4 → cpB b.2 cc tt = 0 := fun cc tt c0 c1 t0 t1 => by
      rw [← cAB cc tt c0 c1 (by omega) t1]; exact nA _ (by omega) (by omega) (by omega)
    have cnt := rvb.count (x := x) d26 b1.1 b1.2 h0 hz cx
    have n8 := gt.1
    have ePr : Pr (clS S) (cpA r.2) (S 0).toNat (fun _ _ => 0) = Pr (clS S) (cpB b.2) (S 0).toNat (fun _ _ => 0) := by
      unfold Pr
      refine pm_cong _ (fun i p => ?_)
      unfold W4
      refine Wy_cong _ _ (fun j p' => ?_)
      (try dsimp only)
      rw [cAB _ _ (by omega) (by omega) (by omega) (by omega)]
    have eAll := all_rows (cl := clS S) (cp := cpB b.2) (s := (S 0).toNat) (fun i p => clS_bd gt (by omega))
    have q4 := (shl4 ⟨(S 0).toNat, by omega⟩).2
    have q4 : 4 ^ (S 0).toNat ≤ 65536 := q4
    have sb := sn_01 (f := fun i => ok1 (clS S) (cpB b.2) (S 0).toNat i) (fun i => ok1_bd) (4 ^ (S 0).toNat)
    have eW : w32 (Pr (clS S) (cpA r.2) (S 0).toNat (fun _ _ => 0)) = sn (fun i => ok1 (clS S) (cpB b.2) (S 0).toNat i) (4 ^ (S 0).toNat) := by
      rw [ePr, ← eAll]
      exact w32_of (by omega) (by omega)
    have gvn : ∀ y, 0 ≤ y → y < 120 → 0 ≤ r.2.1 72 y := fun y y0 y1 => (gv y y0 y1).1.1
    rw [wp0_3 (hT.keep pt.2.1)]
    have hX : PC (if x = (-1) then (if r.2.2.1 0 = 9 then if r.2.2.1 (23 + 19 * s) = 4 then (fX4_ways r.2 (23 + 19 * s) 68).bind fun r14 => some (r14, r.2) else none else none) else (if r.2.2.1 0 = 9 then if r.2.2.1 (23 + 19 * s) = 4 then (fX4_mayBe r.2 (23 + 19 * s) 68 x).bind fun r18 => some (r18, r.2) else none else none)) (fun v => v.1 = if x = -1 then sn (fun i => ok1 (clS S) (cpB b.2) (S 0).toNat i) (4 ^ (S 0).toNat) else if sn (fun i => ok1 (clS S) (cpB b.2) (S 0).toNat i) (4 ^ (S 0).toNat) = 0 then 0 else btF (fun t => cpB b.2 (clS S x.toNat) t) (D 1).toNat) := by
      refine PC.ite (fun ex => PC.guard (fun _ => PC.guard (fun _ => PC.bind (svA.ways gvn) (fun v hv => PC.ok ?_)))) (fun ex => PC.guard (fun _ => PC.guard (fun _ => ?_)))
      · (try dsimp only)
        rw [if_pos ex, hv, eW]
      have cx' := cx.resolve_left ex
      obtain ⟨ξ, rfl⟩ : ∃ ξ : Nat, x = (ξ : Int) := ⟨x.toNat, by omega⟩
      refine PC.bind (svA.mayBe gvn (i := ξ) cx'.2) (fun v hv => PC.ok ?_)
      (try dsimp only)
      rw [if_neg ex, hv, eW]
      have cb := clS_bd gt (i := ξ) cx'.2
      have eb : btF (fun t => cpA r.2 (clS S ξ) t) 4 = btF (fun t => cpB b.2 (clS S ξ) t) (D 1).toNat := by
        have z1 : ∀ j : Nat, j ≤ 4 → btF (fun t => cpA r.2 (clS S ξ) t) j = btF (fun t => cpB b.2 (clS S ξ) t) j := by
          intro j
          induction j with
          | zero => intro _; rfl
          | succ m ih =>
            intro hm
            rw [btF_s, btF_s, ih (by omega)]
            (try dsimp only)
            rw [cAB _ _ cb.1 cb.2 (by omega) (by omega)]
        rw [z1 4 (by decide)]
        exact btF_ext (d := (D 1).toNat) (fun t t0 t1 => hz _ _ cb.1 cb.2 (by omega) t1) 4 (by omega) (by decide)
      rw [eb, show ((ξ : Int)).toNat = ξ by omega]
    exact RR.okp hX cnt (fun v w p p' => by rw [p, p'])
  refine RR.joinr () main (fun j hj => ?_)
  by_cases ex : x = -1
  · exact RR.posr ex hj
  · refine RR.negr ex (RR.gr (fun _ => ?_))
    have n8 := gt.1
    rw [rvu.gifts]
    refine RR.br (P := fun v => v = S 0) (PC.ok rfl) (fun v hv => ?_)
    rw [hv, w32_of (x := S 0 - 1) (by omega) (by omega), in_v2, if_pos (show 0 ≤ x ∧ x ≤ S 0 - 1 by omega)]
    exact RR.br (P := fun v => v = 1) (PC.ok rfl) (fun v hv => RR.negr (by rw [hv]; decide) hj)
end Hands3
