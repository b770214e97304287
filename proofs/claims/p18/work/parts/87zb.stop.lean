/-! stop, goods -/
section Stop
variable {O P A B M N : Mem} {D L E : Int → Int} {a l k q n kn : Int}
theorem fol_le {m : Int} (hT : WT A) (hA : TA (A.1 68 0)) (hL : LWA (A.1 68 1)) (hn : NTA n) (z : A.1 68 15 = 0) : PC (fX9_follow A 68 n m) (fun r => r.1 68 15 ≤ imax 0 (imin m (A.1 n 0))) := by
  have h40 := nd0_ hT hn
  have n47 : n < 47 := by rcases hn with y | y <;> omega
  unfold fX9_follow
  refine PC.guard (fun _ => PC.iter (fun s => Keep A s ∧ s.1 68 0 = A.1 68 0 ∧ s.1 68 1 = A.1 68 1 ∧ 0 ≤ s.1 68 15 ∧ s.1 68 15 ≤ imax 0 (imin m (A.1 n 0))) ?_ _ _ ⟨Keep.self, rfl, rfl, by rw [z]; decide, by rw [z]; unfold imax; split <;> omega⟩)
  rintro rec s ⟨hk, s0, s1, s15, sm⟩ hrec
  refine PC.guard (fun _ => PC.ite (fun c => ?_) (fun c => PC.ok sm))
  have c' : s.1 68 15 < A.1 n 0 := by unfold imin at c; split at c <;> omega
  refine PC.bind (PC.of (act_T (hT.keep hk) (by rw [s0]; exact hA) (by rw [s1]; exact hL) hn (s.1 68 15) ⟨s15, by omega⟩)) (fun r q => ?_)
  obtain ⟨_, w1, w2, w3, w4⟩ := q
  refine PC.ite (fun _ => PC.ok (by rw [w4]; exact sm)) (fun _ => PC.guard (fun _ => PC.sM (hrec _ ⟨(hk.trans w1).st rfl, by rw [mst_nf _ _ _ _ _ _ (by decide), w2]; exact s0, by rw [mst_nf _ _ _ _ _ _ (by decide), w3]; exact s1, ?_, ?_⟩)))
  · rw [mst_at, w4, w32_of (by omega) (by omega)]; omega
  · rw [mst_at, w4, w32_of (by omega) (by omega)]
    unfold imax
    split <;> omega
/-- what walkTo and layAll end in -/
def WQ (m t l n : Int) (r u : Int × Mem) : Prop := (r.1 = 0 ∧ u.1 = 0) ∨ ((r.1 = 1 ∧ u.1 = 1) ∧ ∃ a lw nn D L E, (fX11_deeds u.2 85 = some (E 0) ∧ (0 ≤ E 0 ∧ E 0 ≤ 40)) ∧ (WT r.2 ∧ r.2.1 68 15 ≤ imax 0 (imin m (E 0))) ∧ PC (fX11_play u.2 85 (imin m (E 0))) (PQ a lw t l nn n D L E r.2))
set_option maxHeartbeats 1000000 in
theorem walk_Q (h : INV3 M) (kn : Keep M N) (t l n m : Int) : RR (fX10_walkTo M 0 t l n m) (fX11_layAll (mst N 85 0 0) 85 t l n) (WQ m t l n) := by
  have hT := h.1.1.1
  have k0 : Keep M (mst N 85 0 0) := kn.st rfl
  have hc := cn_ hT (i := 2) (by decide) (by decide)
  unfold fX10_walkTo fX11_layAll
  rw [wp0_0 hT, townAt_V hT, lawAt_V hT, nightsAt_V hT, wp0_3 hT, bd1, bd1, bd1]
  refine RR.gl (fun _ => RR.gl (fun _ => RR.gr (fun _ => RR.lawR h.1 k0 l (fun cl => ?_) (fun cl dl kl => ?_))))
  · rw [if_neg cl]
    exact RR.posr rfl (RR.il (fun _ => RR.ok (Or.inl ⟨rfl, rfl⟩)) (fun _ => RR.posl rfl (RR.ok (Or.inl ⟨rfl, rfl⟩))))
  rw [if_pos cl]
  obtain ⟨tl, lb⟩ := lawV_L h.1 cl.1 cl.2
  refine RR.negr n10 (RR.gr (fun _ => ?_))
  have k1 : Keep M (mst (mst N 85 0 0) 85 27 l) := k0.trans kl
  show RR _ ((fX11_hasNights (mst (mst N 85 0 0) 85 27 l) 85 n).bind _) _
  have e90 : (mst (mst N 85 0 0) 85 27 l).1 90 2 = M.1 3 2 := by rw [keep_lo k1 _ (Or.inr (by decide))]; exact cnt90 h.1 (by decide) (by decide)
  rw [hasNights_V (hT.keep k1), e90]
  have k2 : Keep M (mst (mst (mst N 85 0 0) 85 27 l) 85 28 n) := k1.st rfl
  by_cases cn : 0 ≤ n ∧ n < M.1 3 2
  rotate_left
  · rw [if_neg cn, if_neg cn]
    refine RR.br (PC.ok (Q := fun v => v.1 = 0) rfl) (fun r q => RR.posr q (RR.il (fun _ => RR.ok (Or.inl ⟨rfl, rfl⟩)) (fun _ => RR.il (fun _ => RR.ok (Or.inl ⟨rfl, rfl⟩)) (fun _ => RR.posl rfl (RR.ok (Or.inl ⟨rfl, rfl⟩))))))
  rw [if_pos cn, if_pos cn]
  refine RR.br (PC.ok (Q := fun v => v = (1, mst (mst (mst N 85 0 0) 85 27 l) 85 28 n)) rfl) (fun r q => ?_)
  subst q
  refine RR.negr n10 (RR.gr (fun _ => RR.handR h.1 k2 t (fun ct => ?_) (fun ct N3 d kd e => ?_)))
  · rw [if_neg ct]
    exact RR.posr rfl (RR.posl rfl (RR.ok (Or.inl ⟨rfl, rfl⟩)))
  rw [if_pos ct]
  have tt := townV_D h.1 ct.1 ct.2
  have k3 := k2.trans kd
  have bd := tt.bd
  have r27 : RLd N3 l (fun y => M.1 92 (3 * l + y)) := dl.keep ((Keep.self.st (a := 85) (i := 28) rfl).trans kd) (by rw [e 27 (Or.inr (by decide))]; exact mst_nf _ _ _ _ _ _ (by decide))
  have e28 : N3.1 85 28 = n := by rw [e 28 (Or.inr (by decide))]; exact mst_at _ _ _ _
  have hR3 := hT.keep k3
  have hn : n = 0 ∨ n = 1 := by omega
  have nd3 := nightsV_N h cn.1 cn.2 (A := M) (B := N3) Keep.self k3 e28
  have hdeeds : fX11_deeds N3 85 = some (M.1 93 (161 * n + 0)) := by
    rw [deeds_V hR3 hn e28, Int.add_zero, keep_lo k3 _ (Or.inr (by decide))]
  refine RR.negr n10 (RR.negl (by omega) (RR.negl (by omega) (RR.negl (by omega) (RR.gl (fun _ => ?_)))))
  have hX : PC _ (fun (r : Int × Mem) => r.1 = 1 ∧ ∃ A0, (Keep M A0 ∧ A0.1 68 0 = 8 + 19 * t ∧ A0.1 68 1 = 17 + 19 * l ∧ A0.1 68 15 = 0) ∧ ZX A0 (fun y => M.1 91 (92 * t + y)) ∧ fX9_follow A0 68 (18 + 19 * n) m = some r.2) :=
    PC.bind (PC.and (begin_V tt tl) (PC.of (begin_T hT tt.2.1 tl.2.1))) (f := fun r12 => if r12.2.1 0 = 9 then if r12.2.1 (r12.1 0 3) = 8 then (fX9_follow r12 (r12.1 0 3) (18 + 19 * n) m).bind fun r16 => some (1, r16) else none else none) (fun A0 z => PC.guard (fun _ => PC.guard (fun _ => PC.bindS (fun r hr => PC.ok ⟨rfl, A0, z.2, z.1, by rw [wp0_3 (hT.keep z.2.1)] at hr; exact hr⟩))))
  refine RR.okp hX (PC.ok (Q := fun v => v = (1, N3)) rfl) (fun r u p p' => ?_)
  subst p'
  obtain ⟨p1, A0, ⟨g1, g2, g3, g4⟩, zx, hf⟩ := p
  have cA : CW A0 A0 (8 + 19 * t) (17 + 19 * l) (fun y => M.1 91 (92 * t + y)) (fun y => M.1 92 (3 * l + y)) := ⟨tt.keep g1, tl.keep g1, g2, g3, Keep.self, rfl⟩
  have hle := fol_le (m := m) (hT.keep g1) (by rw [g2]; exact tt.2.1) (by rw [g3]; exact tl.2.1) nd3.1.1 g4 r.2 hf
  have hnt := (PC.of (follow_T (hT.keep g1) (by rw [g2]; exact tt.2.1) (by rw [g3]; exact tl.2.1) nd3.1.1 m g4)) r.2 hf
  have n47 : 18 + 19 * n < 47 := by omega
  have hAn : A0.1 (18 + 19 * n) 0 = M.1 93 (161 * n + 0) := by rw [keep_lo g1 _ (Or.inl n47)]; exact nd3.1.2.1
  rw [hAn] at hle
  refine Or.inr ⟨⟨p1, rfl⟩, 8 + 19 * t, 17 + 19 * l, 18 + 19 * n, (fun y => M.1 91 (92 * t + y)), (fun y => M.1 92 (3 * l + y)), (fun y => M.1 93 (161 * n + y)), ⟨hdeeds, nd3.1.2.2.1⟩, ⟨(hT.keep g1).keep hnt.1.1, hle⟩, ?_⟩
  unfold fX11_play
  refine PC.guard (fun _ => PC.bind (beginR_V (P := N3) (⟨d, r27, Keep.self, rfl, rfl⟩ : RW' N3 N3 t l _ _)) (fun B0 z => ?_))
  obtain ⟨⟨e0, _⟩, zy⟩ := z
  have wb : WB A0 B0 (8 + 19 * t) (17 + 19 * l) t l (fun y => M.1 91 (92 * t + y)) (fun y => M.1 92 (3 * l + y)) A0 B0 := (WB.start cA e0 bd lb zx zy).self
  have nd0 := nightsV_N h cn.1 cn.2 g1 (k3.trans e0.2.2.1) (by rw [e0.2.2.2.1]; exact e28)
  exact fun v hv => fol_Q wb nd0 g4 r.2 v hf hv
theorem stop_E (h : INV3 M) (t l n : Int) : TT (fX10_stop M 0 t l n) (fun r => Keep M r.2 ∧ TT (fX11_stop r.2 85 t l n) (fun u => r.1 = u.1 ∧ Keep r.2 u.2)) := by
  have hT := h.1.1.1
  refine TT.rrm (P := fun r => Keep M r.2) (Q := fun N u => Keep N u.2) (Y := fun N => fX11_stop N 85 t l n) (stopX_T hT t l n) (fun N hN => by obtain ⟨i, kN⟩ := hN; have kN : Keep M N := kN; exact stopY_T (hT.keep kN) t l n) (fun N hN => ?_)
  obtain ⟨_, kN⟩ := hN
  have kN : Keep M N := kN
  unfold fX10_stop fX11_stop
  refine RR.gl (fun _ => RR.gr (fun _ => RR.mr (RR.bb (walk_Q h kN t l n 40) (fun r u p => ?_))))
  rcases p with ⟨p1, p2⟩ | ⟨⟨p1, p2⟩, a, lw, nn, D, L, E, ⟨hd, hE⟩, ⟨hw, _⟩, hp⟩
  · exact RR.posl p1 (RR.posr p2 (RR.ok rfl))
  rw [hd, wp0_3 hw]
  have i40 : imin 40 (E 0) = E 0 := by unfold imin; split <;> omega
  rw [i40] at hp
  refine RR.negl (by rw [p1]; decide) (RR.negr (by rw [p2]; decide) (RR.gl (fun _ => RR.gl (fun _ => RR.gr (fun _ => ?_)))))
  exact RR.br (P := fun v => v = E 0) (PC.ok rfl) (fun v hv => by rw [hv]; exact RR.br hp (fun z hz => RR.ok hz.1))
/-- what walkJust and layState end in -/
theorem just_Q (h : INV3 M) (kn : Keep M N) (t l n m : Int) : RR (fX10_walkJust M 0 t l n m) (fX11_layState (mst N 85 0 0) 85 t l n m) (fun r u => (r.1 = 0 ∧ u.1 = 0) ∨ ((r.1 = 1 ∧ u.1 = 1) ∧ ∃ a lw D L, WB r.2 u.2 a lw t l D L r.2 u.2)) := by
  have hT := h.1.1.1
  have k0 : Keep M (mst N 85 0 0) := kn.st rfl
  unfold fX10_walkJust fX11_layState
  by_cases c : 0 ≤ m ∧ m ≤ 40
  rotate_left
  · have hy : PC (if (mst N 85 0 0).2.1 85 = 10 then (fX11_layAll (mst N 85 0 0) 85 t l n).bind fun r1 => if r1.1 = 0 then (some ((0 : Int), r1.2)) else (if r1.2.2.1 85 = 10 then (fX11_deeds r1.2 85).bind fun r5 => (fX11_in r1.2 m 0 r5).bind fun r8 => if r8 = 0 then (some (0, r1.2)) else ((fX11_play r1.2 85 m).bind fun r11 => if r11.1 = m then (some (1, r11.2)) else (some (0, r11.2))) else none) else none) (fun u => u.1 = 0) := by
      refine PC.guard (fun _ => PC.bind (PC.of (layAllR_T (hT.keep k0) t l n)) (fun r q => PC.ite (fun _ => PC.ok rfl) (fun z => PC.guard (fun _ => PC.bind (PC.of (deedsR_T ((hT.keep k0).keep q.2.1.1) (q.2.2 z).2.2)) (fun v hv => ?_)))))
      rw [in_v2, if_neg (show ¬(0 ≤ m ∧ m ≤ v) by omega)]
      exact PC.bindE rfl (PC.pos rfl (PC.ok rfl))
    have hx : PC (if m < 0 then (some ((0 : Int), M)) else (if 40 < m then (some (0, M)) else (if M.2.1 0 = 9 then (fX10_walkTo M 0 t l n m).bind fun r3 => if r3.1 = 0 then (some (0, r3.2)) else (if r3.2.2.1 0 = 9 then if r3.2.2.1 (r3.2.1 0 3) = 8 then if r3.2.1 (r3.2.1 0 3) 15 = m then (some (1, r3.2)) else (some (0, r3.2)) else none else none) else none))) (fun r => r.1 = 0) := PC.ite (fun _ => PC.ok rfl) (fun _ => PC.pos (by omega) (PC.ok rfl))
    exact RR.okp hx hy (fun r u p p' => Or.inl ⟨p, p'⟩)
  refine RR.negl (by omega) (RR.negl (by omega) (RR.gl (fun _ => RR.gr (fun _ => RR.bb (walk_Q h kn t l n m) (fun r u p => ?_)))))
  rcases p with ⟨p1, p2⟩ | ⟨⟨p1, p2⟩, a, lw, nn, D, L, E, ⟨hd, hE⟩, ⟨hw, hle⟩, hp⟩
  · exact RR.posl p1 (RR.posr p2 (RR.ok (Or.inl ⟨rfl, rfl⟩)))
  rw [hd, wp0_3 hw]
  refine RR.negl (by rw [p1]; decide) (RR.negr (by rw [p2]; decide) (RR.gl (fun _ => RR.gl (fun _ => RR.gr (fun _ => ?_)))))
  refine RR.br (P := fun v => v = E 0) (PC.ok rfl) (fun v hv => ?_)
  rw [hv, in_v2]
  by_cases c2 : m ≤ E 0
  · rw [if_pos (show 0 ≤ m ∧ m ≤ E 0 from ⟨c.1, c2⟩)]
    have im : imin m (E 0) = m := by unfold imin; split <;> omega
    rw [im] at hp
    refine RR.br (P := fun v => v = 1) (PC.ok rfl) (fun w hw' => RR.negr (by rw [hw']; decide) (RR.br hp (fun z hz => ?_)))
    obtain ⟨z1, z2, _⟩ := hz
    exact RR.ii (by rw [z1]) (fun _ _ => RR.ok (Or.inr ⟨⟨rfl, rfl⟩, a, lw, D, L, z2⟩)) (fun _ _ => RR.ok (Or.inl ⟨rfl, rfl⟩))
  · rw [if_neg (show ¬(0 ≤ m ∧ m ≤ E 0) from fun z => c2 z.2)]
    have im : imax 0 (imin m (E 0)) = E 0 := by unfold imax imin; split <;> split <;> omega
    rw [im] at hle
    exact RR.br (P := fun v => v = 0) (PC.ok rfl) (fun w hw' => RR.posr hw' (RR.negl (by omega) (RR.ok (Or.inl ⟨rfl, rfl⟩))))
theorem goods_E (h : INV3 M) (t l n m x y g : Int) : TT (fX10_goods M 0 t l n m x y g) (fun r => Keep M r.2 ∧ TT (fX11_goods r.2 85 t l n m x y g) (fun u => r.1 = u.1 ∧ Keep r.2 u.2)) := by
  have hT := h.1.1.1
  refine TT.rrm (P := fun r => Keep M r.2) (Q := fun N u => Keep N u.2) (Y := fun N => fX11_goods N 85 t l n m x y g) (goodsX_T hT t l n m x y g) (fun N hN => by obtain ⟨i, kN⟩ := hN; have kN : Keep M N := kN; exact goodsY_T (hT.keep kN) t l n m x y g) (fun N hN => ?_)
  obtain ⟨_, kN⟩ := hN
  have kN : Keep M N := kN
  unfold fX10_goods fX11_goods
  rw [isGoodX]
  by_cases cg : 0 ≤ g ∧ g < 5
  rotate_left
  · rw [if_neg cg]
    refine RR.bl (PC.ok (Q := fun v => v = 0) rfl) (fun v hv => RR.posl hv (RR.gr (fun _ => RR.mr (RR.br (PC.tr) (fun r _ => RR.ir (fun _ => RR.ok rfl) (fun _ => ?_))))))
    rw [isGoodY, if_neg cg]
    exact RR.br (PC.ok (Q := fun v => v = 0) rfl) (fun v hv => RR.posr hv (RR.ok rfl))
  rw [if_pos cg]
  refine RR.bl (PC.ok (Q := fun v => v = 1) rfl) (fun v hv => RR.negl (by rw [hv]; decide) (RR.gl (fun _ => RR.gr (fun _ => RR.mr (RR.bb (just_Q h kN t l n m) (fun r u p => ?_))))))
  rcases p with ⟨p1, p2⟩ | ⟨⟨p1, p2⟩, a, lw, D, L, wb⟩
  · exact RR.posl p1 (RR.posr p2 (RR.ok rfl))
  obtain ⟨c, e, ⟨bd, lb⟩, r69, r70, r71, _⟩ := wb
  have hA := c.1.1
  have hB := e.1.1
  have b0 := bd.1
  have b1 := bd.2.1
  rw [isGoodY, if_pos cg, wp0_3 hA, c.2.2.1, c.1.isThief, c.1.isHouse, wp68_2 hA, wp68_3 hA, wp68_4 hA, e.1.isHouse bd, e.1.isThief bd, wp85_29 hB, wp85_30 hB, wp85_31 hB]
  refine RR.negl (by rw [p1]; decide) (RR.negr (by rw [p2]; decide) (RR.gl (fun _ => RR.gl (fun _ => RR.gl (fun _ => ?_)))))
  refine RR.br (PC.ok (Q := fun v => v = 1) rfl) (fun w hw => RR.negr (by rw [hw]; decide) (RR.jr ?_))
  rw [bd1, bd1]
  by_cases cx : x = -1
  · refine RR.posl cx (RR.posr cx ?_)
    by_cases cy : 0 ≤ y ∧ y < D 0
    · rw [if_pos cy]
      refine RR.negl n10 (RR.negr (by omega) (RR.jr (RR.posr cx (RR.jr (RR.negr (by omega) (RR.gr (fun _ => ?_)))))))
      rw [cellV cy.1 (by omega) cg.1 cg.2, hg2 cy.1 (by omega) cg.1 cg.2]
      refine RR.br (PC.ok (Q := fun v => v = 1) rfl) (fun w hw => RR.negr (by rw [hw]; decide) (RR.posr cx (RR.gr (fun _ => RR.gr (fun _ => RR.bl (PC.ok (Q := fun v => v = 5 * y + g) rfl) (fun z hz => RR.gl (fun _ => RR.ok ?_)))))))
      rw [hz]; exact r69 _ (by omega) (by omega)
    · rw [if_neg cy]
      refine RR.posl rfl (RR.ir (fun _ => RR.ok rfl) (fun cy' => RR.jr (RR.posr cx (RR.jr (RR.negr cy' (RR.gr (fun _ => RR.br (PC.ok (Q := fun v => v = 0) rfl) (fun w hw => RR.posr hw (RR.ok rfl)))))))))
  refine RR.negl cx (RR.negr cx (RR.jr (RR.negr cx (RR.gr (fun _ => ?_)))))
  by_cases ct : 0 ≤ x ∧ x < D 1
  rotate_left
  · rw [if_neg ct]
    exact RR.br (PC.ok (Q := fun v => v = 0) rfl) (fun w hw => RR.posr hw (RR.il (fun _ => RR.posl rfl (RR.ok rfl)) (fun _ => RR.posl rfl (RR.ok rfl))))
  rw [if_pos ct]
  refine RR.br (PC.ok (Q := fun v => v = 1) rfl) (fun w hw => RR.negr (by rw [hw]; decide) (RR.jr ?_))
  rw [tgV ct.1 (by omega) cg.1 cg.2]
  by_cases cy : y = -1
  · refine RR.posl cy (RR.negl n10 (RR.posr cy (RR.negr cx (RR.posr cy (RR.gl (fun _ => RR.gr (fun _ => RR.gr (fun _ => RR.ok ?_))))))))
    exact r70 _ (by omega) (by omega)
  refine RR.negl cy (RR.negl n10 (RR.negr cy (RR.gr (fun _ => ?_))))
  by_cases ch : 0 ≤ y ∧ y < D 0
  · rw [if_pos ch]
    refine RR.br (PC.ok (Q := fun v => v = 1) rfl) (fun w hw => RR.negr (by rw [hw]; decide) (RR.negr cx (RR.negr cy (RR.gr (fun _ => RR.negl n10 ?_)))))
    rw [c3V ct.1 (by omega) ch.1 (by omega) cg.1 cg.2, plV ct.1 (by omega) ch.1 (by omega) cg.1 cg.2]
    refine RR.bl (PC.ok (Q := fun v => v = 30 * x + 5 * y + g) rfl) (fun z hz => RR.gl (fun _ => RR.br (PC.ok (Q := fun v => v = 30 * x + 5 * y + g) rfl) (fun z' hz' => RR.gr (fun _ => RR.ok ?_))))
    rw [hz, hz']; exact r71 _ (by omega) (by omega)
  · rw [if_neg ch]
    exact RR.br (PC.ok (Q := fun v => v = 0) rfl) (fun w hw => RR.posr hw (RR.posl rfl (RR.ok rfl)))
end Stop
