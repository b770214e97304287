/-! wealth: what a thief has taken and given is bounded -/
section Bound
variable {O P A B M N : Mem} {D L E : Int → Int} {a l k q n kn : Int}
theorem mne {M : Mem} {x i v y j : Int} (h : y ≠ x) : (mst M x i v).1 y j = M.1 y j := mst_ne _ _ _ _ _ _ h
theorem inc_ne {M : Mem} {x i d y j : Int} (h : y ≠ x) : (inc M x i d).1 y j = M.1 y j := mst_ne _ _ _ _ _ _ h
theorem dec_ne {M : Mem} {x i d y j : Int} (h : y ≠ x) : (dec M x i d).1 y j = M.1 y j := mst_ne _ _ _ _ _ _ h
theorem inc_rd {M : Mem} {x i d j : Int} : (inc M x i d).1 x j = if j = i then w32 (M.1 x i + d) else M.1 x j := by
  by_cases e : j = i
  · rw [if_pos e, e]; exact mst_at _ _ _ _
  · rw [if_neg e]; exact mst_nf _ _ _ _ _ _ e
theorem dec_rd {M : Mem} {x i d j : Int} : (dec M x i d).1 x j = if j = i then w32 (M.1 x i - d) else M.1 x j := by
  by_cases e : j = i
  · rw [if_pos e, e]; exact mst_at _ _ _ _
  · rw [if_neg e]; exact mst_nf _ _ _ _ _ _ e
def BD3 (A : Mem) : Prop := ∀ t, 0 ≤ t → t < 4 → (0 ≤ A.1 73 t ∧ A.1 73 t ≤ 1000) ∧ (0 ≤ A.1 74 t ∧ A.1 74 t ≤ 1000)
def BDn (c : Int) (A : Mem) : Prop := ∀ t, 0 ≤ t → t < 4 → (0 ≤ A.1 73 t ∧ A.1 73 t ≤ c) ∧ (0 ≤ A.1 74 t ∧ A.1 74 t ≤ 2 * c)
theorem BDn.same {c c' : Int} (h : BDn c A) (hc : c ≤ c') (e : ∀ j, N.1 73 j = A.1 73 j ∧ N.1 74 j = A.1 74 j) : BDn c' N := fun t t0 t1 => by
  have := h t t0 t1
  rw [(e t).1, (e t).2]
  omega
theorem tk73 {t h g j : Int} : (tkC A t h g).1 73 j = if j = t then w32 (A.1 73 t + 1) else A.1 73 j := by
  unfold tkC
  rw [mne (by decide), mne (by decide), inc_ne (by decide), inc_rd]
  simp only [inc_ne (show (73 : Int) ≠ 71 by decide), inc_ne (show (73 : Int) ≠ 70 by decide), dec_ne (show (73 : Int) ≠ 69 by decide)]
theorem tk74 {t h g j : Int} : (tkC A t h g).1 74 j = A.1 74 j := by
  unfold tkC
  rw [mne (by decide), mne (by decide), inc_ne (by decide), inc_ne (by decide), inc_ne (by decide), inc_ne (by decide), dec_ne (by decide)]
theorem gv73 {t h g j : Int} : (gvC A D L t h g).1 73 j = A.1 73 j := by
  unfold gvC
  rw [inc_ne (by decide), inc_ne (by decide), inc_ne (by decide), inc_ne (by decide), dec_ne (by decide)]
theorem gv74 {t h g j : Int} : (gvC A D L t h g).1 74 j = if j = t then w32 (A.1 74 t + (1 + dbl L (A.1 68 14))) else A.1 74 j := by
  unfold gvC
  rw [inc_ne (by decide), inc_rd]
  simp only [inc_ne (show (74 : Int) ≠ 72 by decide), inc_ne (show (74 : Int) ≠ 69 by decide), dec_ne (show (74 : Int) ≠ 70 by decide)]
theorem BDn.take {c t h g : Int} (b : BDn c A) (c0 : 0 ≤ c) (c1 : c ≤ 1000) : BDn (c + 1) (tkC A t h g) := fun j j0 j1 => by
  have := b j j0 j1
  rw [tk73, tk74]
  split
  · rename_i e
    subst e
    rw [w32_of (by omega) (by omega)]
    omega
  · omega
theorem dbl_bd (L : Int → Int) (x : Int) : 0 ≤ dbl L x ∧ dbl L x ≤ 1 := by
  unfold dbl
  split
  · rcases and1 (bShr (L 2) x) with e | e <;> rw [e] <;> decide
  · decide
theorem BDn.give {c t h g : Int} (b : BDn c A) (c0 : 0 ≤ c) (c1 : c ≤ 1000) : BDn (c + 1) (gvC A D L t h g) := fun j j0 j1 => by
  have := b j j0 j1
  have d := dbl_bd L (A.1 68 14)
  rw [gv73, gv74]
  split
  · rename_i e
    subst e
    rw [w32_of (by omega) (by omega)]
    omega
  · omega
theorem BDn.set {c x y m : Int} (b : BDn c A) (lb : LBd L) (bd : DBd D) (c0 : 0 ≤ c) (c1 : c ≤ 1000) (s : stP A D L x y m) : BDn (c + 1) (stC A x y m) := fun j j0 j1 => by
  obtain ⟨⟨x0, _⟩, ⟨y0, _⟩, xy, _, m1, m2, m3⟩ := s
  have b1 := bd.2.1
  have l0 := lb.1
  have bj := b j j0 j1
  have ow : ∀ z, 0 ≤ z → z < 4 → owS A L z = A.1 73 z / L 0 - A.1 74 z ∧ 0 ≤ A.1 73 z / L 0 ∧ A.1 73 z / L 0 ≤ A.1 73 z ∧ (0 ≤ A.1 73 z ∧ A.1 73 z ≤ c) ∧ (0 ≤ A.1 74 z ∧ A.1 74 z ≤ 2 * c) := fun z z0 z1 => by
    have bz := b z z0 z1
    have d0 : 0 ≤ A.1 73 z / L 0 := Int.ediv_nonneg bz.1.1 (by omega)
    have d1 : A.1 73 z / L 0 ≤ A.1 73 z := Int.ediv_le_self _ bz.1.1
    refine ⟨?_, d0, d1, bz⟩
    unfold owS
    rw [Int.tdiv_eq_ediv_of_nonneg bz.1.1, w32_of (x := A.1 73 z / L 0) (by omega) (by omega), w32_of (by omega) (by omega)]
  have ox := ow x x0.1 (by omega)
  have oy := ow y y0.1 (by omega)
  rw [w32_of (by omega) (by omega)] at m3
  unfold stC
  rw [dec_ne (show (73 : Int) ≠ 74 by decide), inc_ne (show (73 : Int) ≠ 74 by decide), dec_rd, inc_rd, inc_rd]
  rw [if_neg (show ¬ y = x from fun e => xy e.symm)]
  refine ⟨by omega, ?_⟩
  split
  · rw [w32_of (by omega) (by omega)]; omega
  · split
    · rw [w32_of (by omega) (by omega)]; omega
    · omega
theorem CW.ends (c : CW O A a l D L) : PC (fX9_nightEnds A 68) (fun r => ∀ j, r.1 73 j = A.1 73 j ∧ r.1 74 j = A.1 74 j) := by
  have b1 := c.1.bd.2.1
  unfold fX9_nightEnds
  refine PC.iter (fun s => (0 ≤ s.1 ∧ s.1 ≤ D 1) ∧ CW O s.2 a l D L ∧ ∀ j, s.2.1 73 j = A.1 73 j ∧ s.2.1 74 j = A.1 74 j) ?_ _ _ ⟨⟨by (try dsimp only); omega, by (try dsimp only); omega⟩, c, fun _ => ⟨rfl, rfl⟩⟩
  rintro rec ⟨i, s⟩ ⟨⟨i0, i1⟩, cs, hs⟩ hrec
  simp only at i0 i1 cs hs ⊢
  rw [cs.2.2.1, cs.1.2.2.1.2, wp68_8 cs.1.1, wp68_10 cs.1.1]
  have wr : ∀ {N : Mem} {x v i : Int}, (CW O N a l D L ∧ ∀ j, N.1 73 j = A.1 73 j ∧ N.1 74 j = A.1 74 j) → 75 ≤ x ∧ x ≤ 78 → CW O (mst N x i v) a l D L ∧ ∀ j, (mst N x i v).1 73 j = A.1 73 j ∧ (mst N x i v).1 74 j = A.1 74 j := fun h hx => ⟨h.1.st (by omega), fun j => by
    rw [mne (by omega), mne (by omega)]
    exact h.2 j⟩
  refine PC.guard (fun _ => PC.guard (fun _ => PC.ite (fun cc => PC.guard (fun _ => PC.guard (fun _ => PC.guard (fun _ => PC.sM ?_)))) (fun cc => PC.sM (PC.ok (fun j => by rw [mne (by decide), mne (by decide)]; exact hs j)))))
  have c1 := wr (i := i) (v := w32 (s.1 75 i + s.1 77 i)) ⟨cs, hs⟩ (show 75 ≤ (75 : Int) ∧ (75 : Int) ≤ 78 by decide)
  rw [wp68_8 c1.1.1.1]
  refine PC.guard (fun _ => PC.guard (fun _ => PC.join (fun t => CW O t a l D L ∧ ∀ j, t.1 73 j = A.1 73 j ∧ t.1 74 j = A.1 74 j) (fun t ht => ?_) (fun j hj => PC.ite (fun _ => hj _ c1) (fun _ => PC.sM (hj _ ⟨c1.1.stF (by decide), fun j => by rw [mne (by decide), mne (by decide)]; exact c1.2 j⟩)))))
  rw [wp68_10 ht.1.1.1]
  refine PC.guard (fun _ => PC.guard (fun _ => PC.sM ?_))
  have c2 := wr (i := i) (v := 0) ht (show 75 ≤ (77 : Int) ∧ (77 : Int) ≤ 78 by decide)
  rw [wp68_9 c2.1.1.1]
  refine PC.guard (fun _ => PC.sM (hrec _ ?_))
  have c3 := wr (i := i) (v := 0) c2 (show 75 ≤ (76 : Int) ∧ (76 : Int) ≤ 78 by decide)
  (try dsimp only)
  rw [w32_of (by omega) (by omega)]
  exact ⟨⟨by omega, by omega⟩, c3⟩
theorem BDn.act {c : Int} (b : BDn c A) (cw : CW A A a l D L) (lb : LBd L) (c0 : 0 ≤ c) (c1 : c ≤ 1000) {k : Int} : PC (fX9_act A 68 n k) (fun r => (r.1 = 0 → BDn c r.2) ∧ BDn (c + 1) r.2) := by
  have bd := cw.1.bd
  have up : BDn (c + 1) A := b.same (by omega) (fun _ => ⟨rfl, rfl⟩)
  unfold fX9_act
  refine PC.guard (fun _ => PC.guard (fun _ => PC.guard (fun _ => PC.guard (fun _ => PC.guard (fun _ => ?_)))))
  refine PC.ite (fun _ => PC.guard (fun _ => PC.bind (cw.take _ _ _) (fun r hr => PC.guard (fun _ => PC.ok ?_)))) (fun _ => PC.ite (fun _ => PC.guard (fun _ => PC.bind (cw.give _ _ _) (fun r hr => PC.guard (fun _ => PC.ok ?_)))) (fun _ => PC.ite (fun _ => PC.guard (fun _ => PC.bind (cw.set lb _ _ _) (fun r hr => PC.guard (fun _ => PC.ok ?_)))) (fun _ => PC.guard (fun _ => PC.bind cw.ends (fun r hr => PC.ok ⟨fun z => absurd z (by (try dsimp only); decide), b.same (by omega) hr⟩)))))
  · rcases hr with ⟨hr, _⟩ | ⟨hr, _⟩ <;> rw [hr]
    · exact ⟨fun _ => b, up⟩
    · exact ⟨fun z => absurd z (by (try dsimp only); decide), b.take c0 c1⟩
  · rcases hr with ⟨hr, _⟩ | ⟨hr, _⟩ <;> rw [hr]
    · exact ⟨fun _ => b, up⟩
    · exact ⟨fun z => absurd z (by (try dsimp only); decide), b.give c0 c1⟩
  · rcases hr with ⟨hr, _⟩ | ⟨hr, s⟩ <;> rw [hr]
    · exact ⟨fun _ => b, up⟩
    · exact ⟨fun z => absurd z (by (try dsimp only); decide), b.set lb bd c0 c1 s⟩
theorem BDn.to3 {c : Int} (b : BDn c A) (c1 : c ≤ 500) : BD3 A := fun t t0 t1 => by
  have := b t t0 t1
  omega
theorem fol_B {m : Int} (c : CW A A a l D L) (lb : LBd L) (hn : NTA n) (z : A.1 68 15 = 0) (b : BDn 0 A) : PC (fX9_follow A 68 n m) BD3 := by
  have hT := c.1.1
  have h40 := nd0_ hT hn
  unfold fX9_follow
  refine PC.guard (fun _ => PC.iter (fun s => CW s s a l D L ∧ (0 ≤ s.1 68 15 ∧ s.1 68 15 ≤ 40) ∧ BDn (s.1 68 15) s) ?_ _ _ ⟨c, by rw [z]; decide, by rw [z]; exact b⟩)
  rintro rec s ⟨cs, s15, bs'⟩ hrec
  refine PC.guard (fun _ => PC.ite (fun cc => ?_) (fun cc => PC.ok (bs'.to3 (by omega))))
  have c' : s.1 68 15 < A.1 n 0 := by unfold imin at cc; split at cc <;> omega
  refine PC.bind (PC.and (bs'.act cs lb s15.1 (by omega)) (PC.of (act_T cs.1.1 (by rw [cs.2.2.1]; exact cs.1.2.1) (by rw [cs.2.2.2.1]; exact cs.2.1.2.1) hn (s.1 68 15) ⟨s15.1, by omega⟩))) (fun r q => ?_)
  obtain ⟨⟨q1, q2⟩, _, w1, w2, w3, w4⟩ := q
  have cr : CW r.2 r.2 a l D L := ⟨cs.1.keep w1, cs.2.1.keep w1, w2.trans cs.2.2.1, w3.trans cs.2.2.2.1, Keep.self, rfl⟩
  refine PC.ite (fun e => PC.ok ((q1 e).to3 (by omega))) (fun _ => PC.guard (fun _ => PC.sM (hrec _ ⟨cr.st15 _, ?_, ?_⟩)))
  · rw [mst_at, w4, w32_of (by omega) (by omega)]; omega
  · rw [mst_at, w4, w32_of (by omega) (by omega)]
    exact q2.same (Int.le_refl _) (fun j => ⟨mne (by decide), mne (by decide)⟩)
theorem walkTo_B (h : INV3 M) (t l n m : Int) : PC (fX10_walkTo M 0 t l n m) (fun r => r.1 = 0 ∨ BD3 r.2) := by
  have hT := h.1.1.1
  have hc := cn_ hT (i := 2) (by decide) (by decide)
  unfold fX10_walkTo
  rw [wp0_0 hT, townAt_V hT, lawAt_V hT, nightsAt_V hT, wp0_3 hT, bd1, bd1, bd1]
  refine PC.guard (fun _ => PC.guard (fun _ => PC.ite (fun _ => PC.ok (Or.inl rfl)) (fun n1 => PC.ite (fun _ => PC.ok (Or.inl rfl)) (fun n2 => PC.ite (fun _ => PC.ok (Or.inl rfl)) (fun n3 => PC.guard (fun _ => ?_))))))
  by_cases ct : 0 ≤ t ∧ t < M.1 3 0
  rotate_left
  · exact absurd (if_neg ct) n1
  by_cases cl : 0 ≤ l ∧ l < M.1 3 1
  rotate_left
  · exact absurd (if_neg cl) n2
  by_cases cn : 0 ≤ n ∧ n < M.1 3 2
  rotate_left
  · exact absurd (if_neg cn) n3
  rw [if_pos ct, if_pos cl, if_pos cn]
  obtain ⟨tl, lb⟩ := lawV_L h.1 cl.1 cl.2
  have tt := townV_D h.1 ct.1 ct.2
  have hn : NTA (18 + 19 * n) := by
    rcases (show n = 0 ∨ n = 1 by omega) with e | e
    · exact Or.inl (by omega)
    · exact Or.inr (by omega)
  refine PC.bind (PC.and (begin_V tt tl) (PC.of (begin_T hT tt.2.1 tl.2.1))) (fun A0 z => ?_)
  obtain ⟨zx, g1, g2, g3, g4⟩ := z
  have cA : CW A0 A0 (8 + 19 * t) (17 + 19 * l) (fun y => M.1 91 (92 * t + y)) (fun y => M.1 92 (3 * l + y)) := ⟨tt.keep g1, tl.keep g1, g2, g3, Keep.self, rfl⟩
  rw [wp0_3 (hT.keep g1)]
  refine PC.guard (fun _ => PC.guard (fun _ => PC.bind (fol_B cA lb hn g4 (fun j j0 j1 => ?_)) (fun r hr => PC.ok (Or.inr hr))))
  have y := zx.2.2.2.1 j j0 j1
  rw [y.1, y.2.1]
  exact ⟨⟨by decide, by decide⟩, by decide, by decide⟩
theorem walkJust_B (h : INV3 M) (t l n m : Int) : PC (fX10_walkJust M 0 t l n m) (fun r => r.1 = 1 → BD3 r.2) := by
  unfold fX10_walkJust
  refine PC.ite (fun _ => PC.ok (fun z => absurd z (by (try dsimp only); decide))) (fun _ => PC.ite (fun _ => PC.ok (fun z => absurd z (by (try dsimp only); decide))) (fun _ => PC.guard (fun _ => PC.bind (walkTo_B h t l n m) (fun r p => PC.ite (fun _ => PC.ok (fun z => absurd z (by (try dsimp only); decide))) (fun c => PC.guard (fun _ => PC.guard (fun _ => PC.ite (fun _ => PC.ok (fun _ => p.elim (fun e => absurd e c) id)) (fun _ => PC.ok (fun z => absurd z (by (try dsimp only); decide))))))))))
end Bound
