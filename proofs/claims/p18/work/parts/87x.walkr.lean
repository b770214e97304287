/-! the walk of the reference: what each deed does to it, exact -/
section WalkR
variable {P A B M N : Mem} {D L : Int → Int} {k q : Int}
theorem rr_97 (M : Mem) (i v y : Int) : (mst M 97 i v).1 85 y = M.1 85 y := mst_ne _ _ _ _ _ _ (by decide)
theorem rr_98 (M : Mem) (i v y : Int) : (mst M 98 i v).1 85 y = M.1 85 y := mst_ne _ _ _ _ _ _ (by decide)
theorem rr_99 (M : Mem) (i v y : Int) : (mst M 99 i v).1 85 y = M.1 85 y := mst_ne _ _ _ _ _ _ (by decide)
theorem rr_100 (M : Mem) (i v y : Int) : (mst M 100 i v).1 85 y = M.1 85 y := mst_ne _ _ _ _ _ _ (by decide)
theorem rr_101 (M : Mem) (i v y : Int) : (mst M 101 i v).1 85 y = M.1 85 y := mst_ne _ _ _ _ _ _ (by decide)
theorem rr_102 (M : Mem) (i v y : Int) : (mst M 102 i v).1 85 y = M.1 85 y := mst_ne _ _ _ _ _ _ (by decide)
theorem rr_103 (M : Mem) (i v y : Int) : (mst M 103 i v).1 85 y = M.1 85 y := mst_ne _ _ _ _ _ _ (by decide)
theorem rr_104 (M : Mem) (i v y : Int) : (mst M 104 i v).1 85 y = M.1 85 y := mst_ne _ _ _ _ _ _ (by decide)
theorem rr_105 (M : Mem) (i v y : Int) : (mst M 105 i v).1 85 y = M.1 85 y := mst_ne _ _ _ _ _ _ (by decide)
theorem rr_106 (M : Mem) (i v y : Int) : (mst M 106 i v).1 85 y = M.1 85 y := mst_ne _ _ _ _ _ _ (by decide)
theorem rr_107 (M : Mem) (i v y : Int) : (mst M 107 i v).1 85 y = M.1 85 y := mst_ne _ _ _ _ _ _ (by decide)
theorem rr_108 (M : Mem) (i v y : Int) : (mst M 108 i v).1 85 y = M.1 85 y := mst_ne _ _ _ _ _ _ (by decide)
theorem rr_109 (M : Mem) (i v y : Int) : (mst M 109 i v).1 85 y = M.1 85 y := mst_ne _ _ _ _ _ _ (by decide)
theorem rr_110 (M : Mem) (i v y : Int) : (mst M 110 i v).1 85 y = M.1 85 y := mst_ne _ _ _ _ _ _ (by decide)
/-- the reference's walk stands in town k, under law q -/
def RW' (P B : Mem) (k q : Int) (D L : Int → Int) : Prop := RD B k D ∧ RLd B q L ∧ Keep P B ∧ B.1 85 28 = P.1 85 28 ∧ B.1 85 48 = P.1 85 48
theorem RLd.keep (d : RLd N q L) (kp : Keep N M) (e : M.1 85 27 = N.1 85 27) : RLd M q L := by
  obtain ⟨hT, hk, e1, hD⟩ := d
  exact ⟨hT.keep kp, hk, by rw [e]; exact e1, fun y p r => by rw [keep_lo kp _ (Or.inr (by decide))]; exact hD y p r⟩
theorem RW'.st (c : RW' P B k q D L) {x i v : Int} (h : 95 ≤ x ∧ x ≤ 110) : RW' P (mst B x i v) k q D L :=
  ⟨c.1.stA h, c.2.1.keep (Keep.self.st (scrR i h)) (mst_ne _ _ _ _ _ _ (by omega)), c.2.2.1.st (scrR i h), by rw [mst_ne _ _ _ _ _ _ (by omega)]; exact c.2.2.2.1, by rw [mst_ne _ _ _ _ _ _ (by omega)]; exact c.2.2.2.2⟩
theorem RW'.stF (c : RW' P B k q D L) {i v : Int} (hs : scr 85 i = true) (h : (i < 24 ∨ 28 < i) ∧ i ≠ 48) : RW' P (mst B 85 i v) k q D L :=
  ⟨c.1.stF hs (by omega), c.2.1.keep (Keep.self.st hs) (mst_nf _ _ _ _ _ _ (by omega)), c.2.2.1.st hs, by rw [mst_nf _ _ _ _ _ _ (by omega)]; exact c.2.2.2.1, by rw [mst_nf _ _ _ _ _ _ (by omega)]; exact c.2.2.2.2⟩
theorem RW'.isFree (c : RW' P B k q D L) (bd : DBd D) (t : Int) : fX11_isFree B 85 t = some (if (0 ≤ t ∧ t < D 1) ∧ bAnd (bShr (B.1 85 41) t) 1 = 0 then 1 else 0) := by
  unfold fX11_isFree
  rw [if_pos (wk85 c.1.1), c.1.isThief bd, hasV]
  by_cases z : 0 ≤ t ∧ t < D 1
  · rw [if_pos z, bd1, if_neg n10, bd1]
    rcases and1 (bShr (B.1 85 41) t) with y | y
    · rw [y, if_neg (show ¬ (0 : Int) = 1 by decide), if_pos rfl, if_pos ⟨z, rfl⟩]
    · rw [y, if_pos rfl, if_neg n10, if_neg (fun q => n10 q.2)]
  · rw [if_neg z, bd1, if_pos rfl, if_neg (fun q => z q.1)]
theorem plV {t h g : Int} (t0 : 0 ≤ t) (t1 : t < 4) (h0 : 0 ≤ h) (h1 : h < 6) (g0 : 0 ≤ g) (g1 : g < 5) : fX11_place M t h g = some (30 * t + 5 * h + g) := by
  obtain ⟨r, e, q⟩ := place_T (M := M) t0 t1 h0 h1 g0 g1
  rw [e, q.1]
def tkPR (B : Mem) (D : Int → Int) (t h g : Int) : Prop := ((0 ≤ t ∧ t < D 1) ∧ bAnd (bShr (B.1 85 41) t) 1 = 0) ∧ (0 ≤ h ∧ h < D 0) ∧ B.1 97 (5 * h + g) ≠ 0 ∧ B.1 101 t < D (84 + t)
def tkR (B : Mem) (t h g : Int) : Mem :=
  mst (inc (inc (inc (inc (inc (dec B 97 (5 * h + g) 1) 98 (5 * t + g) 1) 99 (30 * t + 5 * h + g) 1) 101 t 1) 103 t 1) 107 h 1) 106 t (B.1 85 42)
set_option maxHeartbeats 2000000 in
theorem RW'.take (c : RW' P B k q D L) (bd : DBd D) (t h : Int) {g : Int} (g0 : 0 ≤ g) (g1 : g < 5) : PC (fX11_takes B 85 t h g) (fun r => (r = (0, B) ∧ ¬ tkPR B D t h g) ∨ (r = (1, tkR B t h g) ∧ tkPR B D t h g)) := by
  have hT := c.1.1
  have b0 := bd.1
  have b1 := bd.2.1
  have u29 := wp85_29 hT
  have u30 := wp85_30 hT
  have u31 := wp85_31 hT
  have u32 := wp85_32 hT
  have u33 := wp85_33 hT
  have u34 := wp85_34 hT
  have u35 := wp85_35 hT
  have u36 := wp85_36 hT
  have u37 := wp85_37 hT
  have u38 := wp85_38 hT
  have u39 := wp85_39 hT
  unfold fX11_takes
  rw [c.isFree bd, c.1.isHouse bd]
  refine PC.guard (fun _ => PC.flag (fun z1 => PC.flag (fun z2 => ?_) (fun z => PC.ok (Or.inl ⟨rfl, fun q => z q.2.1⟩))) (fun z => PC.ok (Or.inl ⟨rfl, fun q => z q.1⟩)))
  rw [hg2 z2.1 (by omega) g0 g1, tgV z1.1.1 (by omega) g0 g1, u29, u33, w32_of (x := 84 + t) (by omega) (by omega), c.1.of (by omega) (by omega)]
  refine PC.guard (fun _ => PC.ite (fun z => PC.ok (Or.inl ⟨rfl, fun q => q.2.2.1 z⟩)) (fun z4 => PC.guard (fun _ => PC.bindE rfl (PC.ite (fun z5 => ?_) (fun z => PC.ok (Or.inl ⟨rfl, fun q => z q.2.2.2⟩))))))
  refine PC.mono (Q := fun r => r = (1, tkR B t h g)) ?_ (fun r p => Or.inr ⟨p, z1, z2, z4, z5⟩)
  refine PC.guard (fun _ => PC.guard (fun _ => PC.sM ?_))
  simp only [rr_97, rr_98, rr_99, rr_100, rr_101, rr_102, rr_103, rr_104, rr_105, rr_106, rr_107, rr_108, rr_109, rr_110, u29, u30, u31, u32, u33, u34, u35, u36, u37, u38, u39]
  refine PC.guard (fun _ => PC.guard (fun _ => PC.sM ?_))
  rw [plV z1.1.1 (by omega) z2.1 (by omega) g0 g1]
  simp only [rr_97, rr_98, rr_99, rr_100, rr_101, rr_102, rr_103, rr_104, rr_105, rr_106, rr_107, rr_108, rr_109, rr_110, u29, u30, u31, u32, u33, u34, u35, u36, u37, u38, u39]
  refine PC.bindE rfl (PC.guard (fun _ => PC.guard (fun _ => PC.sM ?_)))
  simp only [rr_97, rr_98, rr_99, rr_100, rr_101, rr_102, rr_103, rr_104, rr_105, rr_106, rr_107, rr_108, rr_109, rr_110, u29, u30, u31, u32, u33, u34, u35, u36, u37, u38, u39]
  refine PC.guard (fun _ => PC.guard (fun _ => PC.sM ?_))
  simp only [rr_97, rr_98, rr_99, rr_100, rr_101, rr_102, rr_103, rr_104, rr_105, rr_106, rr_107, rr_108, rr_109, rr_110, u29, u30, u31, u32, u33, u34, u35, u36, u37, u38, u39]
  refine PC.guard (fun _ => PC.guard (fun _ => PC.sM ?_))
  simp only [rr_97, rr_98, rr_99, rr_100, rr_101, rr_102, rr_103, rr_104, rr_105, rr_106, rr_107, rr_108, rr_109, rr_110, u29, u30, u31, u32, u33, u34, u35, u36, u37, u38, u39]
  refine PC.guard (fun _ => PC.guard (fun _ => PC.sM ?_))
  simp only [rr_97, rr_98, rr_99, rr_100, rr_101, rr_102, rr_103, rr_104, rr_105, rr_106, rr_107, rr_108, rr_109, rr_110, u29, u30, u31, u32, u33, u34, u35, u36, u37, u38, u39]
  exact PC.guard (fun _ => PC.sM (PC.ok rfl))
def gvPR (B : Mem) (D : Int → Int) (t h g : Int) : Prop := ((0 ≤ t ∧ t < D 1) ∧ bAnd (bShr (B.1 85 41) t) 1 = 0) ∧ (0 ≤ h ∧ h < D 0) ∧ 0 < B.1 98 (5 * t + g) ∧ B.1 97 (5 * h + g) < D (32 + (5 * h + g)) ∧ B.1 99 (30 * t + 5 * h + g) = 0
theorem RW'.mayGive (c : RW' P B k q D L) (bd : DBd D) (t h : Int) {g : Int} (g0 : 0 ≤ g) (g1 : g < 5) : PC (fX11_mayGive B 85 t h g) (fun r => (r = 1 ∧ gvPR B D t h g) ∨ (r = 0 ∧ ¬ gvPR B D t h g)) := by
  have hT := c.1.1
  have b0 := bd.1
  have b1 := bd.2.1
  have u29 := wp85_29 hT
  have u30 := wp85_30 hT
  have u31 := wp85_31 hT
  have u32 := wp85_32 hT
  have u33 := wp85_33 hT
  have u34 := wp85_34 hT
  have u35 := wp85_35 hT
  have u36 := wp85_36 hT
  have u37 := wp85_37 hT
  have u38 := wp85_38 hT
  have u39 := wp85_39 hT
  unfold fX11_mayGive
  rw [c.isFree bd, c.1.isHouse bd]
  refine PC.guard (fun _ => PC.flag (fun z1 => PC.flag (fun z2 => ?_) (fun z => PC.ok (Or.inr ⟨rfl, fun q => z q.2.1⟩))) (fun z => PC.ok (Or.inr ⟨rfl, fun q => z q.1⟩)))
  rw [hg2 z2.1 (by omega) g0 g1, tgV z1.1.1 (by omega) g0 g1, hgI (f := 32) z2.1 (by omega) g0 g1 (by decide) (by decide), plV z1.1.1 (by omega) z2.1 (by omega) g0 g1, c.1.of (by omega) (by omega), u29, u30, u31]
  exact PC.guard (fun _ => PC.ite (fun z3 => PC.bindE rfl (PC.guard (fun _ => PC.ite (fun z4 => PC.bindE rfl (PC.guard (fun _ => PC.ite (fun z5 => PC.ok (Or.inl ⟨rfl, z1, z2, z3, z4, z5⟩)) (fun z => PC.ok (Or.inr ⟨rfl, fun q => z q.2.2.2.2⟩))))) (fun z => PC.ok (Or.inr ⟨rfl, fun q => z q.2.2.2.1⟩))))) (fun z => PC.ok (Or.inr ⟨rfl, fun q => z q.2.2.1⟩)))
def gvR (B : Mem) (D L : Int → Int) (t h g : Int) : Mem :=
  inc (inc (inc (inc (dec B 98 (5 * t + g) 1) 97 (5 * h + g) 1) 100 (30 * t + 5 * h + g) 1) 104 t (1 + dbl L (B.1 85 40))) 102 t (D (62 + h))
set_option maxHeartbeats 2000000 in
theorem RW'.give (c : RW' P B k q D L) (bd : DBd D) (t h : Int) {g : Int} (g0 : 0 ≤ g) (g1 : g < 5) : PC (fX11_gives B 85 t h g) (fun r => (r = (0, B) ∧ ¬ gvPR B D t h g) ∨ (r = (1, gvR B D L t h g) ∧ gvPR B D t h g)) := by
  have hT := c.1.1
  have b0 := bd.1
  have b1 := bd.2.1
  have u29 := wp85_29 hT
  have u30 := wp85_30 hT
  have u31 := wp85_31 hT
  have u32 := wp85_32 hT
  have u33 := wp85_33 hT
  have u34 := wp85_34 hT
  have u35 := wp85_35 hT
  have u36 := wp85_36 hT
  have u37 := wp85_37 hT
  have u38 := wp85_38 hT
  have u39 := wp85_39 hT
  unfold fX11_gives
  refine PC.guard (fun _ => PC.bind (c.mayGive bd t h g0 g1) (fun r p => ?_))
  rcases p with ⟨rfl, p⟩ | ⟨rfl, p⟩
  rotate_left
  · exact PC.pos rfl (PC.ok (Or.inl ⟨rfl, p⟩))
  refine PC.mono (Q := fun r => r = (1, gvR B D L t h g)) ?_ (fun r p' => Or.inr ⟨p', p⟩)
  obtain ⟨z1, z2, _⟩ := p
  rw [hg2 z2.1 (by omega) g0 g1, tgV z1.1.1 (by omega) g0 g1, u30]
  refine PC.neg n10 (PC.guard (fun _ => PC.guard (fun _ => PC.sM ?_)))
  simp only [rr_97, rr_98, rr_99, rr_100, rr_101, rr_102, rr_103, rr_104, rr_105, rr_106, rr_107, rr_108, rr_109, rr_110, u29, u30, u31, u32, u33, u34, u35, u36, u37, u38, u39]
  refine PC.guard (fun _ => PC.guard (fun _ => PC.sM ?_))
  rw [plV z1.1.1 (by omega) z2.1 (by omega) g0 g1]
  simp only [rr_97, rr_98, rr_99, rr_100, rr_101, rr_102, rr_103, rr_104, rr_105, rr_106, rr_107, rr_108, rr_109, rr_110, u29, u30, u31, u32, u33, u34, u35, u36, u37, u38, u39]
  refine PC.bindE rfl (PC.guard (fun _ => PC.guard (fun _ => PC.sM ?_)))
  have c3 := ((c.st (x := 98) (i := 5 * t + g) (v := w32 (B.1 98 (5 * t + g) - 1)) (by decide)).st (x := 97) (i := 5 * h + g) (v := w32 ((mst B 98 (5 * t + g) (w32 (B.1 98 (5 * t + g) - 1))).1 97 (5 * h + g) + 1)) (by decide)).st (x := 100) (i := 30 * t + 5 * h + g) (v := w32 ((mst (mst B 98 (5 * t + g) (w32 (B.1 98 (5 * t + g) - 1))) 97 (5 * h + g) (w32 ((mst B 98 (5 * t + g) (w32 (B.1 98 (5 * t + g) - 1))).1 97 (5 * h + g) + 1))).1 100 (30 * t + 5 * h + g) + 1)) (by decide)
  simp only [rr_97, rr_98, rr_99, rr_100, rr_101, rr_102, rr_103, rr_104, rr_105, rr_106, rr_107, rr_108, rr_109, rr_110, u29, u30, u31, u32, u33, u34, u35, u36, u37, u38, u39, c3.2.1.isDouble]
  refine PC.guard (fun _ => PC.bindE rfl (PC.join (fun x => x = 1 + dbl L (B.1 85 40)) (fun x hx => ?_) (fun j hj => PC.ite (fun z => hj _ (by rw [z]; rfl)) (fun z => hj _ (by rcases dbl01 L (B.1 85 40) with y | y; exact absurd y z; rw [y]; rfl)))))
  subst hx
  refine PC.guard (fun _ => PC.sM ?_)
  have c4 := c3.st (x := 104) (i := t) (v := w32 ((mst (mst (mst B 98 (5 * t + g) (w32 (B.1 98 (5 * t + g) - 1))) 97 (5 * h + g) (w32 ((mst B 98 (5 * t + g) (w32 (B.1 98 (5 * t + g) - 1))).1 97 (5 * h + g) + 1))) 100 (30 * t + 5 * h + g) (w32 ((mst (mst B 98 (5 * t + g) (w32 (B.1 98 (5 * t + g) - 1))) 97 (5 * h + g) (w32 ((mst B 98 (5 * t + g) (w32 (B.1 98 (5 * t + g) - 1))).1 97 (5 * h + g) + 1))).1 100 (30 * t + 5 * h + g) + 1))).1 104 t + (1 + dbl L (B.1 85 40)))) (by decide)
  rw [w32_of (x := 62 + h) (by omega) (by omega), c4.1.of (by omega) (by omega)]
  simp only [rr_97, rr_98, rr_99, rr_100, rr_101, rr_102, rr_103, rr_104, rr_105, rr_106, rr_107, rr_108, rr_109, rr_110, u29, u30, u31, u32, u33, u34, u35, u36, u37, u38, u39]
  exact PC.guard (fun _ => PC.bindE rfl (PC.guard (fun _ => PC.sM (PC.ok rfl))))
def owR (B : Mem) (L : Int → Int) (t : Int) : Int := w32 (w32 ((B.1 103 t).tdiv (L 0)) - B.1 104 t)
theorem RW'.owes (c : RW' P B k q D L) (t : Int) : PC (fX11_owes B 85 t) (fun r => r = owR B L t) := by
  have hT := c.1.1
  unfold fX11_owes
  rw [wp85_35 hT, wp85_36 hT, c.2.1.lawOf (by decide) (by decide)]
  exact PC.guard (fun _ => PC.guard (fun _ => PC.bindE rfl (PC.guard (fun _ => PC.guard (fun _ => PC.ok rfl)))))
def stPR (B : Mem) (D L : Int → Int) (x y n : Int) : Prop := ((0 ≤ x ∧ x < D 1) ∧ bAnd (bShr (B.1 85 41) x) 1 = 0) ∧ ((0 ≤ y ∧ y < D 1) ∧ bAnd (bShr (B.1 85 41) y) 1 = 0) ∧ (D (88 + x) ≠ y ∧ D (88 + y) ≠ x) ∧ n ≤ owR B L x ∧ n ≤ w32 (-owR B L y)
def stR (B : Mem) (x y n : Int) : Mem := dec (inc B 104 x n) 104 y n
set_option maxHeartbeats 2000000 in
theorem RW'.set (c : RW' P B k q D L) (bd : DBd D) (x y n : Int) : PC (fX11_sets B 85 x y n) (fun r => (r = (0, B) ∧ ¬ stPR B D L x y n) ∨ (r = (1, stR B x y n) ∧ stPR B D L x y n)) := by
  have hT := c.1.1
  have b1 := bd.2.1
  unfold fX11_sets
  rw [c.isFree bd, c.isFree bd]
  refine PC.guard (fun _ => PC.flag (fun z1 => PC.flag (fun z2 => ?_) (fun z => PC.ok (Or.inl ⟨rfl, fun q => z q.2.1⟩))) (fun z => PC.ok (Or.inl ⟨rfl, fun q => z q.1⟩)))
  rw [w32_of (x := 88 + x) (by omega) (by omega), w32_of (x := 88 + y) (by omega) (by omega), c.1.of (by omega) (by omega), c.1.of (by omega) (by omega), wp85_36 hT]
  refine PC.bindE rfl (PC.ite (fun z => PC.ok (Or.inl ⟨rfl, fun q => q.2.2.1.1 z⟩)) (fun z3 => PC.bindE rfl (PC.ite (fun z => PC.ok (Or.inl ⟨rfl, fun q => q.2.2.1.2 z⟩)) (fun z4 => PC.bind (c.owes x) (fun r q1 => PC.ite (fun z => PC.ok (Or.inl ⟨rfl, fun p => by have := p.2.2.2.1; rw [← q1] at this; omega⟩)) (fun z5 => PC.bind (c.owes y) (fun r' q2 => PC.ite (fun z => PC.ok (Or.inl ⟨rfl, fun p => by have := p.2.2.2.2; rw [← q2] at this; omega⟩)) (fun z6 => ?_))))))))
  refine PC.mono (Q := fun r => r = (1, stR B x y n)) ?_ (fun r p => Or.inr ⟨p, z1, z2, ⟨z3, z4⟩, by rw [← q1]; omega, by rw [← q2]; omega⟩)
  refine PC.guard (fun _ => PC.guard (fun _ => PC.sM ?_))
  simp only [rr_104, wp85_36 hT]
  exact PC.guard (fun _ => PC.guard (fun _ => PC.sM (PC.ok rfl)))
end WalkR
