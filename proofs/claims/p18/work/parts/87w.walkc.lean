/-! the walk of the class: what each deed does to it, exact -/
def inc (M : Mem) (x i d : Int) : Mem := mst M x i (w32 (M.1 x i + d))
def dec (M : Mem) (x i d : Int) : Mem := mst M x i (w32 (M.1 x i - d))
section WalkC
variable {O A M N : Mem} {D L : Int → Int} {a l : Int}
theorem PC.flag {ρ : Type} {c : Prop} [Decidable c] {X Y : Option ρ} {Q : ρ → Prop} (h1 : c → PC Y Q) (h0 : ¬ c → PC X Q) : PC ((some (if c then (1 : Int) else 0)).bind fun r => if r = 0 then X else Y) Q := by
  by_cases hc : c
  · rw [if_pos hc]; exact h1 hc
  · rw [if_neg hc]; exact h0 hc
/-- the class's walk stands in the town at a, under the law at l -/
def CW (O A : Mem) (a l : Int) (D L : Int → Int) : Prop := TD A a D ∧ LD A l L ∧ A.1 68 0 = a ∧ A.1 68 1 = l ∧ Keep O A ∧ A.1 68 15 = O.1 68 15
theorem scrW {x : Int} (y : Int) (h : 69 ≤ x ∧ x ≤ 78) : scr x y = true := by
  unfold scr
  rw [show decide (69 ≤ x) = true from decide_eq_true h.1, show decide (x ≤ 78) = true from decide_eq_true h.2]
  simp
theorem CW.st (c : CW O A a l D L) {x i v : Int} (h : 69 ≤ x ∧ x ≤ 78) : CW O (mst A x i v) a l D L := by
  have k : Keep A (mst A x i v) := Keep.self.st (scrW i h)
  exact ⟨c.1.keep k, c.2.1.keep k, by rw [mst_ne _ _ _ _ _ _ (by omega)]; exact c.2.2.1, by rw [mst_ne _ _ _ _ _ _ (by omega)]; exact c.2.2.2.1, c.2.2.2.2.1.trans k, by rw [mst_ne _ _ _ _ _ _ (by omega)]; exact c.2.2.2.2.2⟩
theorem CW.stF (c : CW O A a l D L) {i v : Int} (h : 12 ≤ i ∧ i ≠ 15) : CW O (mst A 68 i v) a l D L := by
  have k : Keep A (mst A 68 i v) := Keep.self.st (by unfold scr; rw [show decide (12 ≤ i) = true from decide_eq_true h.1]; simp)
  exact ⟨c.1.keep k, c.2.1.keep k, by rw [mst_nf _ _ _ _ _ _ (by omega)]; exact c.2.2.1, by rw [mst_nf _ _ _ _ _ _ (by omega)]; exact c.2.2.2.1, c.2.2.2.2.1.trans k, by rw [mst_nf _ _ _ _ _ _ (by omega)]; exact c.2.2.2.2.2⟩
theorem CW.inc (c : CW O A a l D L) {x i d : Int} (h : 69 ≤ x ∧ x ≤ 78) : CW O (inc A x i d) a l D L := c.st h
theorem CW.dec (c : CW O A a l D L) {x i d : Int} (h : 69 ≤ x ∧ x ≤ 78) : CW O (dec A x i d) a l D L := c.st h
theorem CW.isFree (c : CW O A a l D L) (t : Int) : fX9_isFree A 68 t = some (if (0 ≤ t ∧ t < D 1) ∧ bAnd (bShr (A.1 68 13) t) 1 = 0 then 1 else 0) := by
  have hT := c.1.1
  unfold fX9_isFree
  rw [if_pos (wk68 hT), c.2.2.1, if_pos (tk hT c.1.2.1), c.1.isThief]
  by_cases z : 0 ≤ t ∧ t < D 1
  · rw [if_pos z, bd1, if_neg n10]
    by_cases y : bAnd (bShr (A.1 68 13) t) 1 = 0
    · rw [if_pos y, if_pos ⟨z, y⟩]
    · rw [if_neg y, if_neg (fun q => y q.2)]
  · rw [if_neg z, bd1, if_pos rfl, if_neg (fun q => z q.1)]
theorem c3V {t h g : Int} (t0 : 0 ≤ t) (t1 : t < 4) (h0 : 0 ≤ h) (h1 : h < 6) (g0 : 0 ≤ g) (g1 : g < 5) : fX10_cell_ M t h g = some (30 * t + 5 * h + g) := by
  obtain ⟨r, e, q⟩ := cell3_T (M := M) t0 t1 h0 h1 g0 g1
  rw [e, q.1]
theorem tgV {t g : Int} (t0 : 0 ≤ t) (t1 : t < 4) (g0 : 0 ≤ g) (g1 : g < 5) : w32 (w32 (5 * t) + g) = 5 * t + g := by
  rw [w32_of (x := 5 * t) (by omega) (by omega), w32_of (by omega) (by omega)]
def tkP (A : Mem) (D : Int → Int) (t h g : Int) : Prop := ((0 ≤ t ∧ t < D 1) ∧ bAnd (bShr (A.1 68 13) t) 1 = 0) ∧ (0 ≤ h ∧ h < D 0) ∧ (0 ≤ g ∧ g < 5) ∧ 1 ≤ A.1 69 (5 * h + g) ∧ A.1 76 t < D (84 + t)
/-- addresses behind stores -/
theorem rc_69 (M : Mem) (i v y : Int) : (mst M 69 i v).1 68 y = M.1 68 y := mst_ne _ _ _ _ _ _ (by decide)
theorem rc_70 (M : Mem) (i v y : Int) : (mst M 70 i v).1 68 y = M.1 68 y := mst_ne _ _ _ _ _ _ (by decide)
theorem rc_71 (M : Mem) (i v y : Int) : (mst M 71 i v).1 68 y = M.1 68 y := mst_ne _ _ _ _ _ _ (by decide)
theorem rc_72 (M : Mem) (i v y : Int) : (mst M 72 i v).1 68 y = M.1 68 y := mst_ne _ _ _ _ _ _ (by decide)
theorem rc_73 (M : Mem) (i v y : Int) : (mst M 73 i v).1 68 y = M.1 68 y := mst_ne _ _ _ _ _ _ (by decide)
theorem rc_74 (M : Mem) (i v y : Int) : (mst M 74 i v).1 68 y = M.1 68 y := mst_ne _ _ _ _ _ _ (by decide)
theorem rc_75 (M : Mem) (i v y : Int) : (mst M 75 i v).1 68 y = M.1 68 y := mst_ne _ _ _ _ _ _ (by decide)
theorem rc_76 (M : Mem) (i v y : Int) : (mst M 76 i v).1 68 y = M.1 68 y := mst_ne _ _ _ _ _ _ (by decide)
theorem rc_77 (M : Mem) (i v y : Int) : (mst M 77 i v).1 68 y = M.1 68 y := mst_ne _ _ _ _ _ _ (by decide)
theorem rc_78 (M : Mem) (i v y : Int) : (mst M 78 i v).1 68 y = M.1 68 y := mst_ne _ _ _ _ _ _ (by decide)
def tkC (A : Mem) (t h g : Int) : Mem :=
  mst (mst (inc (inc (inc (inc (dec A 69 (5 * h + g) 1) 70 (5 * t + g) 1) 71 (30 * t + 5 * h + g) 1) 73 t 1) 76 t 1) 78 t (A.1 68 12)) 68 12 (w32 (A.1 68 12 + 1))
set_option maxHeartbeats 2000000 in
theorem CW.take (c : CW O A a l D L) (t h g : Int) : PC (fX9_takeOne A 68 t h g) (fun r => (r = (0, A) ∧ ¬ tkP A D t h g) ∨ (r = (1, tkC A t h g) ∧ tkP A D t h g)) := by
  have hT := c.1.1
  have bd := c.1.bd
  have ha := c.1.2.1
  have e5 := c.1.2.2.2.2.2.2
  have e0 := c.2.2.1
  have b0 := bd.1
  have b1 := bd.2.1
  have w2 := wp68_2 hT
  have w3 := wp68_3 hT
  have w4 := wp68_4 hT
  have w5 := wp68_5 hT
  have w6 := wp68_6 hT
  have w7 := wp68_7 hT
  have w8 := wp68_8 hT
  have w9 := wp68_9 hT
  have w10 := wp68_10 hT
  have w11 := wp68_11 hT
  unfold fX9_takeOne
  rw [c.isFree, e0, c.1.isHouse, isGoodX]
  refine PC.guard (fun _ => PC.flag (fun z1 => PC.guard (fun _ => PC.flag (fun z2 => PC.flag (fun z3 => ?_) (fun z => PC.ok (Or.inl ⟨rfl, fun q => z q.2.2.1⟩))) (fun z => PC.ok (Or.inl ⟨rfl, fun q => z q.2.1⟩)))) (fun z => PC.ok (Or.inl ⟨rfl, fun q => z q.1⟩)))
  rw [cellV z2.1 (by omega) z3.1 z3.2, w2, w9, tp8_ hT ha, (e5 t z1.1.1 (by omega)).1]
  refine PC.bindE rfl (PC.guard (fun _ => PC.ite (fun z => PC.ok (Or.inl ⟨rfl, fun q => by have := q.2.2.2.1; omega⟩)) (fun z4 => PC.guard (fun _ => PC.guard (fun _ => PC.ite (fun z5 => PC.bindE rfl (PC.guard (fun _ => PC.guard (fun _ => PC.sM ?_)))) (fun z => PC.ok (Or.inl ⟨rfl, fun q => z q.2.2.2.2⟩)))))))
  rw [tgV z1.1.1 (by omega) z3.1 z3.2]
  refine PC.mono (Q := fun r => r = (1, tkC A t h g)) ?_ (fun r q => Or.inr ⟨q, z1, z2, z3, by omega, z5⟩)
  simp only [rc_69, rc_70, rc_71, rc_72, rc_73, rc_74, rc_75, rc_76, rc_77, rc_78, w2, w3, w4, w5, w6, w7, w8, w9, w10, w11]
  refine PC.guard (fun _ => PC.guard (fun _ => PC.sM ?_))
  rw [c3V z1.1.1 (by omega) z2.1 (by omega) z3.1 z3.2]
  simp only [rc_69, rc_70, rc_71, rc_72, rc_73, rc_74, rc_75, rc_76, rc_77, rc_78, w2, w3, w4, w5, w6, w7, w8, w9, w10, w11]
  refine PC.bindE rfl (PC.guard (fun _ => PC.guard (fun _ => PC.sM ?_)))
  simp only [rc_69, rc_70, rc_71, rc_72, rc_73, rc_74, rc_75, rc_76, rc_77, rc_78, w2, w3, w4, w5, w6, w7, w8, w9, w10, w11]
  refine PC.guard (fun _ => PC.guard (fun _ => PC.sM ?_))
  simp only [rc_69, rc_70, rc_71, rc_72, rc_73, rc_74, rc_75, rc_76, rc_77, rc_78, w2, w3, w4, w5, w6, w7, w8, w9, w10, w11]
  refine PC.guard (fun _ => PC.guard (fun _ => PC.sM ?_))
  simp only [rc_69, rc_70, rc_71, rc_72, rc_73, rc_74, rc_75, rc_76, rc_77, rc_78, w2, w3, w4, w5, w6, w7, w8, w9, w10, w11]
  exact PC.guard (fun _ => PC.sM (PC.sM (PC.ok rfl)))
/-- whether a house may have a good of a thief -/
def mgP (A : Mem) (D : Int → Int) (t h g : Int) : Prop := A.1 69 (5 * h + g) < D (32 + (5 * h + g)) ∧ A.1 71 (30 * t + 5 * h + g) = 0
theorem CW.takesGift (c : CW O A a l D L) {t h g : Int} (t0 : 0 ≤ t) (t1 : t < 4) (h0 : 0 ≤ h) (h1 : h < 6) (g0 : 0 ≤ g) (g1 : g < 5) : PC (fX9_takesGift A 68 t h g) (fun r => (r = 1 ∧ mgP A D t h g) ∨ (r = 0 ∧ ¬ mgP A D t h g)) := by
  have hT := c.1.1
  have ha := c.1.2.1
  have e2 := c.1.2.2.2.1
  unfold fX9_takesGift
  rw [cellV h0 h1 g0 g1, c3V t0 t1 h0 h1 g0 g1, c.2.2.1, wp68_2 hT, wp68_4 hT, tp3_ hT ha]
  refine PC.bindE rfl (PC.guard (fun _ => PC.guard (fun _ => PC.guard (fun _ => PC.guard (fun _ => ?_)))))
  rw [(e2 (5 * h + g) (by omega) (by omega)).2]
  exact PC.ite (fun z => PC.bindE rfl (PC.guard (fun _ => PC.ite (fun y => PC.ok (Or.inl ⟨rfl, z, y⟩)) (fun y => PC.ok (Or.inr ⟨rfl, fun q => y q.2⟩))))) (fun z => PC.ok (Or.inr ⟨rfl, fun q => z q.1⟩))
def gvP (A : Mem) (D : Int → Int) (t h g : Int) : Prop := ((0 ≤ t ∧ t < D 1) ∧ bAnd (bShr (A.1 68 13) t) 1 = 0) ∧ (0 ≤ h ∧ h < D 0) ∧ (0 ≤ g ∧ g < 5) ∧ 1 ≤ A.1 70 (5 * t + g) ∧ mgP A D t h g
def gvC (A : Mem) (D L : Int → Int) (t h g : Int) : Mem :=
  inc (inc (inc (inc (dec A 70 (5 * t + g) 1) 69 (5 * h + g) 1) 72 (30 * t + 5 * h + g) 1) 74 t (1 + dbl L (A.1 68 14))) 77 t (D (62 + h))
set_option maxHeartbeats 2000000 in
theorem CW.give (c : CW O A a l D L) (t h g : Int) : PC (fX9_giveOne A 68 t h g) (fun r => (r = (0, A) ∧ ¬ gvP A D t h g) ∨ (r = (1, gvC A D L t h g) ∧ gvP A D t h g)) := by
  have hT := c.1.1
  have bd := c.1.bd
  have ha := c.1.2.1
  have e3 := c.1.2.2.2.2.1
  have e0 := c.2.2.1
  have el := c.2.2.2.1
  have b0 := bd.1
  have b1 := bd.2.1
  have w2 := wp68_2 hT
  have w3 := wp68_3 hT
  have w4 := wp68_4 hT
  have w5 := wp68_5 hT
  have w6 := wp68_6 hT
  have w7 := wp68_7 hT
  have w8 := wp68_8 hT
  have w9 := wp68_9 hT
  have w10 := wp68_10 hT
  have w11 := wp68_11 hT
  unfold fX9_giveOne
  rw [c.isFree, e0, c.1.isHouse, isGoodX]
  refine PC.guard (fun _ => PC.flag (fun z1 => PC.guard (fun _ => PC.flag (fun z2 => PC.flag (fun z3 => ?_) (fun z => PC.ok (Or.inl ⟨rfl, fun q => z q.2.2.1⟩))) (fun z => PC.ok (Or.inl ⟨rfl, fun q => z q.2.1⟩)))) (fun z => PC.ok (Or.inl ⟨rfl, fun q => z q.1⟩)))
  rw [tgV z1.1.1 (by omega) z3.1 z3.2, w3]
  refine PC.guard (fun _ => PC.ite (fun z => PC.ok (Or.inl ⟨rfl, fun q => by have := q.2.2.2.1; omega⟩)) (fun z4 => PC.bind (c.takesGift z1.1.1 (by omega) z2.1 (by omega) z3.1 z3.2) (fun r q => ?_)))
  rcases q with ⟨rfl, q⟩ | ⟨rfl, q⟩
  rotate_left
  · exact PC.pos rfl (PC.ok (Or.inl ⟨rfl, fun p => q p.2.2.2.2⟩))
  refine PC.mono (Q := fun r => r = (1, gvC A D L t h g)) ?_ (fun r p => Or.inr ⟨p, z1, z2, z3, by omega, q⟩)
  refine PC.neg n10 (PC.guard (fun _ => PC.guard (fun _ => PC.sM ?_)))
  rw [cellV z2.1 (by omega) z3.1 z3.2]
  simp only [rc_69, rc_70, rc_71, rc_72, rc_73, rc_74, rc_75, rc_76, rc_77, rc_78, w2, w3, w4, w5, w6, w7, w8, w9, w10, w11]
  refine PC.bindE rfl (PC.guard (fun _ => PC.guard (fun _ => PC.sM ?_)))
  rw [c3V z1.1.1 (by omega) z2.1 (by omega) z3.1 z3.2]
  simp only [rc_69, rc_70, rc_71, rc_72, rc_73, rc_74, rc_75, rc_76, rc_77, rc_78, w2, w3, w4, w5, w6, w7, w8, w9, w10, w11]
  refine PC.bindE rfl (PC.guard (fun _ => PC.guard (fun _ => PC.sM ?_)))
  have c3 := ((c.st (x := 70) (i := 5 * t + g) (v := w32 (A.1 70 (5 * t + g) - 1)) (by decide)).st (x := 69) (i := 5 * h + g) (v := w32 ((mst A 70 (5 * t + g) (w32 (A.1 70 (5 * t + g) - 1))).1 69 (5 * h + g) + 1)) (by decide)).st (x := 72) (i := 30 * t + 5 * h + g) (v := w32 ((mst (mst A 70 (5 * t + g) (w32 (A.1 70 (5 * t + g) - 1))) 69 (5 * h + g) (w32 ((mst A 70 (5 * t + g) (w32 (A.1 70 (5 * t + g) - 1))).1 69 (5 * h + g) + 1))).1 72 (30 * t + 5 * h + g) + 1)) (by decide)
  simp only [rc_69, rc_70, rc_71, rc_72, rc_73, rc_74, rc_75, rc_76, rc_77, rc_78, w2, w3, w4, w5, w6, w7, w8, w9, w10, w11, el, c3.2.1.counts]
  refine PC.guard (fun _ => PC.guard (fun _ => PC.bindE rfl (PC.guard (fun _ => PC.sM ?_))))
  have c4 := c3.st (x := 74) (i := t) (v := w32 ((mst (mst (mst A 70 (5 * t + g) (w32 (A.1 70 (5 * t + g) - 1))) 69 (5 * h + g) (w32 ((mst A 70 (5 * t + g) (w32 (A.1 70 (5 * t + g) - 1))).1 69 (5 * h + g) + 1))) 72 (30 * t + 5 * h + g) (w32 ((mst (mst A 70 (5 * t + g) (w32 (A.1 70 (5 * t + g) - 1))) 69 (5 * h + g) (w32 ((mst A 70 (5 * t + g) (w32 (A.1 70 (5 * t + g) - 1))).1 69 (5 * h + g) + 1))).1 72 (30 * t + 5 * h + g) + 1))).1 74 t + (1 + dbl L (A.1 68 14)))) (by decide)
  simp only [rc_69, rc_70, rc_71, rc_72, rc_73, rc_74, rc_75, rc_76, rc_77, rc_78, w2, w3, w4, w5, w6, w7, w8, w9, w10, w11, e0, tp4_ c4.1.1 ha, (c4.1.2.2.2.2.1 h z2.1 (by omega)).1]
  refine PC.guard (fun _ => PC.guard (fun _ => PC.guard (fun _ => PC.guard (fun _ => PC.sM (PC.ok ?_)))))
  rfl
def owS (A : Mem) (L : Int → Int) (t : Int) : Int := w32 (w32 ((A.1 73 t).tdiv (L 0)) - A.1 74 t)
theorem CW.owes (c : CW O A a l D L) (lb : LBd L) (t : Int) : PC (fX9_owesOf A 68 t) (fun r => r = owS A L t) := by
  have hT := c.1.1
  have d := c.2.1
  unfold fX9_owesOf
  rw [wp68_6 hT, wp68_7 hT, c.2.2.2.1]
  refine PC.guard (fun _ => PC.guard (fun _ => PC.guard (fun _ => ?_)))
  unfold fX0_dueOf
  rw [d.2.2.1]
  refine PC.bind (P := fun r => r = w32 ((A.1 73 t).tdiv (L 0))) (PC.guard (fun _ => PC.pos (by have := lb.1; omega) (PC.guard (fun _ => PC.ok rfl)))) (fun r q => PC.guard (fun _ => PC.ok (by rw [q]; rfl)))
def stP (A : Mem) (D L : Int → Int) (x y n : Int) : Prop := ((0 ≤ x ∧ x < D 1) ∧ bAnd (bShr (A.1 68 13) x) 1 = 0) ∧ ((0 ≤ y ∧ y < D 1) ∧ bAnd (bShr (A.1 68 13) y) 1 = 0) ∧ x ≠ y ∧ (D (88 + x) ≠ y ∧ D (88 + y) ≠ x) ∧ 1 ≤ n ∧ n ≤ owS A L x ∧ n ≤ w32 (-owS A L y)
def stC (A : Mem) (x y n : Int) : Mem := dec (inc A 74 x n) 74 y n
theorem TD.areKin {x y : Int} (d : TD A a D) (x0 : 0 ≤ x) (x1 : x < 4) (y0 : 0 ≤ y) (y1 : y < 4) : PC (fX7_areKin A a x y) (fun r => (r = 1 ∧ (D (88 + x) = y ∨ D (88 + y) = x)) ∨ (r = 0 ∧ D (88 + x) ≠ y ∧ D (88 + y) ≠ x)) := by
  have e5 := d.2.2.2.2.2.2
  unfold fX7_areKin
  rw [tp9_ d.1 d.2.1, (e5 x x0 x1).2, (e5 y y0 y1).2]
  exact PC.guard (fun _ => PC.guard (fun _ => PC.ite (fun z => PC.ok (Or.inl ⟨rfl, Or.inl z⟩)) (fun z => PC.guard (fun _ => PC.ite (fun z' => PC.ok (Or.inl ⟨rfl, Or.inr z'⟩)) (fun z' => PC.ok (Or.inr ⟨rfl, z, z'⟩))))))
set_option maxHeartbeats 2000000 in
theorem CW.set (c : CW O A a l D L) (lb : LBd L) (x y n : Int) : PC (fX9_setOff A 68 x y n) (fun r => (r = (0, A) ∧ ¬ stP A D L x y n) ∨ (r = (1, stC A x y n) ∧ stP A D L x y n)) := by
  have hT := c.1.1
  have bd := c.1.bd
  have b1 := bd.2.1
  unfold fX9_setOff
  rw [c.isFree, c.isFree, c.2.2.1]
  refine PC.guard (fun _ => PC.flag (fun z1 => PC.flag (fun z2 => PC.ite (fun z => PC.ok (Or.inl ⟨rfl, fun q => q.2.2.1 z⟩)) (fun z3 => PC.guard (fun _ => PC.bind (c.1.areKin z1.1.1 (by omega) z2.1.1 (by omega)) (fun r q => ?_)))) (fun z => PC.ok (Or.inl ⟨rfl, fun q => z q.2.1⟩))) (fun z => PC.ok (Or.inl ⟨rfl, fun q => z q.1⟩)))
  rcases q with ⟨rfl, q⟩ | ⟨rfl, q⟩
  · exact PC.neg n10 (PC.ok (Or.inl ⟨rfl, fun p => q.elim (fun e => p.2.2.2.1.1 e) (fun e => p.2.2.2.1.2 e)⟩))
  refine PC.pos rfl (PC.ite (fun z => PC.ok (Or.inl ⟨rfl, fun p => by have := p.2.2.2.2.1; omega⟩)) (fun z4 => PC.bind (c.owes lb x) (fun r q1 => PC.ite (fun z => PC.ok (Or.inl ⟨rfl, fun p => by have := p.2.2.2.2.2.1; rw [← q1] at this; omega⟩)) (fun z5 => PC.bind (c.owes lb y) (fun r' q2 => PC.ite (fun z => PC.ok (Or.inl ⟨rfl, fun p => by have := p.2.2.2.2.2.2; rw [← q2] at this; omega⟩)) (fun z6 => ?_))))))
  rw [wp68_7 hT]
  refine PC.mono (Q := fun r => r = (1, stC A x y n)) ?_ (fun r p => Or.inr ⟨p, z1, z2, z3, q, by omega, by rw [← q1]; omega, by rw [← q2]; omega⟩)
  refine PC.guard (fun _ => PC.guard (fun _ => PC.sM ?_))
  simp only [rc_74, wp68_7 hT]
  exact PC.guard (fun _ => PC.guard (fun _ => PC.sM (PC.ok rfl)))
end WalkC
