/-! the class: objects of told things, their rows; copying -/
section Told
variable {M N O : Mem}
/-- an object of kind kd at a: f plain fields, then n rows at a + 1 .. a + n, of lengths L -/
def ObjS (kd f n : Int) (L : Int → Int) (M : Mem) (a : Int) : Prop := M.2.1 a = kd ∧ ∀ j, 1 ≤ j → j ≤ n → M.1 a (j - 1 + f) = a + j ∧ M.2.1 (a + j) = 12 ∧ M.2.2.1 (a + j) = L j
def LT (j : Int) : Int := if j ≤ 2 then 30 else if j ≤ 4 then 6 else if j ≤ 6 then 5 else 4
def LN (_ : Int) : Int := 40
def LG (j : Int) : Int := if j ≤ 2 then 8 else 30
def TownS (M : Mem) (a : Int) : Prop := ObjS 7 2 8 LT M a
def NightS (M : Mem) (a : Int) : Prop := ObjS 1 1 4 LN M a
def SightS (M : Mem) (a : Int) : Prop := ObjS 4 1 3 LG M a
def OC (M N : Mem) (a b f : Int) (L : Int → Int) (j : Int) : Prop := N.2 = M.2 ∧ ∀ x y, N.1 x y = if x = a ∧ 0 ≤ y ∧ y < f then M.1 b y else if (a + 1 ≤ x ∧ x ≤ a + j) ∧ 0 ≤ y ∧ y < L (x - a) then M.1 (x - a + b) y else M.1 x y
theorem OC.step {a b kd f n j : Int} {L : Int → Int} (hA : ObjS kd f n L M a) (hB : ObjS kd f n L M b) (hab : a + n < b ∨ b + n < a) (h0 : 0 ≤ j) (h1 : j + 1 ≤ n) (hL : 0 ≤ L (j + 1)) (h : OC M N a b f L j) : TT (fX10_copyRow N (N.1 b (j + f)) (N.1 a (j + f))) (fun r => OC M r a b f L (j + 1)) := by
  obtain ⟨a1, a2, a3⟩ := hA.2 (j + 1) (by omega) h1
  obtain ⟨b1, b2, b3⟩ := hB.2 (j + 1) (by omega) h1
  rw [show j + 1 - 1 + f = j + f by omega] at a1 b1
  have ea : N.1 a (j + f) = a + (j + 1) := by rw [h.2, if_neg (by omega), if_neg (by omega), a1]
  have eb : N.1 b (j + f) = b + (j + 1) := by rw [h.2, if_neg (by omega), if_neg (by omega), b1]
  rw [ea, eb]
  have kN : N.2.1 = M.2.1 := by rw [h.1]
  have lN : N.2.2.1 = M.2.2.1 := by rw [h.1]
  refine (cpRow_T (n := L (j + 1)) (by rw [kN]; exact b2) (by rw [lN]; exact b3) (by rw [kN]; exact a2) (by rw [lN]; exact a3) hL).mono (fun r q => ⟨q.1.trans h.1, fun x y => ?_⟩)
  by_cases c : x = a + (j + 1)
  · rw [c, q.2.2 y]
    by_cases d : 0 ≤ y ∧ y < L (j + 1)
    · rw [if_pos d, if_neg (show ¬(a + (j + 1) = a ∧ 0 ≤ y ∧ y < f) by omega), if_pos (by rw [show a + (j + 1) - a = j + 1 by omega]; omega), h.2, if_neg (by omega), if_neg (by omega), show a + (j + 1) - a + b = b + (j + 1) by omega]
    · rw [if_neg d, if_neg (show ¬(a + (j + 1) = a ∧ 0 ≤ y ∧ y < f) by omega), if_neg (by rw [show a + (j + 1) - a = j + 1 by omega]; omega), h.2, if_neg (by omega), if_neg (by omega)]
  · rw [q.2.1 x y c, h.2 x y]
    by_cases d : x = a ∧ 0 ≤ y ∧ y < f
    · rw [if_pos d, if_pos d]
    · rw [if_neg d, if_neg d]
      by_cases e : (a + 1 ≤ x ∧ x ≤ a + j) ∧ 0 ≤ y ∧ y < L (x - a)
      · rw [if_pos e, if_pos (by omega)]
      · rw [if_neg e, if_neg (by omega)]
theorem LT0 (j : Int) : 0 ≤ LT j := by unfold LT; split; omega; split; omega; split <;> omega
theorem LG0 (j : Int) : 0 ≤ LG j := by unfold LG; split <;> omega
theorem OC.k {a b f j : Int} {L : Int → Int} (h : OC M N a b f L j) {x v : Int} (e : M.2.1 x = v) : N.2.1 x = v := by rw [h.1]; exact e
theorem townCopy_T {a b : Int} (hA : TownS M a) (hB : TownS M b) (hab : a + 8 < b ∨ b + 8 < a) : TT (fX7_copy M a b) (fun r => OC M r a b 2 LT 8) := by
  unfold fX7_copy
  refine TT.guard hB.1 (TT.guard hA.1 (TT.sM (TT.sM ?_)))
  have h0 : OC M (mst (mst M a 0 (M.1 b 0)) a 1 ((mst M a 0 (M.1 b 0)).1 b 1)) a b 2 LT 0 := by
    refine ⟨rfl, fun x y => ?_⟩
    rw [mst_ne M a 0 (M.1 b 0) b 1 (show b ≠ a by omega), mst_r, mst_r]
    by_cases c : x = a ∧ y = 1
    · rw [if_pos c, if_pos (by omega), c.2]
    · rw [if_neg c]
      by_cases d : x = a ∧ y = 0
      · rw [if_pos d, if_pos (by omega), d.2]
      · rw [if_neg d, if_neg (by omega), if_neg (by omega)]
  generalize mst (mst M a 0 (M.1 b 0)) a 1 ((mst M a 0 (M.1 b 0)).1 b 1) = N at *
  refine TT.bind (OC.step hA hB hab (by decide) (by decide) (LT0 _) h0) (fun r1 q1 => TT.guard (q1.k hB.1) (TT.guard (q1.k hA.1) ?_))
  refine TT.bind (OC.step hA hB hab (by decide) (by decide) (LT0 _) q1) (fun r2 q2 => TT.guard (q2.k hB.1) (TT.guard (q2.k hA.1) ?_))
  refine TT.bind (OC.step hA hB hab (by decide) (by decide) (LT0 _) q2) (fun r3 q3 => TT.guard (q3.k hB.1) (TT.guard (q3.k hA.1) ?_))
  refine TT.bind (OC.step hA hB hab (by decide) (by decide) (LT0 _) q3) (fun r4 q4 => TT.guard (q4.k hB.1) (TT.guard (q4.k hA.1) ?_))
  refine TT.bind (OC.step hA hB hab (by decide) (by decide) (LT0 _) q4) (fun r5 q5 => TT.guard (q5.k hB.1) (TT.guard (q5.k hA.1) ?_))
  refine TT.bind (OC.step hA hB hab (by decide) (by decide) (LT0 _) q5) (fun r6 q6 => TT.guard (q6.k hB.1) (TT.guard (q6.k hA.1) ?_))
  refine TT.bind (OC.step hA hB hab (by decide) (by decide) (LT0 _) q6) (fun r7 q7 => TT.guard (q7.k hB.1) (TT.guard (q7.k hA.1) ?_))
  exact TT.bind (OC.step hA hB hab (by decide) (by decide) (LT0 _) q7) (fun r8 q8 => TT.ok q8)
theorem lawCopy_T {a b : Int} (hA : M.2.1 a = 0) (hB : M.2.1 b = 0) (hab : a ≠ b) : TT (fX0_copy M a b) (fun r => OC M r a b 3 LT 0) := by
  unfold fX0_copy
  refine TT.guard hB (TT.guard hA (TT.sM (TT.sM (TT.sM (TT.ok ⟨rfl, fun x y => ?_⟩)))))
  have hb : b ≠ a := fun e => hab e.symm
  rw [mst_r, mst_ne _ _ _ _ _ _ hb, mst_ne _ _ _ _ _ _ hb, mst_r, mst_ne _ _ _ _ _ _ hb, mst_r]
  by_cases c : x = a ∧ y = 2
  · rw [if_pos c, if_pos (by omega), c.2]
  · rw [if_neg c]
    by_cases d : x = a ∧ y = 1
    · rw [if_pos d, if_pos (by omega), d.2]
    · rw [if_neg d]
      by_cases e : x = a ∧ y = 0
      · rw [if_pos e, if_pos (by omega), e.2]
      · rw [if_neg e, if_neg (by omega), if_neg (by omega)]
theorem oc1 {a b : Int} (hab : b ≠ a) (L : Int → Int) : OC M (mst M a 0 (M.1 b 0)) a b 1 L 0 := by
  refine ⟨rfl, fun x y => ?_⟩
  rw [mst_r]
  by_cases d : x = a ∧ y = 0
  · rw [if_pos d, if_pos (by omega), d.2]
  · rw [if_neg d, if_neg (by omega), if_neg (by omega)]
theorem nightCopy_T {a b : Int} (hA : NightS M a) (hB : NightS M b) (hab : a + 4 < b ∨ b + 4 < a) : TT (fX1_copy M a b) (fun r => OC M r a b 1 LN 4) := by
  unfold fX1_copy
  have z : ∀ j, 0 ≤ LN j := fun j => by unfold LN; decide
  refine TT.guard hB.1 (TT.guard hA.1 (TT.sM ?_))
  have h0 := oc1 (M := M) (show b ≠ a by omega) LN
  refine TT.bind (OC.step hA hB hab (by decide) (by decide) (z _) h0) (fun r1 q1 => TT.guard (q1.k hB.1) (TT.guard (q1.k hA.1) ?_))
  refine TT.bind (OC.step hA hB hab (by decide) (by decide) (z _) q1) (fun r2 q2 => TT.guard (q2.k hB.1) (TT.guard (q2.k hA.1) ?_))
  refine TT.bind (OC.step hA hB hab (by decide) (by decide) (z _) q2) (fun r3 q3 => TT.guard (q3.k hB.1) (TT.guard (q3.k hA.1) ?_))
  exact TT.bind (OC.step hA hB hab (by decide) (by decide) (z _) q3) (fun r4 q4 => TT.ok q4)
theorem sightCopy_T {a b : Int} (hA : SightS M a) (hB : SightS M b) (hab : a + 3 < b ∨ b + 3 < a) : TT (fX4_copy M a b) (fun r => OC M r a b 1 LG 3) := by
  unfold fX4_copy
  refine TT.guard hB.1 (TT.guard hA.1 (TT.sM ?_))
  have h0 := oc1 (M := M) (show b ≠ a by omega) LG
  refine TT.bind (OC.step hA hB hab (by decide) (by decide) (LG0 _) h0) (fun r1 q1 => TT.guard (q1.k hB.1) (TT.guard (q1.k hA.1) ?_))
  refine TT.bind (OC.step hA hB hab (by decide) (by decide) (LG0 _) q1) (fun r2 q2 => TT.guard (q2.k hB.1) (TT.guard (q2.k hA.1) ?_))
  exact TT.bind (OC.step hA hB hab (by decide) (by decide) (LG0 _) q2) (fun r3 q3 => TT.ok q3)
/-! a whole Told copied: its block of 45 cells -/
def CPS (M N : Mem) (b c : Int) (S : Int → Int → Bool) : Prop := N.2 = M.2 ∧ ∀ x y, N.1 x y = if (b ≤ x ∧ x < b + 45) ∧ S (x - b) y = true then M.1 (x - b + c) y else M.1 x y
theorem CPS.comp {b c : Int} {S T : Int → Int → Bool} (hbc : b + 45 ≤ c ∨ c + 45 ≤ b) (h : CPS M N b c S) (g : CPS N O b c T) : CPS M O b c (fun o y => S o y || T o y) := by
  refine ⟨g.1.trans h.1, fun x y => ?_⟩
  rw [g.2 x y]
  by_cases t : (b ≤ x ∧ x < b + 45) ∧ T (x - b) y = true
  · rw [if_pos t, if_pos ⟨t.1, by show (S (x - b) y || T (x - b) y) = true; rw [t.2, Bool.or_true]⟩, h.2, if_neg (by omega)]
  · rw [if_neg t, h.2 x y]
    by_cases s : (b ≤ x ∧ x < b + 45) ∧ S (x - b) y = true
    · rw [if_pos s, if_pos ⟨s.1, by show (S (x - b) y || T (x - b) y) = true; rw [s.2, Bool.true_or]⟩]
    · rw [if_neg s, if_neg (fun q => ?_)]
      have q2 := q.2
      rw [Bool.or_eq_true] at q2
      exact q2.elim (fun z => s ⟨q.1, z⟩) (fun z => t ⟨q.1, z⟩)
def objT (o f n : Int) (L : Int → Int) (x y : Int) : Bool := (decide (x = o) && decide (0 ≤ y ∧ y < f)) || (decide (o + 1 ≤ x ∧ x ≤ o + n) && decide (0 ≤ y ∧ y < L (x - o)))
theorem OC.cps {b c o f n : Int} {L : Int → Int} (h0 : 0 ≤ o) (h1 : o + n < 45) (hn : 0 ≤ n) (h : OC M N (b + o) (c + o) f L n) : CPS M N b c (objT o f n L) := by
  refine ⟨h.1, fun x y => ?_⟩
  rw [h.2 x y]
  by_cases p : x = b + o ∧ 0 ≤ y ∧ y < f
  · have e : objT o f n L (x - b) y = true := by
      unfold objT
      rw [decide_eq_true (show x - b = o by omega), decide_eq_true p.2, Bool.and_self, Bool.true_or]
    rw [if_pos p, if_pos ⟨by omega, e⟩, p.1, show b + o - b + c = c + o by omega]
  · rw [if_neg p]
    by_cases q : (b + o + 1 ≤ x ∧ x ≤ b + o + n) ∧ 0 ≤ y ∧ y < L (x - (b + o))
    · have e : objT o f n L (x - b) y = true := by
        unfold objT
        rw [Bool.or_eq_true]
        right
        rw [decide_eq_true (show o + 1 ≤ x - b ∧ x - b ≤ o + n by omega), show x - b - o = x - (b + o) by omega, decide_eq_true q.2, Bool.and_self]
      rw [if_pos q, if_pos ⟨by omega, e⟩, show x - (b + o) + (c + o) = x - b + c by omega]
    · rw [if_neg q, if_neg]
      rintro ⟨r1, r2⟩
      unfold objT at r2
      rw [Bool.or_eq_true, Bool.and_eq_true, Bool.and_eq_true, decide_eq_true_eq, decide_eq_true_eq, decide_eq_true_eq, decide_eq_true_eq, show x - b - o = x - (b + o) by omega] at r2
      rcases r2 with r2 | r2
      · exact p ⟨by omega, r2.2⟩
      · exact q ⟨by omega, r2.2⟩
/-- the shape of a Told at b -/
def HdS (M : Mem) (b : Int) : Prop := M.2.1 b = 6 ∧ (M.1 b 0 = b + 1 ∧ M.2.1 (b + 1) = 11 ∧ M.2.2.1 (b + 1) = 600) ∧ (M.1 b 4 = b + 2 ∧ M.2.1 (b + 2) = 12 ∧ M.2.2.1 (b + 2) = 4) ∧ (M.1 b 5 = b + 3 ∧ M.2.1 (b + 3) = 18 ∧ M.2.2.1 (b + 3) = 2) ∧ (M.1 b 6 = b + 4 ∧ M.2.1 (b + 4) = 14 ∧ M.2.2.1 (b + 4) = 2) ∧ (M.1 b 7 = b + 5 ∧ M.2.1 (b + 5) = 15 ∧ M.2.2.1 (b + 5) = 2) ∧ (M.1 b 8 = b + 6 ∧ M.2.1 (b + 6) = 16 ∧ M.2.2.1 (b + 6) = 2)
def CpS (M : Mem) (b j : Int) : Prop := (M.1 (b + 3) j = b + (7 + 19 * j) ∧ TownS M (b + (7 + 19 * j))) ∧ (M.1 (b + 4) j = b + (16 + 19 * j) ∧ M.2.1 (b + (16 + 19 * j)) = 0) ∧ (M.1 (b + 5) j = b + (17 + 19 * j) ∧ NightS M (b + (17 + 19 * j))) ∧ (M.1 (b + 6) j = b + (22 + 19 * j) ∧ SightS M (b + (22 + 19 * j)))
def ToldS (M : Mem) (b : Int) : Prop := HdS M b ∧ ∀ j, 0 ≤ j → j < 2 → CpS M b j
/-- the cells of a Told's block that hold no pointer -/
def hdT (x y : Int) : Bool := (decide (x = 0) && decide (1 ≤ y ∧ y ≤ 3)) || (decide (x = 1) && decide (0 ≤ y ∧ y < 600)) || (decide (x = 2) && decide (0 ≤ y ∧ y < 4))
def cpT (j x y : Int) : Bool := objT (7 + 19 * j) 2 8 LT x y || objT (16 + 19 * j) 3 0 LT x y || objT (17 + 19 * j) 1 4 LN x y || objT (22 + 19 * j) 1 3 LG x y
def datT (x y : Int) : Bool := hdT x y || cpT 0 x y || cpT 1 x y
/-- a pointer's cell of the block isn't of the set -/
def Free (S : Int → Int → Bool) : Prop := (∀ y, y = 0 ∨ 4 ≤ y → S 0 y = false) ∧ (∀ x y, 3 ≤ x → x ≤ 6 → S x y = false) ∧ (∀ j y, 0 ≤ j → j < 2 → (2 ≤ y → S (7 + 19 * j) y = false) ∧ (1 ≤ y → S (17 + 19 * j) y = false) ∧ (1 ≤ y → S (22 + 19 * j) y = false))
theorem Free.or {S T : Int → Int → Bool} (h : Free S) (g : Free T) : Free (fun x y => S x y || T x y) := by
  refine ⟨fun y e => ?_, fun x y a b => ?_, fun j y a b => ⟨fun e => ?_, fun e => ?_, fun e => ?_⟩⟩
  · show (S 0 y || T 0 y) = false
    rw [h.1 y e, g.1 y e]; rfl
  · show (S x y || T x y) = false
    rw [h.2.1 x y a b, g.2.1 x y a b]; rfl
  · show (S _ y || T _ y) = false
    rw [(h.2.2 j y a b).1 e, (g.2.2 j y a b).1 e]; rfl
  · show (S _ y || T _ y) = false
    rw [(h.2.2 j y a b).2.1 e, (g.2.2 j y a b).2.1 e]; rfl
  · show (S _ y || T _ y) = false
    rw [(h.2.2 j y a b).2.2 e, (g.2.2 j y a b).2.2 e]; rfl
theorem objT_no {o f n : Int} {L : Int → Int} {x y : Int} (h : ¬(x = o ∧ 0 ≤ y ∧ y < f)) (g : ¬(o + 1 ≤ x ∧ x ≤ o + n)) : objT o f n L x y = false := by
  unfold objT
  rw [Bool.or_eq_false_iff, Bool.and_eq_false_iff, Bool.and_eq_false_iff, decide_eq_false_iff_not, decide_eq_false_iff_not, decide_eq_false_iff_not]
  exact ⟨by omega, Or.inl g⟩
theorem Free.obj7 {j : Int} (h : 0 ≤ j) (g : j < 2) : Free (objT (7 + 19 * j) 2 8 LT) := ⟨fun y e => objT_no (by omega) (by omega), fun x y a b => objT_no (by omega) (by omega), fun i y a b => ⟨fun e => objT_no (by omega) (by omega), fun e => objT_no (by omega) (by omega), fun e => objT_no (by omega) (by omega)⟩⟩
theorem Free.obj16 {j : Int} (h : 0 ≤ j) (g : j < 2) : Free (objT (16 + 19 * j) 3 0 LT) := ⟨fun y e => objT_no (by omega) (by omega), fun x y a b => objT_no (by omega) (by omega), fun i y a b => ⟨fun e => objT_no (by omega) (by omega), fun e => objT_no (by omega) (by omega), fun e => objT_no (by omega) (by omega)⟩⟩
theorem Free.obj17 {j : Int} (h : 0 ≤ j) (g : j < 2) : Free (objT (17 + 19 * j) 1 4 LN) := ⟨fun y e => objT_no (by omega) (by omega), fun x y a b => objT_no (by omega) (by omega), fun i y a b => ⟨fun e => objT_no (by omega) (by omega), fun e => objT_no (by omega) (by omega), fun e => objT_no (by omega) (by omega)⟩⟩
theorem Free.obj22 {j : Int} (h : 0 ≤ j) (g : j < 2) : Free (objT (22 + 19 * j) 1 3 LG) := ⟨fun y e => objT_no (by omega) (by omega), fun x y a b => objT_no (by omega) (by omega), fun i y a b => ⟨fun e => objT_no (by omega) (by omega), fun e => objT_no (by omega) (by omega), fun e => objT_no (by omega) (by omega)⟩⟩
theorem Free.hd : Free hdT := by
  have k : ∀ x y, ¬(x = 0 ∧ 1 ≤ y ∧ y ≤ 3) → x ≠ 1 → x ≠ 2 → hdT x y = false := by
    intro x y a b c
    unfold hdT
    simp only [Bool.or_eq_false_iff, Bool.and_eq_false_iff, decide_eq_false_iff_not]
    omega
  exact ⟨fun y e => k _ _ (by omega) (by omega) (by omega), fun x y a b => k _ _ (by omega) (by omega) (by omega), fun i y a b => ⟨fun e => k _ _ (by omega) (by omega) (by omega), fun e => k _ _ (by omega) (by omega) (by omega), fun e => k _ _ (by omega) (by omega) (by omega)⟩⟩
theorem CPS.at {b c : Int} {S : Int → Int → Bool} (h : CPS M N b c S) {o : Int} (h0 : 0 ≤ o) (h1 : o < 45) (y : Int) : N.1 (b + o) y = if S o y = true then M.1 (c + o) y else M.1 (b + o) y := by
  rw [h.2, show b + o - b = o by omega, show o + c = c + o by omega]
  by_cases q : S o y = true
  · rw [if_pos ⟨by omega, q⟩, if_pos q]
  · rw [if_neg (fun z => q z.2), if_neg q]
theorem CPS.fr {b c : Int} {S : Int → Int → Bool} (h : CPS M N b c S) {o : Int} (h0 : 0 ≤ o) (h1 : o < 45) {y : Int} (hs : S o y = false) : N.1 (b + o) y = M.1 (b + o) y := by
  rw [h.at h0 h1, if_neg (by rw [hs]; decide)]
theorem ObjS.fr {kd f n a : Int} {L : Int → Int} (h : ObjS kd f n L M a) (e2 : N.2 = M.2) (e : ∀ y, f ≤ y → N.1 a y = M.1 a y) : ObjS kd f n L N a := by
  refine ⟨by rw [e2]; exact h.1, fun j a b => ?_⟩
  have g := h.2 j a b
  rw [e _ (by omega), e2]; exact g
theorem CpS.fr {b j : Int} (h : CpS M b j) (e2 : N.2 = M.2) (e : ∀ x y, 3 ≤ x → x ≤ 6 → N.1 (b + x) y = M.1 (b + x) y) (e7 : ∀ y, 2 ≤ y → N.1 (b + (7 + 19 * j)) y = M.1 (b + (7 + 19 * j)) y) (e17 : ∀ y, 1 ≤ y → N.1 (b + (17 + 19 * j)) y = M.1 (b + (17 + 19 * j)) y) (e22 : ∀ y, 1 ≤ y → N.1 (b + (22 + 19 * j)) y = M.1 (b + (22 + 19 * j)) y) : CpS N b j := by
  obtain ⟨⟨a1, a2⟩, ⟨a3, a4⟩, ⟨a5, a6⟩, a7, a8⟩ := h
  refine ⟨⟨?_, a2.fr e2 e7⟩, ⟨?_, by rw [e2]; exact a4⟩, ⟨?_, a6.fr e2 e17⟩, ?_, a8.fr e2 e22⟩
  · rw [e 3 _ (by decide) (by decide)]; exact a1
  · rw [e 4 _ (by decide) (by decide)]; exact a3
  · rw [e 5 _ (by decide) (by decide)]; exact a5
  · rw [e 6 _ (by decide) (by decide)]; exact a7
theorem HdS.fr {b : Int} (h : HdS M b) (e2 : N.2 = M.2) (e : ∀ y, y = 0 ∨ 4 ≤ y → N.1 b y = M.1 b y) : HdS N b := by
  unfold HdS at *
  rw [e2, e 0 (by decide), e 4 (by decide), e 5 (by decide), e 6 (by decide), e 7 (by decide), e 8 (by decide)]; exact h
theorem ToldS.cps {b c : Int} {S : Int → Int → Bool} (hS : Free S) (h : ToldS M b) (q : CPS M N b c S) : ToldS N b := by
  refine ⟨h.1.fr q.1 (fun y e => ?_), fun j j0 j2 => (h.2 j j0 j2).fr q.1 (fun x y a b => q.fr (by omega) (by omega) (hS.2.1 x y a b)) (fun y e => q.fr (by omega) (by omega) ((hS.2.2 j y j0 j2).1 e)) (fun y e => q.fr (by omega) (by omega) ((hS.2.2 j y j0 j2).2.1 e)) (fun y e => q.fr (by omega) (by omega) ((hS.2.2 j y j0 j2).2.2 e))⟩
  have g := q.fr (o := 0) (by decide) (by decide) (hS.1 y e)
  rw [Int.add_zero] at g; exact g
theorem ToldS.off {b c : Int} {S : Int → Int → Bool} (hbc : b + 45 ≤ c ∨ c + 45 ≤ b) (h : ToldS M c) (q : CPS M N b c S) : ToldS N c := by
  have e : ∀ o y, 0 ≤ o → o < 45 → N.1 (c + o) y = M.1 (c + o) y := fun o y a b => by rw [q.2, if_neg (by omega)]
  refine ⟨h.1.fr q.1 (fun y _ => ?_), fun j j0 j2 => (h.2 j j0 j2).fr q.1 (fun x y a b => e x y (by omega) (by omega)) (fun y _ => e _ y (by omega) (by omega)) (fun y _ => e _ y (by omega) (by omega)) (fun y _ => e _ y (by omega) (by omega))⟩
  have g := e 0 y (by decide) (by decide)
  rw [Int.add_zero] at g; exact g
end Told
