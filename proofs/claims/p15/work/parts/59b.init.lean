/-! the class: objects cleared and made anew; image -/
section Init
variable {M N O : Mem}
def FO (M N : Mem) (a f n : Int) : Prop := N.2 = M.2 ∧ ∀ x y, ((x < a ∨ a + n < x) ∨ (x = a ∧ f ≤ y)) → N.1 x y = M.1 x y
theorem FO.self (a f n : Int) : FO M M a f n := ⟨rfl, fun _ _ _ => rfl⟩
theorem FO.trans {a f n : Int} (h : FO M N a f n) (g : FO N O a f n) : FO M O a f n := ⟨g.1.trans h.1, fun x y q => (g.2 x y q).trans (h.2 x y q)⟩
theorem FO.st0 {a f n i v : Int} (h : FO M N a f n) (hi : i < f) (hn : 0 ≤ n) : FO M (mst N a i v) a f n := ⟨h.1, fun x y q => by rw [mst_r, if_neg (by omega)]; exact h.2 x y q⟩
theorem FO.str {a f n j i v : Int} (h : FO M N a f n) (h1 : 1 ≤ j) (h2 : j ≤ n) : FO M (mst N (a + j) i v) a f n := ⟨h.1, fun x y q => by rw [mst_r, if_neg (by omega)]; exact h.2 x y q⟩
theorem ObjS.fo {kd f n a : Int} {L : Int → Int} (h : ObjS kd f n L M a) (g : FO M N a f n) : ObjS kd f n L N a := h.fr g.1 (fun y e => g.2 a y (Or.inr ⟨rfl, e⟩))
theorem fillO_T {kd f n a j : Int} {L : Int → Int} (v : Int) (h : ObjS kd f n L M a) (h1 : 1 ≤ j) (h2 : j ≤ n) (hL : 0 ≤ L j) (hL2 : L j ≤ 1000) : TT (fX10_fillRow M (M.1 a (j - 1 + f)) v) (fun r => FO M r a f n ∧ (∀ x y, x ≠ a + j → r.1 x y = M.1 x y) ∧ ∀ y, 0 ≤ y → y < L j → r.1 (a + j) y = v) := by
  obtain ⟨p1, p2, p3⟩ := h.2 j h1 h2
  rw [p1]
  refine (fillRow_T v p2 p3 hL hL2).mono (fun r q => ⟨⟨q.1, fun x y z => q.2.1 x y (by omega)⟩, q.2.1, fun y a b => by rw [q.2.2, if_pos ⟨a, b⟩]⟩)
def tlo (j : Int) : Int := if j = 8 then -1 else if j = 5 then 1 else 0
def thi (j : Int) : Int := if j = 8 then 3 else if j = 4 then 5 else 9
def TownR (M : Mem) (a : Int) : Prop := (1 ≤ M.1 a 0 ∧ M.1 a 0 ≤ 6) ∧ (0 ≤ M.1 a 1 ∧ M.1 a 1 ≤ 4) ∧ ∀ j y, 1 ≤ j → j ≤ 8 → 0 ≤ y → y < LT j → tlo j ≤ M.1 (a + j) y ∧ M.1 (a + j) y ≤ thi j
def CL (M N : Mem) (a m : Int) : Prop := FO M N a 2 8 ∧ (N.1 a 0 = 3 ∧ N.1 a 1 = 0) ∧ ∀ j y, 1 ≤ j → j ≤ m → 0 ≤ y → y < LT j → tlo j ≤ N.1 (a + j) y ∧ N.1 (a + j) y ≤ thi j
theorem LTb (j : Int) : LT j ≤ 1000 := by unfold LT; split; omega; split; omega; split <;> omega
theorem CL.fill {a m v : Int} (hS : TownS M a) (m0 : 0 ≤ m) (m8 : m + 1 ≤ 8) (h : CL M N a m) (v0 : tlo (m + 1) ≤ v) (v1 : v ≤ thi (m + 1)) : TT (fX10_fillRow N (N.1 a (m + 2)) v) (fun r => CL M r a (m + 1)) := by
  have hSN : TownS N a := hS.fo h.1
  have e := fillO_T (j := m + 1) v hSN (by omega) m8 (LT0 _) (LTb _)
  rw [show m + 1 - 1 + 2 = m + 2 by omega] at e
  refine e.mono (fun r q => ⟨h.1.trans q.1, ⟨?_, ?_⟩, fun j y j1 j2 y0 y1 => ?_⟩)
  · rw [q.2.1 a 0 (by omega)]; exact h.2.1.1
  · rw [q.2.1 a 1 (by omega)]; exact h.2.1.2
  · by_cases c : j = m + 1
    · subst c
      rw [q.2.2 y y0 y1]; exact ⟨v0, v1⟩
    · rw [q.2.1 _ y (by omega)]; exact h.2.2 j y j1 (by omega) y0 y1
theorem CL.k {a m : Int} (hS : TownS M a) (h : CL M N a m) : N.2.1 a = 7 := by rw [h.1.1]; exact hS.1
theorem townClear_T {a : Int} (hS : TownS M a) : TT (fX7_clear M a) (fun r => FO M r a 2 8 ∧ TownR r a) := by
  unfold fX7_clear
  refine TT.guard hS.1 (TT.sM (TT.sM ?_))
  have h0 : CL M (mst (mst M a 0 3) a 1 0) a 0 := ⟨((FO.self a 2 8).st0 (by decide) (by decide)).st0 (by decide) (by decide), ⟨by rw [mst_nf _ _ _ _ _ _ (by decide), mst_at], mst_at _ _ _ _⟩, fun j y j1 j2 _ _ => by omega⟩
  generalize mst (mst M a 0 3) a 1 0 = N at *
  refine TT.bind (CL.fill hS (by decide) (by decide) h0 (by decide) (by decide)) (fun r1 q1 => TT.guard (q1.k hS) ?_)
  refine TT.bind (CL.fill hS (by decide) (by decide) q1 (by decide) (by decide)) (fun r2 q2 => TT.guard (q2.k hS) ?_)
  refine TT.bind (CL.fill hS (by decide) (by decide) q2 (by decide) (by decide)) (fun r3 q3 => ?_)
  refine TT.iter (fun s : Int × Mem => (0 ≤ s.1 ∧ s.1 ≤ 6) ∧ CL M s.2 a 3 ∧ ∀ y, 0 ≤ y → y < s.1 → 0 ≤ s.2.1 (a + 4) y ∧ s.2.1 (a + 4) y ≤ 5) (fun s => (6 - s.1).toNat) ?_ BIG (0, r3) ⟨⟨by dsimp only; omega, by dsimp only; omega⟩, q3, fun y a b => by dsimp only at b; omega⟩ (by unfold BIG; dsimp only; omega)
  rintro rec ⟨i, s⟩ ⟨⟨i0, i6⟩, hC, h4⟩ hr
  simp only at i0 i6 hC h4 ⊢
  obtain ⟨p1, p2, p3⟩ := (hS.fo hC.1 : TownS s a).2 4 (by decide) (by decide)
  have p1' : s.1 a 5 = a + 4 := p1
  have p3' : s.2.2.1 (a + 4) = 6 := p3
  rw [p1']
  refine TT.ite (fun c => ?_) (fun c => ?_)
  · refine TT.guard (hC.k hS) (TT.guard ⟨p2, i0, by rw [p3']; exact c⟩ (TT.sM (hr _ ⟨⟨by dsimp only [w32]; omega, by dsimp only [w32]; omega⟩, ⟨hC.1.str (by decide) (by decide), ⟨?_, ?_⟩, fun j y j1 j2 y0 y1 => ?_⟩, fun y y0 y1 => ?_⟩ (by dsimp only [w32]; omega))))
    · show (mst s (a + 4) i i).1 a 0 = 3
      rw [mst_ne _ _ _ _ _ _ (by omega)]; exact hC.2.1.1
    · show (mst s (a + 4) i i).1 a 1 = 0
      rw [mst_ne _ _ _ _ _ _ (by omega)]; exact hC.2.1.2
    · show tlo j ≤ (mst s (a + 4) i i).1 (a + j) y ∧ (mst s (a + 4) i i).1 (a + j) y ≤ thi j
      rw [mst_ne _ _ _ _ _ _ (by omega)]; exact hC.2.2 j y j1 j2 y0 y1
    · have y1' : y < w32 (i + 1) := y1
      rw [w32_of (by omega) (by omega)] at y1'
      show 0 ≤ (mst s (a + 4) i i).1 (a + 4) y ∧ (mst s (a + 4) i i).1 (a + 4) y ≤ 5
      rw [mst_r]
      by_cases q : y = i
      · rw [if_pos ⟨rfl, q⟩]; omega
      · rw [if_neg (fun z => q z.2)]; exact h4 y y0 (by omega)
  · have q4 : CL M s a 4 := ⟨hC.1, hC.2.1, fun j y j1 j2 y0 y1 => by
      by_cases z : j = 4
      · subst z
        exact h4 y y0 (by have : LT 4 = 6 := rfl; omega)
      · exact hC.2.2 j y j1 (by omega) y0 y1⟩
    refine TT.guard (hC.k hS) (TT.bind (CL.fill hS (by decide) (by decide) q4 (by decide) (by decide)) (fun r5 q5 => TT.guard (q5.k hS) ?_))
    refine TT.bind (CL.fill hS (by decide) (by decide) q5 (by decide) (by decide)) (fun r6 q6 => TT.guard (q6.k hS) ?_)
    refine TT.bind (CL.fill hS (by decide) (by decide) q6 (by decide) (by decide)) (fun r7 q7 => TT.guard (q7.k hS) ?_)
    refine TT.bind (CL.fill hS (by decide) (by decide) q7 (by decide) (by decide)) (fun r8 q8 => TT.ok ⟨q8.1, ?_, ?_, q8.2.2⟩)
    · rw [q8.2.1.1]; decide
    · rw [q8.2.1.2]; decide
theorem sightClear_T {a : Int} (hS : SightS M a) : TT (fX4_clear M a) (fun r => FO M r a 1 3 ∧ r.1 a 0 = 0 ∧ (∀ y, 0 ≤ y → y < 30 → r.1 (a + 3) y = -1) ∧ ∀ x y, x ≠ a → x ≠ a + 3 → r.1 x y = M.1 x y) := by
  unfold fX4_clear
  refine TT.guard hS.1 (TT.sM ?_)
  have h0 : FO M (mst M a 0 0) a 1 3 := (FO.self a 1 3).st0 (by decide) (by decide)
  have e0 : (mst M a 0 0).1 a 0 = 0 := mst_at _ _ _ _
  have e1 : ∀ x y, x ≠ a → (mst M a 0 0).1 x y = M.1 x y := fun x y h => mst_ne _ _ _ _ _ _ h
  generalize mst M a 0 0 = N at *
  have hSN : SightS N a := hS.fo h0
  refine TT.bind (fillO_T (j := 3) (-1) hSN (by decide) (by decide) (LG0 _) (by decide)) (fun r q => TT.ok ⟨h0.trans q.1, ?_, q.2.2, fun x y z1 z2 => ?_⟩)
  · rw [q.2.1 a 0 (by omega)]; exact e0
  · rw [q.2.1 x y z2, e1 x y z1]
/-! made anew -/
theorem TI.obj {M0 : Mem} {a kd f n : Int} {L : Int → Int} (hn : 0 ≤ n) (ha : a + 1 = M0.2.2.2) (hk : M0.2.1 a = kd) (h : TI M0 M a (fun i => i - 1 + f) (fun _ => 12) L n) : ObjS kd f n L M a := ⟨by rw [(h.2.1 a (by omega)).1]; exact hk, h.2.2⟩
def NewQ (M r : Mem) (a n : Int) : Prop := (r.2.2.2 : Int) = M.2.2.2 + n ∧ FZ M r M.2.2.2 (fun x _ => x = a)
theorem TI.newq {M0 : Mem} {a f n : Int} {F K L : Int → Int} (ha : a + 1 = M0.2.2.2) (h : TI M0 M a F K L n) (g : FO M N a f n) : NewQ M0 N a n := by
  refine ⟨by rw [g.1]; exact h.1, fun x hx => ⟨by rw [g.1]; exact (h.2.1 x hx).1, by rw [g.1]; exact (h.2.1 x hx).2.1, fun y hy => ?_⟩⟩
  rw [g.2 x y (Or.inl (Or.inl (by have : x ≠ a := hy; omega)))]; exact (h.2.1 x hx).2.2 y hy
theorem townInit_T {a : Int} (a0 : 0 ≤ a) (ha : a + 1 = M.2.2.2) (hk : M.2.1 a = 7) : TT (fX7_init M a) (fun r => NewQ M r a 8 ∧ TownS r a) := by
  unfold fX7_init
  refine TT.guard a0 ?_
  refine TT.al (F := fun i => i - 1 + 2) (K := fun _ => 12) (L := LT) ha hk (by decide) (TI.zero _ _ _ _) rfl rfl rfl (fun i h1 h2 => by omega) (fun N1 h1 => ?_)
  refine TT.al ha hk (by decide) h1 rfl rfl rfl (fun i h1 h2 => by omega) (fun N2 h2 => ?_)
  refine TT.al ha hk (by decide) h2 rfl rfl rfl (fun i h1 h2 => by omega) (fun N3 h3 => ?_)
  refine TT.al ha hk (by decide) h3 rfl rfl rfl (fun i h1 h2 => by omega) (fun N4 h4 => ?_)
  refine TT.al ha hk (by decide) h4 rfl rfl rfl (fun i h1 h2 => by omega) (fun N5 h5 => ?_)
  refine TT.al ha hk (by decide) h5 rfl rfl rfl (fun i h1 h2 => by omega) (fun N6 h6 => ?_)
  refine TT.al ha hk (by decide) h6 rfl rfl rfl (fun i h1 h2 => by omega) (fun N7 h7 => ?_)
  refine TT.al ha hk (by decide) h7 rfl rfl rfl (fun i h1 h2 => by omega) (fun N8 h8 => ?_)
  have hS : TownS N8 a := TI.obj (n := 8) (by decide) ha hk h8
  exact TT.bind (townClear_T hS) (fun r q => TT.ok ⟨TI.newq (n := 8) ha h8 q.1, hS.fo q.1⟩)
theorem nightInit_T {a : Int} (a0 : 0 ≤ a) (ha : a + 1 = M.2.2.2) (hk : M.2.1 a = 1) : TT (fX1_init M a) (fun r => NewQ M r a 4 ∧ NightS r a) := by
  unfold fX1_init
  refine TT.guard a0 (TT.guard hk (TT.sM ?_))
  have h0 : TI M (mst M a 0 0) a (fun i => i - 1 + 1) (fun _ => 12) LN 0 := (TI.zero _ _ _ _).st (fun i h1 h2 => by omega)
  refine TT.al ha hk (by decide) h0 rfl rfl rfl (fun i h1 h2 => by omega) (fun N1 h1 => ?_)
  refine TT.al ha hk (by decide) h1 rfl rfl rfl (fun i h1 h2 => by omega) (fun N2 h2 => ?_)
  refine TT.al ha hk (by decide) h2 rfl rfl rfl (fun i h1 h2 => by omega) (fun N3 h3 => ?_)
  refine TT.al ha hk (by decide) h3 rfl rfl rfl (fun i h1 h2 => by omega) (fun N4 h4 => ?_)
  exact TT.ok ⟨TI.newq (n := 4) (f := 1) ha h4 (FO.self _ _ _), TI.obj (n := 4) (by decide) ha hk h4⟩
theorem sightInit_T {a : Int} (a0 : 0 ≤ a) (ha : a + 1 = M.2.2.2) (hk : M.2.1 a = 4) : TT (fX4_init M a) (fun r => NewQ M r a 3 ∧ SightS r a) := by
  unfold fX4_init
  refine TT.guard a0 (TT.guard hk (TT.sM ?_))
  have h0 : TI M (mst M a 0 0) a (fun i => i - 1 + 1) (fun _ => 12) LG 0 := (TI.zero _ _ _ _).st (fun i h1 h2 => by omega)
  refine TT.al ha hk (by decide) h0 rfl rfl rfl (fun i h1 h2 => by omega) (fun N1 h1 => ?_)
  refine TT.al ha hk (by decide) h1 rfl rfl rfl (fun i h1 h2 => by omega) (fun N2 h2 => ?_)
  refine TT.al ha hk (by decide) h2 rfl rfl rfl (fun i h1 h2 => by omega) (fun N3 h3 => ?_)
  have hS : SightS N3 a := TI.obj (n := 3) (by decide) ha hk h3
  exact TT.bind (sightClear_T hS) (fun r q => TT.ok ⟨TI.newq (n := 3) ha h3 q.1, hS.fo q.1⟩)
theorem lawInit_T {a : Int} (a0 : 0 ≤ a) (ha : a + 1 = M.2.2.2) (hk : M.2.1 a = 0) : TT (fX0_init M a) (fun r => NewQ M r a 0 ∧ r.2.1 a = 0) := by
  unfold fX0_init
  refine TT.guard a0 (TT.guard hk (TT.sM (TT.sM (TT.sM (TT.ok ⟨⟨?_, fun x hx => ⟨rfl, rfl, fun y hy => ?_⟩⟩, hk⟩)))))
  · show (M.2.2.2 : Int) = _
    omega
  · have : x ≠ a := hy
    rw [mst_ne _ _ _ _ _ _ this, mst_ne _ _ _ _ _ _ this, mst_ne _ _ _ _ _ _ this]
end Init
