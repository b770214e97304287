/-! the class: a text read as the spec has it -/
section TextV
variable {M N : Mem} {T : Int → Int} {n i : Int}
theorem TT.and {ρ : Type} {X : Option ρ} {P Q : ρ → Prop} (h : TT X P) (g : TT X Q) : TT X (fun r => P r ∧ Q r) := by
  obtain ⟨r, e, p⟩ := h
  obtain ⟨r', e', q⟩ := g
  rw [e] at e'
  cases e'
  exact ⟨r, e, p, q⟩
def tcv (j y : Int) : Int := if j = 4 then y else if j = 5 ∨ j = 6 then 1 else if j = 8 then -1 else 0
def CE (M N : Mem) (a m : Int) : Prop := FO M N a 2 8 ∧ (N.1 a 0 = 3 ∧ N.1 a 1 = 0) ∧ ∀ j y, 1 ≤ j → j ≤ m → 0 ≤ y → y < LT j → N.1 (a + j) y = tcv j y
theorem CE.fill {a m v : Int} (hS : TownS M a) (m0 : 0 ≤ m) (m8 : m + 1 ≤ 8) (h : CE M N a m) (hv : ∀ y, v = tcv (m + 1) y) : TT (fX10_fillRow N (N.1 a (m + 2)) v) (fun r => CE M r a (m + 1)) := by
  have hSN : TownS N a := hS.fo h.1
  have e := fillO_T (j := m + 1) v hSN (by omega) m8 (LT0 _) (LTb _)
  rw [show m + 1 - 1 + 2 = m + 2 by omega] at e
  refine e.mono (fun r q => ⟨h.1.trans q.1, ⟨?_, ?_⟩, fun j y j1 j2 y0 y1 => ?_⟩)
  · rw [q.2.1 a 0 (by omega)]; exact h.2.1.1
  · rw [q.2.1 a 1 (by omega)]; exact h.2.1.2
  · by_cases c : j = m + 1
    · subst c
      rw [q.2.2 y y0 y1]; exact hv y
    · rw [q.2.1 _ y (by omega)]; exact h.2.2 j y j1 (by omega) y0 y1
theorem CE.k {a m : Int} (hS : TownS M a) (h : CE M N a m) : N.2.1 a = 7 := by rw [h.1.1]; exact hS.1
theorem townClear_V {a : Int} (hS : TownS M a) : TT (fX7_clear M a) (fun r => CE M r a 8) := by
  unfold fX7_clear
  refine TT.guard hS.1 (TT.sM (TT.sM ?_))
  have h0 : CE M (mst (mst M a 0 3) a 1 0) a 0 := ⟨((FO.self a 2 8).st0 (by decide) (by decide)).st0 (by decide) (by decide), ⟨by rw [mst_nf _ _ _ _ _ _ (by decide), mst_at], mst_at _ _ _ _⟩, fun j y j1 j2 _ _ => by omega⟩
  generalize mst (mst M a 0 3) a 1 0 = N at *
  refine TT.bind (CE.fill hS (by decide) (by decide) h0 (fun _ => rfl)) (fun r1 q1 => TT.guard (q1.k hS) ?_)
  refine TT.bind (CE.fill hS (by decide) (by decide) q1 (fun _ => rfl)) (fun r2 q2 => TT.guard (q2.k hS) ?_)
  refine TT.bind (CE.fill hS (by decide) (by decide) q2 (fun _ => rfl)) (fun r3 q3 => ?_)
  refine TT.iter (fun s : Int × Mem => (0 ≤ s.1 ∧ s.1 ≤ 6) ∧ CE M s.2 a 3 ∧ ∀ y, 0 ≤ y → y < s.1 → s.2.1 (a + 4) y = y) (fun s => (6 - s.1).toNat) ?_ BIG (0, r3) ⟨⟨by dsimp only; omega, by dsimp only; omega⟩, q3, fun y a b => by dsimp only at b; omega⟩ (by unfold BIG; dsimp only; omega)
  rintro rec ⟨i, s⟩ ⟨⟨i0, i6⟩, hC, h4⟩ hr
  simp only at i0 i6 hC h4 ⊢
  obtain ⟨p1, p2, p3⟩ := (hS.fo hC.1 : TownS s a).2 4 (by decide) (by decide)
  have p1' : s.1 a 5 = a + 4 := p1
  have p3' : s.2.2.1 (a + 4) = 6 := p3
  rw [p1']
  refine TT.ite (fun c => ?_) (fun c => ?_)
  · refine TT.guard (hC.k hS) (TT.guard ⟨p2, i0, by rw [p3']; exact c⟩ (TT.sM (hr _ ⟨⟨by dsimp only [w32]; omega, by dsimp only [w32]; omega⟩, ⟨hC.1.str (by decide) (by decide), ⟨?_, ?_⟩, fun j y j1 j2 y0 y1 => ?_⟩, fun y y0 y1 => ?_⟩ (by dsimp only [w32]; omega))))
    · show (mst s (a + 4) i i).1 a 0 = 3
      rw [mst_ne _ _ _ _ _ _ (by omega)]; exact hC.2.1.1
    · show (mst s (a + 4) i i).1 a 1 = 0
      rw [mst_ne _ _ _ _ _ _ (by omega)]; exact hC.2.1.2
    · show (mst s (a + 4) i i).1 (a + j) y = tcv j y
      rw [mst_ne _ _ _ _ _ _ (by omega)]; exact hC.2.2 j y j1 j2 y0 y1
    · have y1' : y < w32 (i + 1) := y1
      rw [w32_of (by omega) (by omega)] at y1'
      show (mst s (a + 4) i i).1 (a + 4) y = y
      rw [mst_r]
      by_cases q : y = i
      · rw [if_pos ⟨rfl, q⟩]; exact q.symm
      · rw [if_neg (fun z => q z.2)]; exact h4 y y0 (by omega)
  · have q4 : CE M s a 4 := ⟨hC.1, hC.2.1, fun j y j1 j2 y0 y1 => by
      by_cases z : j = 4
      · subst z
        rw [h4 y y0 (by have : LT 4 = 6 := rfl; omega)]; rfl
      · exact hC.2.2 j y j1 (by omega) y0 y1⟩
    refine TT.guard (hC.k hS) (TT.bind (CE.fill hS (by decide) (by decide) q4 (fun _ => rfl)) (fun r5 q5 => TT.guard (q5.k hS) ?_))
    refine TT.bind (CE.fill hS (by decide) (by decide) q5 (fun _ => rfl)) (fun r6 q6 => TT.guard (q6.k hS) ?_)
    refine TT.bind (CE.fill hS (by decide) (by decide) q6 (fun _ => rfl)) (fun r7 q7 => TT.guard (q7.k hS) ?_)
    exact TT.bind (CE.fill hS (by decide) (by decide) q7 (fun _ => rfl)) (fun r8 q8 => TT.ok q8)
/-- an empty one, as the reference lays it -/
def blD (s y : Int) : Int := if s = 0 then (if y = 0 then 3 else if 68 ≤ y ∧ y ≤ 73 then y - 68 else if 74 ≤ y ∧ y ≤ 83 then 1 else if 88 ≤ y ∧ y ≤ 91 then -1 else 0) else if s = 1 then (if y = 0 then 2 else if y = 1 then 20 else 0) else if s = 2 then 0 else if 17 ≤ y then -1 else 0
set_option maxHeartbeats 1000000 in
theorem begin3_V (hT : WT M) {k s : Int} (s0 : 0 ≤ s) (s4 : s < 4) : TT (fX3_begin M 47 2 k) (fun r => (r.1 47 6 = 2 ∧ r.1 47 7 = k ∧ r.1 47 8 = 0) ∧ (r.1 47 0 = 0 ∧ r.1 47 1 = -1) ∧ (r.1 47 13 = 0 ∧ r.1 47 14 = -1 ∧ r.1 47 15 = -1) ∧ CDr s r (blD s) ∧ r.1 2 = M.1 2) := by
  unfold fX3_begin
  refine TT.guard (wk47 hT) (TT.guard (by decide) (TT.sM (TT.sM (TT.sM (TT.sM (TT.sM (TT.sM (TT.sM (TT.sM ?_)))))))))
  have h1 : SK M (mst (mst (mst (mst (mst (mst (mst (mst M 47 6 2) 47 7 k) 47 8 0) 47 0 0) 47 1 (-1)) 47 13 0) 47 14 (-1)) 47 15 (-1)) := ((((((((SK.self M).st (by decide)).st (by decide)).st (by decide)).st (by decide)).st (by decide)).st (by decide)).st (by decide)).st (by decide)
  have hv : ((mst (mst (mst (mst (mst (mst (mst (mst M 47 6 2) 47 7 k) 47 8 0) 47 0 0) 47 1 (-1)) 47 13 0) 47 14 (-1)) 47 15 (-1)).1 47 6 = 2 ∧ (mst (mst (mst (mst (mst (mst (mst (mst M 47 6 2) 47 7 k) 47 8 0) 47 0 0) 47 1 (-1)) 47 13 0) 47 14 (-1)) 47 15 (-1)).1 47 7 = k ∧ (mst (mst (mst (mst (mst (mst (mst (mst M 47 6 2) 47 7 k) 47 8 0) 47 0 0) 47 1 (-1)) 47 13 0) 47 14 (-1)) 47 15 (-1)).1 47 8 = 0) ∧ ((mst (mst (mst (mst (mst (mst (mst (mst M 47 6 2) 47 7 k) 47 8 0) 47 0 0) 47 1 (-1)) 47 13 0) 47 14 (-1)) 47 15 (-1)).1 47 0 = 0 ∧ (mst (mst (mst (mst (mst (mst (mst (mst M 47 6 2) 47 7 k) 47 8 0) 47 0 0) 47 1 (-1)) 47 13 0) 47 14 (-1)) 47 15 (-1)).1 47 1 = -1) ∧ ((mst (mst (mst (mst (mst (mst (mst (mst M 47 6 2) 47 7 k) 47 8 0) 47 0 0) 47 1 (-1)) 47 13 0) 47 14 (-1)) 47 15 (-1)).1 47 13 = 0 ∧ (mst (mst (mst (mst (mst (mst (mst (mst M 47 6 2) 47 7 k) 47 8 0) 47 0 0) 47 1 (-1)) 47 13 0) 47 14 (-1)) 47 15 (-1)).1 47 14 = -1 ∧ (mst (mst (mst (mst (mst (mst (mst (mst M 47 6 2) 47 7 k) 47 8 0) 47 0 0) 47 1 (-1)) 47 13 0) 47 14 (-1)) 47 15 (-1)).1 47 15 = -1) := ⟨⟨rfl, rfl, rfl⟩, ⟨rfl, rfl⟩, rfl, rfl, rfl⟩
  generalize mst (mst (mst (mst (mst (mst (mst (mst M 47 6 2) 47 7 k) 47 8 0) 47 0 0) 47 1 (-1)) 47 13 0) 47 14 (-1)) 47 15 (-1) = A at *
  have hTA := h1.kd.wt hT
  rw [wp47_2 hTA]
  refine TT.guard (wk48 hTA) (TT.bind (townClear_V (TownS_48 hTA)) (fun r1 q1 => ?_))
  have hK1 : KD A r1 := q1.1.kd48
  have hT1 := hK1.wt hTA
  have f1 : ∀ x y, (x < 48 ∨ 56 < x) → r1.1 x y = A.1 x y := fun x y z => q1.1.2 x y (Or.inl (by omega))
  rw [wp47_3 hT1]
  refine TT.guard (wk47 hT1) (TT.guard (wk57 hT1) ?_)
  refine TT.bind (P := fun r => r = mst (mst (mst r1 57 0 2) 57 1 20) 57 2 0) ?_ (fun r2 e2 => ?_)
  · unfold fX0_clear
    exact TT.guard (wk57 hT1) (TT.sM (TT.sM (TT.sM (TT.ok rfl))))
  have hK2 : KD r1 r2 := by
    rw [e2]; exact (((KD.self r1).st (Or.inl rfl)).st (Or.inl rfl)).st (Or.inl rfl)
  have hT2 := hK2.wt hT1
  have f2 : ∀ x y, x ≠ 57 → r2.1 x y = r1.1 x y := fun x y z => by rw [e2, mst_ne _ _ _ _ _ _ z, mst_ne _ _ _ _ _ _ z, mst_ne _ _ _ _ _ _ z]
  have v2 : r2.1 57 0 = 2 ∧ r2.1 57 1 = 20 ∧ r2.1 57 2 = 0 := by rw [e2]; exact ⟨rfl, rfl, rfl⟩
  clear e2
  rw [wp47_4 hT2]
  refine TT.guard (wk47 hT2) (TT.guard (wk58 hT2) ?_)
  refine TT.bind (P := fun r => r = mst r2 58 0 0) ?_ (fun r3 e3 => ?_)
  · unfold fX1_clear
    exact TT.guard (wk58 hT2) (TT.sM (TT.ok rfl))
  have hK3 : KD r2 r3 := by
    rw [e3]; exact (KD.self r2).st (Or.inl rfl)
  have hT3 := hK3.wt hT2
  have f3 : ∀ x y, x ≠ 58 → r3.1 x y = r2.1 x y := fun x y z => by rw [e3, mst_ne _ _ _ _ _ _ z]
  have v3 : r3.1 58 0 = 0 := by rw [e3]; rfl
  clear e3
  rw [wp47_5 hT3]
  refine TT.guard (wk47 hT3) (TT.guard (wk63 hT3) (TT.bind (sightClear_T (SightS_63 hT3)) (fun r4 q4 => TT.ok ?_)))
  have f4 : ∀ x y, x ≠ 63 → x ≠ 66 → r4.1 x y = r3.1 x y := fun x y a b => q4.2.2.2 x y a b
  have fa : ∀ x y, x < 48 → r4.1 x y = A.1 x y := fun x y z => by
    rw [f4 x y (by omega) (by omega), f3 x y (by omega), f2 x y (by omega), f1 x y (by omega)]
  have ft : ∀ x y, 48 ≤ x → x ≤ 56 → r4.1 x y = r1.1 x y := fun x y a b => by rw [f4 x y (by omega) (by omega), f3 x y (by omega), f2 x y (by omega)]
  refine ⟨?_, ?_, ?_, ⟨fun z => ?_, fun z => ?_, fun z => ?_, fun z => ?_, fun z => ?_⟩, ?_⟩
  · rw [fa 47 6 (by decide), fa 47 7 (by decide), fa 47 8 (by decide)]; exact hv.1
  · rw [fa 47 0 (by decide), fa 47 1 (by decide)]; exact hv.2.1
  · rw [fa 47 13 (by decide), fa 47 14 (by decide), fa 47 15 (by decide)]; exact hv.2.2
  · subst z
    have t : ∀ j y : Int, 1 ≤ j → j ≤ 8 → 0 ≤ y → y < LT j → r4.1 (48 + j) y = tcv j y := fun j y a b c d => by rw [ft _ _ (by omega) (by omega)]; exact q1.2.2 j y a b c d
    have e : ∀ y, blD 0 y = (if y = 0 then 3 else if 68 ≤ y ∧ y ≤ 73 then y - 68 else if 74 ≤ y ∧ y ≤ 83 then 1 else if 88 ≤ y ∧ y ≤ 91 then -1 else 0) := fun y => rfl
    refine ⟨⟨?_, ?_⟩, fun y y0 y1 => ⟨?_, ?_⟩, fun y y0 y1 => ⟨?_, ?_⟩, fun y y0 y1 => ⟨?_, ?_⟩, fun y y0 y1 => ⟨?_, ?_⟩⟩
    · rw [ft 48 0 (by decide) (by decide), q1.2.1.1]; rfl
    · rw [ft 48 1 (by decide) (by decide), q1.2.1.2]; rfl
    · rw [e, if_neg (by omega), if_neg (by omega), if_neg (by omega), if_neg (by omega)]; exact t 1 y (by decide) (by decide) y0 y1
    · rw [e, if_neg (by omega), if_neg (by omega), if_neg (by omega), if_neg (by omega)]; exact t 2 y (by decide) (by decide) y0 y1
    · rw [e, if_neg (by omega), if_neg (by omega), if_neg (by omega), if_neg (by omega)]; exact t 3 y (by decide) (by decide) y0 y1
    · rw [e, if_neg (by omega), if_pos (by omega), show 68 + y - 68 = y by omega]; exact t 4 y (by decide) (by decide) y0 y1
    · rw [e, if_neg (by omega), if_neg (by omega), if_pos (by omega)]; exact t 5 y (by decide) (by decide) y0 y1
    · rw [e, if_neg (by omega), if_neg (by omega), if_pos (by omega)]; exact t 6 y (by decide) (by decide) y0 y1
    · rw [e, if_neg (by omega), if_neg (by omega), if_neg (by omega), if_neg (by omega)]; exact t 7 y (by decide) (by decide) y0 y1
    · rw [e, if_neg (by omega), if_neg (by omega), if_neg (by omega), if_pos (by omega)]; exact t 8 y (by decide) (by decide) y0 y1
  · subst z
    rw [f4 57 _ (by decide) (by decide), f4 57 _ (by decide) (by decide), f4 57 _ (by decide) (by decide), f3 57 _ (by decide), f3 57 _ (by decide), f3 57 _ (by decide), v2.1, v2.2.1, v2.2.2]; exact ⟨rfl, rfl, rfl⟩
  · subst z
    rw [f4 58 _ (by decide) (by decide), v3]
    exact ⟨rfl, fun y y0 y1 => by have : blD 2 0 = 0 := rfl; omega⟩
  · subst z
    refine ⟨by rw [q4.2.1]; rfl, fun y y0 y1 => by have : blD 3 0 = 0 := rfl; omega, fun y y0 y1 => ?_⟩
    have := q4.2.2.1 y y0 y1
    rw [show (63 : Int) + 3 = 66 from rfl] at this
    rw [this]
    show (-1 : Int) = if 17 ≤ 17 + y then -1 else 0
    rw [if_pos (by omega)]
  · rw [ft 48 0 (by decide) (by decide), ft 48 1 (by decide) (by decide)]; exact q1.2.1
  · funext y
    rw [fa 2 y (by decide)]; exact h1.2 2 y (Or.inl (by decide))
/-- the text from its beginning: line by line -/
def sg (T : Int → Int) (n s : Int) : Nat → RSt
  | 0 => (0, (0, -1), blD s, -1, -1)
  | k + 1 => nxL T n s (sg T n s k)
/-- how a text ends -/
def f4 (s n : Int) (σ : RSt) : Int × Int := if σ.2.1.1 = 0 ∧ s = 0 ∧ (σ.2.2.1 0 ≤ σ.2.2.2.1 ∨ σ.2.2.1 1 ≤ σ.2.2.2.2) then (4, n) else σ.2.1
def EndsX (T : Int → Int) (n s : Int) (fp : Int × Int) (D : Int → Int) : Prop := ∃ k : Nat, (∀ j : Nat, j < k → tK T n (sg T n s j).1 ≠ 0 ∧ CL1 T n s (sg T n s j)) ∧ ((tK T n (sg T n s k).1 = 0 ∧ fp = f4 s n (sg T n s k) ∧ D = (sg T n s k).2.2.1) ∨ (tK T n (sg T n s k).1 ≠ 0 ∧ fp.1 = 1 ∧ BRK T n s (sg T n s k) fp.2))
theorem EndsX.uniq {s : Int} {fp fp' : Int × Int} {D D' : Int → Int} (h : EndsX T n s fp D) (g : EndsX T n s fp' D') : fp = fp' ∧ (fp.1 ≠ 1 → D = D') := by
  obtain ⟨k, h1, h2⟩ := h
  obtain ⟨k', g1, g2⟩ := g
  have e : k = k' := by
    rcases Nat.lt_trichotomy k k' with q | q | q
    · exfalso
      have c := g1 k q
      rcases h2 with h2 | h2
      · exact c.1 h2.1
      · exact h2.2.2.not c.2
    · exact q
    · exfalso
      have c := h1 k' q
      rcases g2 with g2 | g2
      · exact c.1 g2.1
      · exact g2.2.2.not c.2
  subst e
  rcases h2 with h2 | h2
  · rcases g2 with g2 | g2
    · exact ⟨h2.2.1.trans g2.2.1.symm, fun _ => h2.2.2.trans g2.2.2.symm⟩
    · exact absurd h2.1 g2.1
  · rcases g2 with g2 | g2
    · exact absurd g2.1 h2.1
    · refine ⟨Prod.ext (h2.2.1.trans g2.2.1.symm) (h2.2.2.uniq g2.2.2), fun z => absurd h2.2.1 z⟩
theorem nxL_gt {s : Int} {σ : RSt} (h : σ.1 ≤ n) (hk : tK T n σ.1 ≠ 0) : σ.1 < (nxL T n s σ).1 := by
  have a := tE_gt hk
  have b := @tS_le T n σ.1
  have c := tP_le (T := T) (i := tP T n σ.1 1) (tE_n h) ((nmL (lnIx T n σ.1 s)).toNat + 1)
  have e : ∀ k : Nat, tP T n (tP T n σ.1 1) k = tP T n σ.1 (k + 1) := by
    intro k
    induction k with
    | zero => rfl
    | succ k ih => show tE T n (tP T n (tP T n σ.1 1) k) = tE T n (tP T n σ.1 (k + 1)); rw [ih]
  rw [e] at c
  show σ.1 < tP T n σ.1 ((nmL (lnIx T n σ.1 s)).toNat + 2)
  have d : tP T n σ.1 1 = tE T n σ.1 := rfl
  have c2 := c.2
  rw [d] at c2
  have e3 : (nmL (lnIx T n σ.1 s)).toNat + 1 + 1 = (nmL (lnIx T n σ.1 s)).toNat + 2 := by omega
  rw [e3] at c2
  omega
theorem top_n {s : Int} (s1 : 1 ≤ s) (s4 : s < 4) : ∀ k : Nat, (∀ j : Nat, j < k → CL1 T n s (sg T n s j)) → (sg T n s k).2.2.2.1 = -1 ∧ (sg T n s k).2.2.2.2 = -1
  | 0, _ => ⟨rfl, rfl⟩
  | k + 1, h => by
    obtain ⟨a, b⟩ := top_n s1 s4 k (fun j hj => h j (by omega))
    have c := h k (by omega)
    have sp := (@lnIx_sp T n (sg T n s k).1 s (by omega) s4).resolve_left (fun z => c.2.1 z.1)
    have l9 : 9 ≤ lnIx T n (sg T n s k).1 s := by
      rcases (show s = 1 ∨ s = 2 ∨ s = 3 by omega) with e | e | e
      · have : FL_ s = 9 := by rw [e]; rfl
        omega
      · have : FL_ s = 12 := by rw [e]; rfl
        omega
      · have : FL_ s = 16 := by rw [e]; rfl
        omega
    constructor
    · show (if (fpL T n s (sg T n s k)).1 = 0 then upH _ _ _ _ else _) = -1
      split
      · rw [upH_9 l9]; exact a
      · exact a
    · show (if (fpL T n s (sg T n s k)).1 = 0 then upT _ _ _ _ else _) = -1
      split
      · rw [upT_9 l9]; exact b
      · exact b
set_option maxHeartbeats 2000000 in
theorem read3_V (hT : WT M) (hi : DI M) {k s : Int} (k0 : 0 ≤ k) (k6 : k ≤ 600) (s0 : 0 ≤ s) (s4 : s < 4) : TT (fX3_read M 47 2 k s) (fun r => KD M r ∧ DRF r ∧ ∃ D, EndsX (M.1 2) k s (r.1 47 0, r.1 47 1) D ∧ (r.1 47 0 ≠ 1 → CDr s r D)) := by
  unfold fX3_read
  rw [wl2 hT, show imin k 600 = k by unfold imin; split <;> omega]
  refine TT.guard (by rw [wk2 hT]; decide) (TT.guard (wk47 hT) (TT.bind (TT.and (begin3_T hT hi k0 k6) (begin3_V hT s0 s4)) (fun r2 q2 => ?_)))
  obtain ⟨⟨a1, a2, a3⟩, ⟨b6, b7, b8⟩, ⟨b0, b1⟩, ⟨b13, b14, b15⟩, bD, bT⟩ := q2
  have hT2 := a1.wt hT
  have sv := step_V hT2 a2
  rw [bT, b7, b8] at sv
  generalize hTT : M.1 2 = T at *
  refine TT.guard (wk47 hT2) (TT.bind sv (fun r5 q5 => ?_))
  obtain ⟨⟨⟨⟨pa, pb⟩, p0⟩, p7, p1, p13, p14, p15⟩, pR, pX⟩ := q5
  have hS5 : SK r2 r5 := ⟨pa, pb⟩
  have rep0 : CRep s r5 T k (sg T k s 0) := ⟨⟨pR, by rw [← bT]; exact funext fun y => pb 2 y (Or.inl (by decide)), p7.trans b7, Int.le_refl _, k0⟩, pX, by rw [p0, p1, b0, b1]; rfl, bD.same (fun x y a b => pb x y (Or.inl (by omega))), ⟨p13.trans b13, p14.trans b14, p15.trans b15⟩, hS5.drf a3⟩
  refine TT.iter (fun u : Int × Mem => (0 ≤ u.1 ∧ u.1 ≤ 601) ∧ KD M u.2 ∧ DRF u.2 ∧ u.2.1 47 7 = k ∧ ∃ m : Nat, (∀ j : Nat, j < m → tK T k (sg T k s j).1 ≠ 0 ∧ CL1 T k s (sg T k s j)) ∧ ((CRep s u.2 T k (sg T k s m) ∧ u.1 = m ∧ (m : Int) ≤ (sg T k s m).1) ∨ (u.2.1 47 13 = 1 ∧ tK T k (sg T k s m).1 ≠ 0 ∧ u.2.1 47 0 = 1 ∧ BRK T k s (sg T k s m) (u.2.1 47 1)))) (fun u => (601 - u.1).toNat + (if u.2.1 47 13 = 1 then 0 else 1)) ?_ BIG (0, r5) ⟨⟨by dsimp only; omega, by dsimp only; omega⟩, a1.trans hS5.kd, hS5.drf a3, p7.trans b7, 0, fun j hj => absurd hj (Nat.not_lt_zero _), Or.inl ⟨rep0, rfl, Int.le_refl _⟩⟩ (by unfold BIG; dsimp only; split <;> omega)
  rintro rec ⟨i, u⟩ ⟨⟨i0, i6⟩, hK, hDu, h7, m, hm, hcase⟩ hr
  simp only at i0 i6 hK hDu h7 hcase ⊢
  have hTu := hK.wt hT
  refine TT.guard (wk47 hTu) (TT.join (fun _ => ∃ D, (u.1 47 0 ≠ 1 ∨ True) ∧ ((tK T k (sg T k s m).1 = 0 ∧ CRep s u T k (sg T k s m)) ∨ (tK T k (sg T k s m).1 ≠ 0 ∧ u.1 47 0 = 1 ∧ BRK T k s (sg T k s m) (u.1 47 1))) ∧ D = (sg T k s m).2.2.1) (fun _ hD => ?_) (fun j hj => ?_))
  · obtain ⟨D, _, hend, _⟩ := hD
    refine TT.join (fun t : Mem => SK u t ∧ ∃ D, EndsX T k s (t.1 47 0, t.1 47 1) D ∧ (t.1 47 0 ≠ 1 → CDr s t D)) (fun t ht => ?_) (fun j hj => ?_)
    · obtain ⟨t1, D, t2, t3⟩ := ht
      have hTt := t1.kd.wt hTu
      have st : SK t (mst t 47 6 (-1)) := (SK.self t).st (by decide)
      exact TT.guard (wk47 hTt) (TT.guard (by decide) (TT.sM (TT.ok ⟨(hK.trans t1.kd).trans st.kd, st.drf (t1.drf hDu), D, t2, fun z => (t3 z).same (fun x y a b => mst_ne _ _ _ _ _ _ (by omega))⟩)))
    · rcases hend with ⟨e1, e2⟩ | ⟨e1, e2, e3⟩
      · obtain ⟨⟨c1, c2, c3, c4, c5⟩, cX, cfp, cD, ⟨c13, c14, c15⟩, cDR⟩ := e2
        have cf0 : u.1 47 0 = (sg T k s m).2.1.1 := by rw [← cfp]
        have cf1 : u.1 47 1 = (sg T k s m).2.1.2 := by rw [← cfp]
        have same : f4 s k (sg T k s m) = (sg T k s m).2.1 → TT (j u) _ := fun z => hj u ⟨SK.self u, (sg T k s m).2.2.1, ⟨m, hm, Or.inl ⟨e1, by rw [z]; exact cfp, rfl⟩⟩, fun _ => cD⟩
        refine TT.ite (fun c => ?_) (fun c => same (by unfold f4; rw [if_neg (fun z => c (cf0.trans z.1))]))
        rw [wp47_2 hTu]
        have hh : (s = 0 → u.1 48 0 = (sg T k s m).2.2.1 0 ∧ u.1 48 1 = (sg T k s m).2.2.1 1) ∧ (s ≠ 0 → u.1 48 0 = 3 ∧ u.1 48 1 = 0) := ⟨fun z => by rw [z] at cD ⊢; exact (cD.1 rfl).1, fun z => cD.2.2.2.2 z⟩
        have tn : s ≠ 0 → (sg T k s m).2.2.2.1 = -1 ∧ (sg T k s m).2.2.2.2 = -1 := fun z => top_n (by omega) s4 m (fun j hj => (hm j hj).2)
        refine TT.guard (wk48 hTu) (TT.join (fun _ => u.1 48 0 ≤ u.1 47 14 ∨ u.1 48 1 ≤ u.1 47 15) (fun _ hq => TT.bind (note_V hTu 4 _) (fun r q => hj r ⟨⟨q.1.1, fun x y z => q.1.2 x y (by omega)⟩, (sg T k s m).2.2.1, ⟨m, hm, Or.inl ⟨e1, ?_, rfl⟩⟩, fun _ => cD.same (fun x y a b => q.1.2 x y (Or.inl (by omega)))⟩)) (fun j2 hj2 => TT.ite (fun d1 => TT.ite (fun d2 => same ?_) (fun d2 => hj2 () (Or.inr (by omega)))) (fun d1 => hj2 () (Or.inl (by omega)))))
        · have sz : s = 0 := by
            by_cases z : s = 0
            · exact z
            · exfalso
              have w1 := hh.2 z
              have w2 := tn z
              omega
          have w1 := hh.1 sz
          rw [q.2]
          unfold nt f4
          rw [if_pos c, if_pos ⟨by rw [← cf0]; exact c, sz, by omega⟩, c3]
        · unfold f4
          rw [if_neg]
          rintro ⟨z1, z2, z3⟩
          have w1 := hh.1 z2
          omega
      · refine TT.neg (by rw [e2]; decide) (hj u ⟨SK.self u, (sg T k s m).2.2.1, ⟨m, hm, Or.inr ⟨e1, e2, e3⟩⟩, fun z => absurd e2 z⟩)
  · rcases hcase with ⟨rep, hi2, hpos⟩ | ⟨c13, cK, c0, cB⟩
    · have rep' := rep
      obtain ⟨⟨c1, c2, c3, c4, c5⟩, cX, cfp, cD, ⟨c13, c14, c15⟩, cDR⟩ := rep'
      refine TT.neg (by omega) (TT.ite (fun e => hj () ⟨_, Or.inr trivial, Or.inl ⟨by rw [cX.2.1] at e; exact e, rep⟩, rfl⟩) (fun e => TT.pos c13 ?_))
      have eK : tK T k (sg T k s m).1 ≠ 0 := by rw [cX.2.1] at e; exact e
      have rl := TT.and (readLine_T hTu c1 cDR s) (readLine_V hTu s0 s4 rep)
      refine TT.bind rl (fun r q => ?_)
      obtain ⟨⟨q1, q2, q3⟩, _, q5⟩ := q
      have ei : w32 (i + 1) = i + 1 := w32_of (by omega) (by omega)
      rcases q5 with ⟨pl, z1, z2, z3, z4, z5⟩ | ⟨z1, z2⟩
      · refine hr (w32 (i + 1), r) ⟨?_, hK.trans q1, q3, z5, m, hm, Or.inr ⟨z2, eK, z3, by rw [z4]; exact z1⟩⟩ ?_
        · show 0 ≤ w32 (i + 1) ∧ w32 (i + 1) ≤ 601
          rw [ei]; omega
        · show (601 - w32 (i + 1)).toNat + (if r.1 47 13 = 1 then 0 else 1) < (601 - i).toNat + (if u.1 47 13 = 1 then 0 else 1)
          rw [ei, if_pos z2, if_neg (by omega)]; omega
      · have gt := @nxL_gt T k s (sg T k s m) c5 eK
        have c5' := z2.1.2.2.2.2
        refine hr (w32 (i + 1), r) ⟨?_, hK.trans q1, q3, z2.1.2.2.1, m + 1, fun j hj => ?_, Or.inl ⟨z2, ?_, ?_⟩⟩ ?_
        · show 0 ≤ w32 (i + 1) ∧ w32 (i + 1) ≤ 601
          rw [ei]; omega
        · by_cases z : j = m
          · rw [z]; exact ⟨eK, z1⟩
          · exact hm j (by omega)
        · show w32 (i + 1) = ((m + 1 : Nat) : Int)
          rw [ei]; omega
        · show ((m + 1 : Nat) : Int) ≤ (nxL T k s (sg T k s m)).1
          omega
        · show (601 - w32 (i + 1)).toNat + (if r.1 47 13 = 1 then 0 else 1) < (601 - i).toNat + (if u.1 47 13 = 1 then 0 else 1)
          have r13 := z2.2.2.2.2.1.1
          rw [ei, if_neg (by omega), if_neg (by omega)]; omega
    · have fin := hj () ⟨_, Or.inr trivial, Or.inr ⟨cK, c0, cB⟩, rfl⟩
      exact TT.ite (fun _ => fin) (fun _ => TT.ite (fun _ => fin) (fun _ => TT.neg (by rw [c13]; decide) fin))
end TextV
