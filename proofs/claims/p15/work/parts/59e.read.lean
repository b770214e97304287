/-! the class: the reader -/
section Read
variable {M N O : Mem}
def KD (M N : Mem) : Prop := N.2 = M.2 ∧ ∀ x y, scr x y = false → x ≠ 64 → x ≠ 65 → N.1 x y = M.1 x y
theorem KD.self (M : Mem) : KD M M := ⟨rfl, fun _ _ _ _ _ => rfl⟩
theorem KD.trans (h : KD M N) (g : KD N O) : KD M O := ⟨g.1.trans h.1, fun x y a b c => (g.2 x y a b c).trans (h.2 x y a b c)⟩
theorem Keep.kd (h : Keep M N) : KD M N := ⟨h.1, fun x y a _ _ => h.2 x y a⟩
theorem KD.st (h : KD M N) {a i v : Int} (hs : scr a i = true ∨ a = 64 ∨ a = 65) : KD M (mst N a i v) := ⟨h.1, fun x y q1 q2 q3 => by
  rw [mst_r, if_neg, h.2 x y q1 q2 q3]
  rintro ⟨e1, e2⟩
  rw [e1] at q2 q3
  rcases hs with hs | hs | hs
  · rw [e1, e2, hs] at q1; cases q1
  · exact q2 hs
  · exact q3 hs⟩
theorem PL_6 : (PL.all fun p => decide (p.1 ≠ 64) && decide (p.1 ≠ 65)) = true := by decide +kernel
theorem KD.wt (k : KD M N) (h : WT M) : WT N := by
  have e : Keep M (fun x y => if x = 64 ∨ x = 65 then M.1 x y else N.1 x y, N.2) := ⟨k.1, fun x y q => by
    show (if x = 64 ∨ x = 65 then M.1 x y else N.1 x y) = _
    by_cases z : x = 64 ∨ x = 65
    · rw [if_pos z]
    · rw [if_neg z]; exact k.2 x y q (fun w => z (Or.inl w)) (fun w => z (Or.inr w))⟩
  obtain ⟨⟨g1, g2⟩, g3, g4, g5⟩ := h.keep e
  refine ⟨⟨g1, ?_⟩, ?_, ?_, ?_⟩
  · unfold hold at *
    rw [List.all_eq_true] at *
    intro p hp
    have a := g2 p hp
    have b := List.all_eq_true.mp PL_6 p hp
    simp only [Bool.and_eq_true, decide_eq_true_eq] at a b ⊢
    rw [if_neg (fun z => z.elim b.1 b.2)] at a; exact a
  · intro p hp i hi hj
    have g := List.all_eq_true.mp RGL_keep p hp
    simp only [Bool.and_eq_true, decide_eq_true_eq] at g
    have a := g3 p hp i hi hj
    have z : ¬(p.1 = 64 ∨ p.1 = 65) := by omega
    simp only [if_neg z] at a; exact a
  · exact g4
  · exact g5
def RS (M : Mem) : Prop := M.1 47 6 = 2 ∧ (M.1 47 7 ≤ 600 ∧ 0 ≤ M.1 47 7) ∧ 0 ≤ M.1 47 8 ∧ M.1 47 8 ≤ M.1 47 7
def DI (M : Mem) : Prop := (∀ y, 0 ≤ y → y < 8 → 0 ≤ M.1 64 y ∧ M.1 64 y ≤ 5) ∧ ∀ y, 0 ≤ y → y < 8 → 0 ≤ M.1 65 y ∧ M.1 65 y ≤ 4
theorem DI.keep (h : DI M) (k : Keep M N) : DI N := ⟨fun y a b => by rw [k.2 64 y (show scr 64 y = false from by unfold scr rdc; simp)]; exact h.1 y a b, fun y a b => by rw [k.2 65 y (show scr 65 y = false from by unfold scr rdc; simp)]; exact h.2 y a b⟩
def DRF (M : Mem) : Prop := TownR M 48 ∧ ((2 ≤ M.1 57 0 ∧ M.1 57 0 ≤ 5) ∧ (1 ≤ M.1 57 1 ∧ M.1 57 1 ≤ 99)) ∧ (0 ≤ M.1 58 0 ∧ M.1 58 0 ≤ 40) ∧ (0 ≤ M.1 63 0 ∧ M.1 63 0 ≤ 8) ∧ DI M ∧ ∀ y, 0 ≤ y → y < 30 → -1 ≤ M.1 66 y ∧ M.1 66 y ≤ 18
/-- only fields of the reader itself change -/
def SK (M N : Mem) : Prop := N.2 = M.2 ∧ ∀ x y, (x ≠ 47 ∨ (2 ≤ y ∧ y ≤ 5) ∨ y = 12) → N.1 x y = M.1 x y
theorem SK.self (M : Mem) : SK M M := ⟨rfl, fun _ _ _ => rfl⟩
theorem SK.trans (h : SK M N) (g : SK N O) : SK M O := ⟨g.1.trans h.1, fun x y a => (g.2 x y a).trans (h.2 x y a)⟩
theorem SK.st (h : SK M N) {i v : Int} (hi : ¬((2 ≤ i ∧ i ≤ 5) ∨ i = 12)) : SK M (mst N 47 i v) := ⟨h.1, fun x y q => by rw [mst_r, if_neg (by omega)]; exact h.2 x y q⟩
theorem scr47 {y : Int} (h : ¬((2 ≤ y ∧ y ≤ 5) ∨ y = 12)) : scr 47 y = true := by
  have e : rdc 47 y = true := by
    unfold rdc
    rcases (show y ≤ 1 ∨ (6 ≤ y ∧ y ≤ 11) ∨ 13 ≤ y by omega) with h | h | h
    · simp [h]
    · simp [h.1, h.2]
    · simp [h]
  unfold scr
  rw [e, Bool.or_true]
theorem SK.kd (h : SK M N) : KD M N := ⟨h.1, fun x y q _ _ => h.2 x y (by
  by_cases c : x ≠ 47 ∨ (2 ≤ y ∧ y ≤ 5) ∨ y = 12
  · exact c
  · exfalso
    have e : x = 47 := by omega
    subst e
    rw [scr47 (by omega)] at q; cases q)⟩
theorem SK.drf (h : SK M N) (d : DRF M) : DRF N := by
  have e : ∀ x y, x ≠ 47 → N.1 x y = M.1 x y := fun x y z => h.2 x y (Or.inl z)
  unfold DRF TownR DI at *
  refine ⟨⟨by rw [e 48 _ (by decide)]; exact d.1.1, by rw [e 48 _ (by decide)]; exact d.1.2.1, fun j y a b c f => by rw [e _ _ (by omega)]; exact d.1.2.2 j y a b c f⟩, by rw [e 57 _ (by decide), e 57 _ (by decide)]; exact d.2.1, by rw [e 58 _ (by decide)]; exact d.2.2.1, by rw [e 63 _ (by decide)]; exact d.2.2.2.1, ⟨fun y a b => by rw [e 64 _ (by decide)]; exact d.2.2.2.2.1.1 y a b, fun y a b => by rw [e 65 _ (by decide)]; exact d.2.2.2.2.1.2 y a b⟩, fun y a b => by rw [e 66 _ (by decide)]; exact d.2.2.2.2.2 y a b⟩
theorem byteAt_T (hT : WT M) (hs : M.1 47 6 = 2) (i : Int) : TT (fX3_byteAt M 47 i) (fun _ => True) := by
  unfold fX3_byteAt
  rw [hs]
  refine TT.guard (wk47 hT) (TT.neg (by decide) (TT.ite (fun _ => TT.ok trivial) (fun c => TT.ite (fun _ => ?_) (fun _ => TT.ok trivial))))
  exact TT.guard (by rw [wk2 hT]; decide) (TT.ite (fun d => TT.guard ⟨Or.inl (wk2 hT), by omega, d⟩ (TT.ok trivial)) (fun _ => TT.ok trivial))
theorem isL_T (c : Int) : TT (fX3_isLetter M c) (fun _ => True) := by
  unfold fX3_isLetter
  exact TT.ite (fun _ => TT.ok trivial) (fun _ => TT.ite (fun _ => TT.ok trivial) (fun _ => TT.ok trivial))
theorem isD_T (c : Int) : TT (fX3_isDigit M c) (fun _ => True) := by
  unfold fX3_isDigit
  exact TT.ite (fun _ => TT.ok trivial) (fun _ => TT.ite (fun _ => TT.ok trivial) (fun _ => TT.ok trivial))
theorem isB_T (c : Int) : TT (fX3_isBlank M c) (fun _ => True) := by
  unfold fX3_isBlank
  exact TT.ite (fun _ => TT.ok trivial) (fun _ => TT.ite (fun _ => TT.ok trivial) (fun _ => TT.ok trivial))
theorem RS.next (h : RS M) (c : M.1 47 8 < M.1 47 7) {N : Mem} (e6 : N.1 47 6 = M.1 47 6) (e7 : N.1 47 7 = M.1 47 7) (e8 : N.1 47 8 = w32 (M.1 47 8 + 1)) : RS N ∧ (N.1 47 7 - N.1 47 8).toNat < (M.1 47 7 - M.1 47 8).toNat := by
  obtain ⟨h1, ⟨h2, h3⟩, h4, h5⟩ := h
  have e : w32 (M.1 47 8 + 1) = M.1 47 8 + 1 := w32_of (by omega) (by omega)
  unfold RS
  rw [e6, e7, e8, e]
  exact ⟨⟨h1, ⟨h2, h3⟩, by omega, by omega⟩, by omega⟩
theorem RS.b (h : RS M) : (M.1 47 7 - M.1 47 8).toNat < BIG := by
  obtain ⟨h1, ⟨h2, h3⟩, h4, h5⟩ := h
  unfold BIG; omega
def SQ (M N : Mem) : Prop := SK M N ∧ N.1 47 0 = M.1 47 0
theorem SQ.self (M : Mem) : SQ M M := ⟨SK.self M, rfl⟩
theorem SQ.trans (h : SQ M N) (g : SQ N O) : SQ M O := ⟨h.1.trans g.1, g.2.trans h.2⟩
theorem SQ.st (h : SQ M N) {i v : Int} (hi : ¬((2 ≤ i ∧ i ≤ 5) ∨ i = 12) ∧ i ≠ 0) : SQ M (mst N 47 i v) := ⟨h.1.st hi.1, by rw [mst_nf _ _ _ _ _ _ (fun e => hi.2 e.symm)]; exact h.2⟩
theorem SQ.kd (h : SQ M N) : KD M N := h.1.kd
theorem stepNumber_T (hT : WT M) (hs : RS M) : TT (fX3_stepNumber M 47) (fun r => SQ M r ∧ RS r) := by
  unfold fX3_stepNumber
  refine TT.guard (wk47 hT) (TT.sM ?_)
  have h0 : SQ M (mst M 47 11 0) := (SQ.self M).st (by decide)
  have hs0 : RS (mst M 47 11 0) := hs
  generalize mst M 47 11 0 = N at *
  refine TT.iter (fun s : Mem => SQ M s ∧ RS s) (fun s => (s.1 47 7 - s.1 47 8).toNat) ?_ BIG N ⟨h0, hs0⟩ hs0.b
  rintro rec s ⟨hK, hR⟩ hr
  have hTs := hK.kd.wt hT
  refine TT.guard (wk47 hTs) (TT.join (fun _ => True) (fun _ _ => TT.join (fun _ => True) (fun t _ => TT.sM (TT.ok ⟨hK.st (by decide), hR⟩)) (fun j hj => TT.ite (fun _ => hj _ trivial) (fun _ => hj _ trivial))) (fun j hj => TT.ite (fun c => ?_) (fun _ => hj () trivial)))
  refine TT.bind (byteAt_T hTs hR.1 _) (fun r1 _ => TT.bind (isD_T _) (fun r2 _ => TT.ite (fun _ => hj () trivial) (fun _ => TT.bind (byteAt_T hTs hR.1 _) (fun r3 _ => TT.sM (TT.sM ?_)))))
  have g := RS.next hR c (N := mst (mst s 47 11 (imin 999 (w32 (w32 (w32 (10 * s.1 47 11) + r3) - 48)))) 47 8 (w32 ((mst s 47 11 (imin 999 (w32 (w32 (w32 (10 * s.1 47 11) + r3) - 48)))).1 47 8 + 1))) rfl rfl rfl
  exact hr _ ⟨(hK.st (by decide)).st (by decide), g.1⟩ g.2
set_option maxHeartbeats 1000000 in
theorem step_T (hT : WT M) (hs : RS M) : TT (fX3_step M 47) (fun r => SQ M r ∧ RS r) := by
  unfold fX3_step
  refine TT.iter (fun s : Mem => SQ M s ∧ RS s) (fun s => (s.1 47 7 - s.1 47 8).toNat) ?_ BIG M ⟨SQ.self M, hs⟩ hs.b
  rintro rec s ⟨hK, hR⟩ hr
  have hTs := hK.kd.wt hT
  refine TT.guard (wk47 hTs) (TT.join (fun _ => True) (fun _ _ => TT.sM ?_) (fun j hj => TT.ite (fun c => ?_) (fun _ => hj () trivial)))
  · have h1 : SQ M (mst s 47 10 (s.1 47 8)) := hK.st (by decide)
    have hR1 : RS (mst s 47 10 (s.1 47 8)) := hR
    generalize mst s 47 10 (s.1 47 8) = A at *
    have hT1 := h1.kd.wt hT
    refine TT.bind (byteAt_T hT1 hR1.1 _) (fun r _ => TT.ite (fun c => ?_) (fun _ => TT.sM (TT.ok ⟨h1.st (by decide), hR1⟩)))
    refine TT.bind (isL_T _) (fun r2 _ => TT.ite (fun _ => TT.bind (isD_T _) (fun r3 _ => TT.ite (fun _ => TT.ite (fun _ => TT.sM (TT.sM ?_)) (fun _ => TT.sM (TT.ok ⟨h1.st (by decide), hR1⟩))) (fun _ => TT.bind (stepNumber_T hT1 hR1) (fun z q => TT.ok ⟨h1.trans q.1, q.2⟩)))) (fun _ => TT.sM ?_))
    · have g := RS.next hR1 c (N := mst (mst A 47 9 3) 47 8 (w32 ((mst A 47 9 3).1 47 8 + 1))) rfl rfl rfl
      exact TT.ok ⟨(h1.st (by decide)).st (by decide), g.1⟩
    · have h2 : SQ M (mst A 47 9 1) := h1.st (by decide)
      have hR2 : RS (mst A 47 9 1) := hR1
      generalize mst A 47 9 1 = B at *
      refine TT.iter (fun s : Mem => SQ M s ∧ RS s) (fun s => (s.1 47 7 - s.1 47 8).toNat) ?_ BIG B ⟨h2, hR2⟩ hR2.b
      rintro rec2 u ⟨hKu, hRu⟩ hr2
      have hTu := hKu.kd.wt hT
      refine TT.guard (wk47 hTu) (TT.ite (fun c => TT.bind (byteAt_T hTu hRu.1 _) (fun r3 _ => TT.bind (isL_T _) (fun r4 _ => TT.ite (fun _ => TT.ok ⟨hKu, hRu⟩) (fun _ => TT.sM ?_)))) (fun _ => TT.ok ⟨hKu, hRu⟩))
      have g := RS.next hRu c (N := mst u 47 8 (w32 (u.1 47 8 + 1))) rfl rfl rfl
      exact hr2 _ ⟨hKu.st (by decide), g.1⟩ g.2
  · refine TT.bind (byteAt_T hTs hR.1 _) (fun r1 _ => TT.bind (isB_T _) (fun r2 _ => TT.ite (fun _ => hj () trivial) (fun _ => TT.sM ?_)))
    have g := RS.next hR c (N := mst s 47 8 (w32 (s.1 47 8 + 1))) rfl rfl rfl
    exact hr _ ⟨hK.st (by decide), g.1⟩ g.2
theorem wordOf_T (l : Int) : TT (fX3_wordOf M l) (fun r => -24 ≤ r ∧ r ≤ -6) := by
  unfold fX3_wordOf
  repeat (refine TT.ite (fun _ => TT.ok (by decide)) (fun _ => ?_))
  exact TT.ok (by decide)
theorem isWord_T (hT : WT M) (hs : RS M) {a : Int} (ha : -24 ≤ a ∧ a ≤ -6) : TT (fX3_isWord M 47 a) (fun _ => True) := by
  unfold fX3_isWord
  have el : fS_len a = some ((sLen.getD (-6 - a).toNat 0 : Nat) : Int) := by unfold fS_len; rw [if_pos ha]
  have hb : ((sLen.getD (-6 - a).toNat 0 : Nat) : Int) ≤ 8 := by
    rcases (show a = -24 ∨ a = -23 ∨ a = -22 ∨ a = -21 ∨ a = -20 ∨ a = -19 ∨ a = -18 ∨ a = -17 ∨ a = -16 ∨ a = -15 ∨ a = -14 ∨ a = -13 ∨ a = -12 ∨ a = -11 ∨ a = -10 ∨ a = -9 ∨ a = -8 ∨ a = -7 ∨ a = -6 by omega) with e | e | e | e | e | e | e | e | e | e | e | e | e | e | e | e | e | e | e <;> subst e <;> decide
  have ec : ∀ j, 0 ≤ j → j < ((sLen.getD (-6 - a).toNat 0 : Nat) : Int) → fS_chr a j = some (sC (-6 - a).toNat j) := fun j j0 j1 => by unfold fS_chr; rw [if_pos ⟨ha, j0, j1⟩]
  rw [el]
  generalize ((sLen.getD (-6 - a).toNat 0 : Nat) : Int) = n at *
  refine TT.guard (wk47 hT) (TT.bindE rfl (TT.ite (fun _ => ?_) (fun _ => TT.ok trivial)))
  refine TT.iter (fun s : Int => 0 ≤ s ∧ (s ≤ n ∨ s = 0)) (fun s => (n - s).toNat) ?_ BIG 0 ⟨Int.le_refl _, Or.inr rfl⟩ (by unfold BIG; omega)
  rintro rec s ⟨s0, s1⟩ hr
  refine TT.bindE rfl (TT.ite (fun c => TT.bind (byteAt_T hT hs.1 _) (fun r1 _ => TT.bindE (ec s s0 c) (TT.ite (fun _ => hr _ ?_ ?_) (fun _ => TT.ok trivial)))) (fun _ => TT.ok trivial))
  · rw [w32_of (by omega) (by omega)]; omega
  · rw [w32_of (by omega) (by omega)]; omega
theorem lineOf3_T (hT : WT M) (hs : RS M) (s : Int) : TT (fX3_lineOf M 47 s) (fun r => r = -1 ∨ (0 ≤ r ∧ r < 18)) := by
  unfold fX3_lineOf
  refine TT.ite (fun _ => TT.ok (Or.inl rfl)) (fun c0 => TT.ite (fun c4 => TT.guard (by omega) ?_) (fun _ => TT.ok (Or.inl rfl)))
  have e : w32 (s + 1) = s + 1 := w32_of (by omega) (by omega)
  rw [e]
  have hb : 0 ≤ (sTab 0).getD s.toNat 0 ∧ (sTab 0).getD s.toNat 0 ≤ 18 ∧ (sTab 0).getD (s + 1).toNat 0 ≤ 18 := by
    rcases (show s = 0 ∨ s = 1 ∨ s = 2 ∨ s = 3 by omega) with e | e | e | e <;> subst e <;> decide
  generalize (sTab 0).getD s.toNat 0 = u at *
  generalize (sTab 0).getD (s + 1).toNat 0 = v at *
  refine TT.iter (fun x : Int => 0 ≤ x ∧ x ≤ 18) (fun x => (18 - x).toNat) ?_ BIG u ⟨hb.1, hb.2.1⟩ (by unfold BIG; omega)
  rintro rec x ⟨x0, x1⟩ hr
  refine TT.guard (by omega) (TT.ite (fun c => TT.bind (wordOf_T _) (fun r1 q1 => TT.guard (wk47 hT) (TT.bind (isWord_T hT hs q1) (fun r2 _ => TT.ite (fun _ => hr _ ?_ ?_) (fun _ => TT.ok (Or.inr (by omega))))))) (fun _ => TT.ok (Or.inl rfl)))
  · rw [w32_of (by omega) (by omega)]; omega
  · rw [w32_of (by omega) (by omega)]; omega
theorem note_T (hT : WT M) {f : Int} (p : Int) (hf : f ≠ 0) : TT (fX3_note M 47 f p) (fun r => (r.2 = M.2 ∧ ∀ x y, (x ≠ 47 ∨ (y ≠ 0 ∧ y ≠ 1)) → r.1 x y = M.1 x y) ∧ r.1 47 0 ≠ 0) := by
  unfold fX3_note
  refine TT.guard (wk47 hT) (TT.ite (fun _ => TT.sM (TT.sM (TT.ok ⟨⟨rfl, fun x y h => ?_⟩, hf⟩))) (fun c => TT.ok ⟨⟨rfl, fun _ _ _ => rfl⟩, c⟩))
  rw [mst_r, if_neg (by omega), mst_r, if_neg (by omega)]
theorem breakOff_T (hT : WT M) : TT (fX3_breakOff M 47) (fun r => SK M r ∧ (r.1 47 6 = M.1 47 6 ∧ r.1 47 7 = M.1 47 7 ∧ r.1 47 8 = M.1 47 8)) := by
  unfold fX3_breakOff
  exact TT.guard (wk47 hT) (TT.sM (TT.sM (TT.sM (TT.ok ⟨(((SK.self M).st (by decide)).st (by decide)).st (by decide), rfl, rfl, rfl⟩))))
theorem RS.of (h : RS M) (e6 : N.1 47 6 = M.1 47 6) (e7 : N.1 47 7 = M.1 47 7) (e8 : N.1 47 8 = M.1 47 8) : RS N := by unfold RS at *; rw [e6, e7, e8]; exact h
end Read
