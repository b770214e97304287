/-! the class: Told.copy; again -/
section Told2
variable {M N O : Mem}
theorem CPS.congr {b c : Int} {S T : Int → Int → Bool} (h : CPS M N b c S) (e : ∀ x y, S x y = T x y) : CPS M N b c T := ⟨h.1, fun x y => by rw [h.2 x y, e]⟩
theorem ToldS.both {b c : Int} {T : Int → Int → Bool} (hbc : b + 45 ≤ c ∨ c + 45 ≤ b) (hF : Free T) (h : ToldS N b ∧ ToldS N c) (q : CPS N O b c T) : ToldS O b ∧ ToldS O c := ⟨h.1.cps hF q, h.2.off hbc q⟩
def SS (i x y : Int) : Bool := hdT x y || (decide (1 ≤ i) && cpT 0 x y) || (decide (2 ≤ i) && cpT 1 x y)
theorem Free.ss1 : Free (fun x y => decide (x = 0) && decide (1 ≤ y ∧ y ≤ 3) || decide (x = 1) && decide (0 ≤ y ∧ y < 600)) := by
  have k : ∀ x y : Int, ¬(x = 0 ∧ 1 ≤ y ∧ y ≤ 3) → x ≠ 1 → (decide (x = 0) && decide (1 ≤ y ∧ y ≤ 3) || decide (x = 1) && decide (0 ≤ y ∧ y < 600)) = false := by
    intro x y a b
    simp only [Bool.or_eq_false_iff, Bool.and_eq_false_iff, decide_eq_false_iff_not]
    omega
  exact ⟨fun y e => k _ _ (by omega) (by omega), fun x y a b => k _ _ (by omega) (by omega), fun i y a b => ⟨fun e => k _ _ (by omega) (by omega), fun e => k _ _ (by omega) (by omega), fun e => k _ _ (by omega) (by omega)⟩⟩
theorem Free.ss2 : Free (fun x y => decide (x = 2) && decide (0 ≤ y ∧ y < 4)) := by
  have k : ∀ x y : Int, x ≠ 2 → (decide (x = 2) && decide (0 ≤ y ∧ y < 4)) = false := by
    intro x y a
    rw [decide_eq_false a]; rfl
  exact ⟨fun y e => k _ _ (by omega), fun x y a b => k _ _ (by omega), fun i y a b => ⟨fun e => k _ _ (by omega), fun e => k _ _ (by omega), fun e => k _ _ (by omega)⟩⟩
theorem dj {b c : Int} (h : b + 45 ≤ c ∨ c + 45 ≤ b) (o : Int) {w : Int} (hw : w < 45) : b + o + w < c + o ∨ c + o + w < b + o := by omega
theorem dj0 {b c : Int} (h : b + 45 ≤ c ∨ c + 45 ≤ b) (o : Int) : b + o ≠ c + o := by omega
theorem oi {i : Int} (i0 : 0 ≤ i) (ci : i < 2) : (0 ≤ 7 + 19 * i ∧ 7 + 19 * i + 8 < 45) ∧ (0 ≤ 16 + 19 * i ∧ 16 + 19 * i + 0 < 45) ∧ (0 ≤ 17 + 19 * i ∧ 17 + 19 * i + 4 < 45) ∧ (0 ≤ 22 + 19 * i ∧ 22 + 19 * i + 3 < 45) := by omega
theorem wi {i : Int} (i0 : 0 ≤ i) (ci : i < 2) : w32 (i + 1) = i + 1 ∧ (0 ≤ w32 (i + 1) ∧ w32 (i + 1) ≤ 2) ∧ (2 - w32 (i + 1)).toNat < (2 - i).toNat ∧ (i = 0 ∨ i = 1) := by
  have e : w32 (i + 1) = i + 1 := w32_of (by omega) (by omega)
  rw [e]; omega
set_option maxHeartbeats 1000000 in
theorem toldCopy_T {b c : Int} (hbc : b + 45 ≤ c ∨ c + 45 ≤ b) (hB : ToldS M b) (hC : ToldS M c) : TT (fX6_copy M b c) (fun r => CPS M r b c datT) := by
  unfold fX6_copy
  obtain ⟨b0, ⟨b1, b2, b3⟩, ⟨b4, b5, b6⟩, _⟩ := hB.1
  obtain ⟨c0, ⟨c1, c2, c3⟩, ⟨c4, c5, c6⟩, _⟩ := hC.1
  rw [b1, c1]
  refine TT.guard c0 (TT.guard b0 (TT.guard ⟨Or.inl c2, by rw [b2, c2], by decide, by rw [c3]; decide, by rw [b3]; decide⟩ (TT.sM (TT.sM (TT.sM (TT.sM ?_))))))
  have k1 : ∀ (A : Mem) (i : Int), (mst A b i (A.1 c i)).1 = fun x y => if x = b ∧ y = i then A.1 c i else A.1 x y := fun _ _ => rfl
  have h1 : CPS M (mst (mst (mst (mcp M (c + 1) (b + 1) 600) b 1 ((mcp M (c + 1) (b + 1) 600).1 c 1)) b 2 ((mst (mcp M (c + 1) (b + 1) 600) b 1 ((mcp M (c + 1) (b + 1) 600).1 c 1)).1 c 2)) b 3 ((mst (mst (mcp M (c + 1) (b + 1) 600) b 1 ((mcp M (c + 1) (b + 1) 600).1 c 1)) b 2 ((mst (mcp M (c + 1) (b + 1) 600) b 1 ((mcp M (c + 1) (b + 1) 600).1 c 1)).1 c 2)).1 c 3)) b c (fun x y => decide (x = 0) && decide (1 ≤ y ∧ y ≤ 3) || decide (x = 1) && decide (0 ≤ y ∧ y < 600)) := by
    have hcb : c ≠ b := by omega
    have m0 : ∀ x y, (mcp M (c + 1) (b + 1) 600).1 x y = if x = b + 1 ∧ 0 ≤ y ∧ y < 600 then M.1 (c + 1) y else M.1 x y := fun x y => rfl
    refine ⟨rfl, fun x y => ?_⟩
    have e1 : (mcp M (c + 1) (b + 1) 600).1 c 1 = M.1 c 1 := by rw [m0, if_neg (by omega)]
    have e2 : (mcp M (c + 1) (b + 1) 600).1 c 2 = M.1 c 2 := by rw [m0, if_neg (by omega)]
    have e3 : (mcp M (c + 1) (b + 1) 600).1 c 3 = M.1 c 3 := by rw [m0, if_neg (by omega)]
    rw [mst_ne _ b 2 _ c 3 hcb, mst_ne _ b 1 _ c 3 hcb, mst_ne _ b 1 _ c 2 hcb, e1, e2, e3, mst_r, mst_r, mst_r, m0]
    show _ = if (b ≤ x ∧ x < b + 45) ∧ (decide (x - b = 0) && decide (1 ≤ y ∧ y ≤ 3) || decide (x - b = 1) && decide (0 ≤ y ∧ y < 600)) = true then _ else _
    simp only [Bool.or_eq_true, Bool.and_eq_true, decide_eq_true_eq]
    by_cases q : x = b ∧ 1 ≤ y ∧ y ≤ 3
    · rw [if_pos (show (b ≤ x ∧ x < b + 45) ∧ _ from ⟨by omega, Or.inl ⟨by omega, q.2⟩⟩), show x - b + c = c by omega]
      rcases (show y = 1 ∨ y = 2 ∨ y = 3 by omega) with e | e | e
      · rw [if_neg (by omega), if_neg (by omega), if_pos ⟨q.1, e⟩, e]
      · rw [if_neg (by omega), if_pos ⟨q.1, e⟩, e]
      · rw [if_pos ⟨q.1, e⟩, e]
    · rw [if_neg (by omega), if_neg (by omega), if_neg (by omega)]
      by_cases p : x = b + 1 ∧ 0 ≤ y ∧ y < 600
      · rw [if_pos p, if_pos (show (b ≤ x ∧ x < b + 45) ∧ _ from ⟨by omega, Or.inr ⟨by omega, p.2⟩⟩), show x - b + c = c + 1 by omega]
      · rw [if_neg p, if_neg]
        rintro ⟨r1, r2 | r2⟩
        · exact q ⟨by omega, r2.2⟩
        · exact p ⟨by omega, r2.2⟩
  generalize mst (mst (mst (mcp M (c + 1) (b + 1) 600) b 1 ((mcp M (c + 1) (b + 1) 600).1 c 1)) b 2 ((mst (mcp M (c + 1) (b + 1) 600) b 1 ((mcp M (c + 1) (b + 1) 600).1 c 1)).1 c 2)) b 3 ((mst (mst (mcp M (c + 1) (b + 1) 600) b 1 ((mcp M (c + 1) (b + 1) 600).1 c 1)) b 2 ((mst (mcp M (c + 1) (b + 1) 600) b 1 ((mcp M (c + 1) (b + 1) 600).1 c 1)).1 c 2)).1 c 3) = A at *
  have hA := ToldS.both hbc Free.ss1 ⟨hB, hC⟩ h1
  obtain ⟨_, _, ⟨d4, d5, d6⟩, _⟩ := hA.1.1
  obtain ⟨_, _, ⟨f4, f5, f6⟩, _⟩ := hA.2.1
  rw [d4, f4]
  refine TT.bind (cpRow_T (n := 4) f5 f6 d5 d6 (by decide)) (fun r q => ?_)
  have h2 : CPS A r b c (fun x y => decide (x = 2) && decide (0 ≤ y ∧ y < 4)) := by
    refine ⟨q.1, fun x y => ?_⟩
    show _ = if (b ≤ x ∧ x < b + 45) ∧ (decide (x - b = 2) && decide (0 ≤ y ∧ y < 4)) = true then _ else _
    simp only [Bool.and_eq_true, decide_eq_true_eq]
    by_cases p : x = b + 2
    · rw [p, q.2.2]
      by_cases z : 0 ≤ y ∧ y < 4
      · rw [if_pos z, if_pos ⟨by omega, by omega, z⟩, show b + 2 - b + c = c + 2 by omega]
      · rw [if_neg z, if_neg (fun t => z t.2.2)]
    · rw [q.2.1 x y p, if_neg (by omega)]
  have hr := ToldS.both hbc Free.ss2 hA h2
  have h3 : CPS M r b c (SS 0) := (CPS.comp hbc h1 h2).congr (fun x y => by
    unfold SS hdT
    rw [decide_eq_false (show ¬ (1 : Int) ≤ 0 by decide), decide_eq_false (show ¬ (2 : Int) ≤ 0 by decide), Bool.false_and, Bool.false_and, Bool.or_false, Bool.or_false])
  refine TT.iter (fun s : Int × Mem => (0 ≤ s.1 ∧ s.1 ≤ 2) ∧ CPS M s.2 b c (SS s.1) ∧ ToldS s.2 b ∧ ToldS s.2 c) (fun s => (2 - s.1).toNat) ?_ BIG (0, r) ⟨⟨by dsimp only; omega, by dsimp only; omega⟩, h3, hr⟩ (by unfold BIG; dsimp only; omega)
  rintro rec ⟨i, s⟩ ⟨⟨i0, i2⟩, hs, hS⟩ hrec
  simp only at i0 i2 hs hS ⊢
  refine TT.ite (fun ci => ?_) (fun ci => TT.ok (hs.congr (fun x y => ?_)))
  · have ho := oi i0 ci
    have hwi := wi i0 ci
    obtain ⟨t0, _, _, ⟨t5, t5k, t5l⟩, _⟩ := hS.1.1
    obtain ⟨u0, _, _, ⟨u5, u5k, u5l⟩, _⟩ := hS.2.1
    have p1 := (hS.1.2 i i0 ci).1
    have p2 := (hS.2.2 i i0 ci).1
    rw [t5, u5, p1.1, p2.1]
    refine TT.guard t0 (TT.guard ⟨by rw [t5k]; decide, i0, by rw [t5l]; exact ci⟩ (TT.guard u0 (TT.guard ⟨by rw [u5k]; decide, i0, by rw [u5l]; exact ci⟩ (TT.guard (show s.2.1 (b + (7 + 19 * i)) = 7 from p1.2.1) ?_))))
    have hab7 := dj hbc (7 + 19 * i) (w := 8) (by decide)
    refine TT.bind (townCopy_T p1.2 p2.2 hab7) (fun r1 q1 => ?_)
    have z1 : CPS s r1 b c _ := OC.cps ho.1.1 ho.1.2 (by decide) q1
    have H1 := ToldS.both hbc (Free.obj7 i0 ci) hS z1
    obtain ⟨t0, _, _, _, ⟨t5, t5k, t5l⟩, _⟩ := H1.1.1
    obtain ⟨u0, _, _, _, ⟨u5, u5k, u5l⟩, _⟩ := H1.2.1
    have p1 := (H1.1.2 i i0 ci).2.1
    have p2 := (H1.2.2 i i0 ci).2.1
    rw [t5, u5, p1.1, p2.1]
    refine TT.guard t0 (TT.guard ⟨by rw [t5k]; decide, i0, by rw [t5l]; exact ci⟩ (TT.guard u0 (TT.guard ⟨by rw [u5k]; decide, i0, by rw [u5l]; exact ci⟩ (TT.guard (show r1.2.1 (b + (16 + 19 * i)) = 0 from p1.2) ?_))))
    have hab16 := dj0 hbc (16 + 19 * i)
    refine TT.bind (lawCopy_T p1.2 p2.2 hab16) (fun r2 q2 => ?_)
    have z2 : CPS r1 r2 b c _ := OC.cps ho.2.1.1 ho.2.1.2 (by decide) q2
    have H2 := ToldS.both hbc (Free.obj16 i0 ci) H1 z2
    obtain ⟨t0, _, _, _, _, ⟨t5, t5k, t5l⟩, _⟩ := H2.1.1
    obtain ⟨u0, _, _, _, _, ⟨u5, u5k, u5l⟩, _⟩ := H2.2.1
    have p1 := (H2.1.2 i i0 ci).2.2.1
    have p2 := (H2.2.2 i i0 ci).2.2.1
    rw [t5, u5, p1.1, p2.1]
    refine TT.guard t0 (TT.guard ⟨by rw [t5k]; decide, i0, by rw [t5l]; exact ci⟩ (TT.guard u0 (TT.guard ⟨by rw [u5k]; decide, i0, by rw [u5l]; exact ci⟩ (TT.guard (show r2.2.1 (b + (17 + 19 * i)) = 1 from p1.2.1) ?_))))
    have hab17 := dj hbc (17 + 19 * i) (w := 4) (by decide)
    refine TT.bind (nightCopy_T p1.2 p2.2 hab17) (fun r3 q3 => ?_)
    have z3 : CPS r2 r3 b c _ := OC.cps ho.2.2.1.1 ho.2.2.1.2 (by decide) q3
    have H3 := ToldS.both hbc (Free.obj17 i0 ci) H2 z3
    obtain ⟨t0, _, _, _, _, _, ⟨t5, t5k, t5l⟩⟩ := H3.1.1
    obtain ⟨u0, _, _, _, _, _, ⟨u5, u5k, u5l⟩⟩ := H3.2.1
    have p1 := (H3.1.2 i i0 ci).2.2.2
    have p2 := (H3.2.2 i i0 ci).2.2.2
    rw [t5, u5, p1.1, p2.1]
    refine TT.guard t0 (TT.guard ⟨by rw [t5k]; decide, i0, by rw [t5l]; exact ci⟩ (TT.guard u0 (TT.guard ⟨by rw [u5k]; decide, i0, by rw [u5l]; exact ci⟩ (TT.guard (show r3.2.1 (b + (22 + 19 * i)) = 4 from p1.2.1) ?_))))
    have hab22 := dj hbc (22 + 19 * i) (w := 3) (by decide)
    refine TT.bind (sightCopy_T p1.2 p2.2 hab22) (fun r4 q4 => ?_)
    have z4 : CPS r3 r4 b c _ := OC.cps ho.2.2.2.1 ho.2.2.2.2 (by decide) q4
    have H4 := ToldS.both hbc (Free.obj22 i0 ci) H3 z4
    have zz := CPS.comp hbc (CPS.comp hbc (CPS.comp hbc (CPS.comp hbc hs z1) z2) z3) z4
    have ew := hwi.1
    refine hrec _ ⟨hwi.2.1, ?_, H4⟩ hwi.2.2.1
    show CPS M r4 b c (SS (w32 (i + 1)))
    rw [ew]
    refine zz.congr (fun x y => ?_)
    rcases hwi.2.2.2 with e | e
    · subst e
      simp only [SS, cpT]
      simp [Bool.or_assoc]
    · subst e
      simp only [SS, cpT]
      simp [Bool.or_assoc]
  · have e : i = 2 := Int.le_antisymm i2 (Int.not_lt.mp ci)
    subst e
    simp only [SS, datT]
    simp
end Told2
