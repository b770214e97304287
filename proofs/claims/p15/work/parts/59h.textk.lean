/-! the class: text, feed, end -/
section TextK
variable {M N O : Mem}
theorem FO.kd48 (h : FO M N 48 2 8) : KD M N := ⟨h.1, fun x y q _ _ => h.2 x y (by
  by_cases c : x < 48 ∨ 48 + 8 < x
  · exact Or.inl c
  · by_cases e : x = 48
    · subst e
      refine Or.inr ⟨rfl, ?_⟩
      by_cases z : 2 ≤ y
      · exact z
      · exfalso
        have : rdc 48 y = true := by
          unfold rdc
          simp [show y ≤ 1 by omega]
        unfold scr at q
        rw [this, Bool.or_true] at q; cases q
    · exfalso
      rcases (show x = 49 ∨ x = 50 ∨ x = 51 ∨ x = 52 ∨ x = 53 ∨ x = 54 ∨ x = 55 ∨ x = 56 by omega) with w | w | w | w | w | w | w | w <;> subst w <;> cases q)⟩
set_option maxHeartbeats 1000000 in
theorem begin3_T (hT : WT M) (hi : DI M) {n : Int} (n0 : 0 ≤ n) (n6 : n ≤ 600) : TT (fX3_begin M 47 2 n) (RLq M) := by
  unfold fX3_begin
  refine TT.guard (wk47 hT) (TT.guard (by decide) (TT.sM (TT.sM (TT.sM (TT.sM (TT.sM (TT.sM (TT.sM (TT.sM ?_)))))))))
  have h1 : SK M (mst (mst (mst (mst (mst (mst (mst (mst M 47 6 2) 47 7 n) 47 8 0) 47 0 0) 47 1 (-1)) 47 13 0) 47 14 (-1)) 47 15 (-1)) := ((((((((SK.self M).st (by decide)).st (by decide)).st (by decide)).st (by decide)).st (by decide)).st (by decide)).st (by decide)).st (by decide)
  have hR : RS (mst (mst (mst (mst (mst (mst (mst (mst M 47 6 2) 47 7 n) 47 8 0) 47 0 0) 47 1 (-1)) 47 13 0) 47 14 (-1)) 47 15 (-1)) := ⟨rfl, ⟨n6, n0⟩, Int.le_refl _, n0⟩
  generalize mst (mst (mst (mst (mst (mst (mst (mst M 47 6 2) 47 7 n) 47 8 0) 47 0 0) 47 1 (-1)) 47 13 0) 47 14 (-1)) 47 15 (-1) = A at *
  have hTA := h1.kd.wt hT
  rw [wp47_2 hTA]
  refine TT.guard (wk48 hTA) (TT.bind (townClear_T (TownS_48 hTA)) (fun r1 q1 => ?_))
  have hK1 : KD A r1 := q1.1.kd48
  have hT1 := hK1.wt hTA
  have f1 : ∀ x y, (x < 48 ∨ 56 < x) → r1.1 x y = A.1 x y := fun x y z => q1.1.2 x y (Or.inl (by omega))
  rw [wp47_3 hT1]
  refine TT.guard (wk47 hT1) (TT.guard (wk57 hT1) ?_)
  refine TT.bind (P := fun r => r = mst (mst (mst r1 57 0 2) 57 1 20) 57 2 0) ?_ (fun r2 e2 => ?_)
  · unfold fX0_clear
    exact TT.guard (wk57 hT1) (TT.sM (TT.sM (TT.sM (TT.ok rfl))))
  have hK2 : KD r1 r2 := by
    rw [e2]; exact (((KD.self r1).st (Or.inl rfl)).st (Or.inl rfl)).st (Or.inl rfl)
  have hT2 := hK2.wt hT1
  have f2 : ∀ x y, x ≠ 57 → r2.1 x y = r1.1 x y := fun x y z => by rw [e2, mst_ne _ _ _ _ _ _ z, mst_ne _ _ _ _ _ _ z, mst_ne _ _ _ _ _ _ z]
  have v2 : r2.1 57 0 = 2 ∧ r2.1 57 1 = 20 := by rw [e2]; exact ⟨rfl, rfl⟩
  clear e2
  rw [wp47_4 hT2]
  refine TT.guard (wk47 hT2) (TT.guard (wk58 hT2) ?_)
  refine TT.bind (P := fun r => r = mst r2 58 0 0) ?_ (fun r3 e3 => ?_)
  · unfold fX1_clear
    exact TT.guard (wk58 hT2) (TT.sM (TT.ok rfl))
  have hK3 : KD r2 r3 := by
    rw [e3]; exact (KD.self r2).st (Or.inl rfl)
  have hT3 := hK3.wt hT2
  have f3 : ∀ x y, x ≠ 58 → r3.1 x y = r2.1 x y := fun x y z => by rw [e3, mst_ne _ _ _ _ _ _ z]
  have v3 : r3.1 58 0 = 0 := by rw [e3]; rfl
  clear e3
  rw [wp47_5 hT3]
  refine TT.guard (wk47 hT3) (TT.guard (wk63 hT3) (TT.bind (sightClear_T (SightS_63 hT3)) (fun r4 q4 => TT.ok ?_)))
  have f4 : ∀ x y, x ≠ 63 → x ≠ 66 → r4.1 x y = r3.1 x y := fun x y a b => q4.2.2.2 x y a b
  have hK4 : KD r3 r4 := ⟨q4.1.1, fun x y q _ _ => by
    by_cases c : x = 63
    · subst c
      by_cases z : 1 ≤ y
      · exact q4.1.2 63 y (Or.inr ⟨rfl, z⟩)
      · exfalso
        have : rdc 63 y = true := by
          unfold rdc
          simp [show y ≤ 0 by omega]
        unfold scr at q
        rw [this, Bool.or_true] at q; cases q
    · exact f4 x y c (by intro w; subst w; cases q)⟩
  have fa : ∀ x y, (x < 48 ∨ (56 < x ∧ x ≠ 57 ∧ x ≠ 58 ∧ x ≠ 63 ∧ x ≠ 66)) → r4.1 x y = A.1 x y := fun x y z => by
    rw [f4 x y (by omega) (by omega), f3 x y (by omega), f2 x y (by omega), f1 x y (by omega)]
  have ft : ∀ x y, 48 ≤ x → x ≤ 56 → r4.1 x y = r1.1 x y := fun x y a b => by rw [f4 x y (by omega) (by omega), f3 x y (by omega), f2 x y (by omega)]
  refine ⟨(((h1.kd.trans hK1).trans hK2).trans hK3).trans hK4, hR.of (fa 47 6 (by decide)) (fa 47 7 (by decide)) (fa 47 8 (by decide)), ?_⟩
  have d1 := q1.2
  refine ⟨⟨by rw [ft 48 _ (by decide) (by decide)]; exact d1.1, by rw [ft 48 _ (by decide) (by decide)]; exact d1.2.1, fun k y k1 k8 y0 y1 => by rw [ft _ _ (by omega) (by omega)]; exact d1.2.2 k y k1 k8 y0 y1⟩, ?_, ?_, ?_, ⟨fun y a b => ?_, fun y a b => ?_⟩, fun y a b => ?_⟩
  · rw [f4 57 _ (by decide) (by decide), f4 57 _ (by decide) (by decide), f3 57 _ (by decide), f3 57 _ (by decide), v2.1, v2.2]; decide
  · rw [f4 58 _ (by decide) (by decide), v3]; decide
  · rw [q4.2.1]; decide
  · rw [fa 64 _ (by decide), h1.2 64 _ (Or.inl (by decide))]; exact hi.1 y a b
  · rw [fa 65 _ (by decide), h1.2 65 _ (Or.inl (by decide))]; exact hi.2 y a b
  · have := q4.2.2.1 y a b
    rw [show (63 : Int) + 3 = 66 from rfl] at this
    rw [this]; decide
set_option maxHeartbeats 1000000 in
theorem read3_T (hT : WT M) (hi : DI M) {n : Int} (n0 : 0 ≤ n) (n6 : n ≤ 600) (s : Int) : TT (fX3_read M 47 2 n s) (fun r => KD M r ∧ DRF r) := by
  unfold fX3_read
  rw [wl2 hT, show imin n 600 = n by unfold imin; split <;> omega]
  refine TT.guard (by rw [wk2 hT]; decide) (TT.guard (wk47 hT) (TT.bind (begin3_T hT hi n0 n6) (fun r2 q2 => ?_)))
  have hT2 := q2.1.wt hT
  refine TT.guard (wk47 hT2) (TT.bind (step_T hT2 q2.2.1) (fun r5 q5 => ?_))
  refine TT.iter (fun u : Int × Mem => (0 ≤ u.1 ∧ u.1 ≤ 601) ∧ RLq M u.2) (fun u => (601 - u.1).toNat) ?_ BIG (0, r5) ⟨⟨by dsimp only; omega, by dsimp only; omega⟩, q2.1.trans q5.1.kd, q5.2, q5.1.1.drf q2.2.2⟩ (by unfold BIG; dsimp only; omega)
  rintro rec ⟨i, u⟩ ⟨⟨i0, i6⟩, hu⟩ hr
  simp only at i0 i6 hu ⊢
  have hTu := hu.1.wt hT
  refine TT.guard (wk47 hTu) (TT.join (fun _ => True) (fun _ _ => ?_) (fun j hj => TT.ite (fun _ => hj () trivial) (fun c1 => TT.ite (fun _ => hj () trivial) (fun _ => TT.ite (fun _ => ?_) (fun _ => hj () trivial)))))
  · refine TT.join (fun t : Mem => SK u t) (fun t ht => ?_) (fun j hj => TT.ite (fun _ => ?_) (fun _ => hj u (SK.self u)))
    · have hTt := ht.kd.wt hTu
      exact TT.guard (wk47 hTt) (TT.guard (by decide) (TT.sM (TT.ok ⟨(hu.1.trans ht.kd).trans ((SK.self t).st (by decide)).kd, ((SK.self t).st (by decide)).drf (ht.drf hu.2.2)⟩)))
    · rw [wp47_2 hTu]
      exact TT.guard (wk48 hTu) (TT.join (fun _ => True) (fun _ _ => TT.bind (note_T hTu _ (by decide)) (fun r q => hj r (note_sk q))) (fun k hk => TT.ite (fun _ => TT.ite (fun _ => hj u (SK.self u)) (fun _ => hk () trivial)) (fun _ => hk () trivial)))
  · have hl := hu.2.1.2.1.1
    refine TT.bind (readLine_T hTu hu.2.1 hu.2.2 s) (fun r q => hr _ ⟨⟨?_, ?_⟩, hu.1.trans q.1, q.2⟩ ?_)
    · show 0 ≤ w32 (i + 1)
      rw [w32_of (by omega) (by omega)]; omega
    · show w32 (i + 1) ≤ 601
      rw [w32_of (by omega) (by omega)]; omega
    · show (601 - w32 (i + 1)).toNat < (601 - i).toNat
      rw [w32_of (by omega) (by omega)]; omega
/-! kept -/
def DFL : L5 := [(48, 0, 0, 1, 6), (48, 1, 1, 0, 4), (49, 0, 29, 0, 9), (50, 0, 29, 0, 9), (51, 0, 5, 0, 9), (52, 0, 5, 0, 5), (53, 0, 4, 1, 9), (54, 0, 4, 0, 9), (55, 0, 3, 0, 9), (56, 0, 3, (-1), 3), (57, 0, 0, 2, 5), (57, 1, 1, 1, 99), (58, 0, 0, 0, 40), (63, 0, 0, 0, 8), (64, 0, 7, 0, 5), (65, 0, 7, 0, 4), (66, 0, 29, (-1), 18)]
theorem DRF.rows (d : DRF M) : rows M DFL := by
  obtain ⟨d1, d2, d3, d4, d5, d6⟩ := d
  have t : ∀ j y : Int, 1 ≤ j → j ≤ 8 → 0 ≤ y → y < LT j → tlo j ≤ M.1 (48 + j) y ∧ M.1 (48 + j) y ≤ thi j := d1.2.2
  intro p hp i a b
  simp only [DFL, List.mem_cons, List.not_mem_nil, or_false] at hp
  rcases hp with rfl | rfl | rfl | rfl | rfl | rfl | rfl | rfl | rfl | rfl | rfl | rfl | rfl | rfl | rfl | rfl | rfl <;> dsimp only at a b
  · rw [show i = 0 by omega]; exact d1.1
  · rw [show i = 1 by omega]; exact d1.2.1
  · exact t 1 i (by decide) (by decide) a (by have : LT 1 = 30 := rfl; omega)
  · exact t 2 i (by decide) (by decide) a (by have : LT 2 = 30 := rfl; omega)
  · exact t 3 i (by decide) (by decide) a (by have : LT 3 = 6 := rfl; omega)
  · exact t 4 i (by decide) (by decide) a (by have : LT 4 = 6 := rfl; omega)
  · exact t 5 i (by decide) (by decide) a (by have : LT 5 = 5 := rfl; omega)
  · exact t 6 i (by decide) (by decide) a (by have : LT 6 = 5 := rfl; omega)
  · exact t 7 i (by decide) (by decide) a (by have : LT 7 = 4 := rfl; omega)
  · exact t 8 i (by decide) (by decide) a (by have : LT 8 = 4 := rfl; omega)
  · rw [show i = 0 by omega]; exact d2.1
  · rw [show i = 1 by omega]; exact d2.2
  · rw [show i = 0 by omega]; exact d3
  · rw [show i = 0 by omega]; exact d4
  · exact d5.1 i a (by omega)
  · exact d5.2 i a (by omega)
  · exact d6 i a (by omega)
def chkR (a b n : Int) : Bool := RGL.all fun p => decide (p.1 < a) || decide (a + n < p.1) || DFL.any fun p' => decide (p'.1 = p.1 - a + b) && decide (p'.2 = p.2)
def chkP (a f n : Int) : Bool := PL.all fun p => (decide (p.1 ≠ a) || decide (f ≤ p.2.1)) && (decide (p.1 ≤ a) || decide (a + n < p.1))
theorem OC.wt {a b f n : Int} {L : Int → Int} (h : WT M) (d : rows M DFL) (hR : chkR a b n = true) (hP : chkP a f n = true) (n0 : 0 ≤ n) (ha : a + n < 86) (q : OC M N a b f L n) : WT N := by
  have fr : ∀ x y, (x < a ∨ a + n < x) → N.1 x y = M.1 x y := fun x y z => by rw [q.2, if_neg (by omega), if_neg (by omega)]
  have two : ∀ x y, N.1 x y = M.1 (x - a + b) y ∨ N.1 x y = M.1 x y := fun x y => by
    rw [q.2]
    by_cases c : x = a ∧ 0 ≤ y ∧ y < f
    · rw [if_pos c, show x - a + b = b by omega]; exact Or.inl rfl
    · rw [if_neg c]
      by_cases e : (a + 1 ≤ x ∧ x ≤ a + n) ∧ 0 ≤ y ∧ y < L (x - a)
      · rw [if_pos e]; exact Or.inl rfl
      · rw [if_neg e]; exact Or.inr rfl
  refine ⟨⟨?_, ?_⟩, fun p hp i u v => ?_, ⟨fun l k l0 l4 k0 k2 => ?_, fun u j u0 u8 j0 j4 => ?_⟩⟩
  · have := h.1.1
    unfold kinds at *; rw [q.1]; exact this
  · have g0 := h.1.2
    unfold hold at *
    rw [List.all_eq_true] at *
    intro p hp
    have g1 := g0 p hp
    have g2 := List.all_eq_true.mp hP p hp
    simp only [Bool.and_eq_true, Bool.or_eq_true, decide_eq_true_eq] at g1 g2 ⊢
    rw [q.2, if_neg (by omega), if_neg (by omega)]; exact g1
  · have g2 := List.all_eq_true.mp hR p hp
    simp only [Bool.or_eq_true, decide_eq_true_eq, List.any_eq_true, Bool.and_eq_true] at g2
    rcases g2 with (g2 | g2) | ⟨p', hp', e1, e2⟩
    · rw [fr _ _ (Or.inl g2)]; exact h.2.1 p hp i u v
    · rw [fr _ _ (Or.inr g2)]; exact h.2.1 p hp i u v
    · rcases two p.1 i with z | z
      · have := d p' hp' i (by rw [e2]; exact u) (by rw [e2]; exact v)
        rw [e1, e2] at this
        rw [z]; exact this
      · rw [z]; exact h.2.1 p hp i u v
  · rw [fr 90 _ (by omega), fr 90 _ (by omega), fr 91 _ (by omega), fr 92 _ (by omega)]; exact h.2.2.1 l k l0 l4 k0 k2
  · rw [fr 93 _ (by omega), fr 93 _ (by omega)]; exact h.2.2.2 u j u0 u8 j0 j4
theorem WT.mfree {a i : Int} (v : Int) (h : WT M) (hp : freeOf PL a i = true) (hr : (RGL.all fun p => decide (p.1 ≠ a) || decide (i < p.2.1) || decide (p.2.2.1 < i)) = true) (hc : a < 86) : WT (mst M a i v) := by
  refine ⟨h.1.mst v hp, fun p hp j a1 a2 => ?_, fun l k l0 l4 k0 k2 => ?_, fun q j q0 q8 j0 j4 => ?_⟩
  · have g := List.all_eq_true.mp hr p hp
    simp only [Bool.or_eq_true, decide_eq_true_eq] at g
    rw [mst_r, if_neg (by rintro ⟨e1, e2⟩; omega)]; exact h.2.1 p hp j a1 a2
  · rw [mst_ne _ _ _ _ _ _ (by omega), mst_ne _ _ _ _ _ _ (by omega), mst_ne _ _ _ _ _ _ (by omega), mst_ne _ _ _ _ _ _ (by omega)]; exact h.2.2.1 l k l0 l4 k0 k2
  · rw [mst_ne _ _ _ _ _ _ (by omega), mst_ne _ _ _ _ _ _ (by omega)]; exact h.2.2.2 q j q0 q8 j0 j4
theorem WT.mrow {a i v : Int} {lo hi : Int} (h : WT M) (hp : (PL.all fun p => decide (p.1 ≠ a)) = true) (hr : (RGL.all fun p => decide (p.1 ≠ a) || decide (p.2.2.2 = (lo, hi))) = true) (hc : a < 86) (v0 : lo ≤ v) (v1 : v ≤ hi) : WT (mst M a i v) := by
  refine ⟨h.1.mst v ?_, fun p hp j a1 a2 => ?_, fun l k l0 l4 k0 k2 => ?_, fun q j q0 q8 j0 j4 => ?_⟩
  · rw [freeOf, List.all_eq_true]
    intro p hp2
    have g3 := List.all_eq_true.mp hp p hp2
    simp only [decide_eq_true_eq] at g3
    rw [decide_eq_false g3]; rfl
  · have g := List.all_eq_true.mp hr p hp
    simp only [Bool.or_eq_true, decide_eq_true_eq] at g
    rw [mst_r]
    by_cases e : p.1 = a ∧ j = i
    · rw [if_pos e]
      have := g.resolve_left (fun z => z e.1)
      rw [this]; exact ⟨v0, v1⟩
    · rw [if_neg e]; exact h.2.1 p hp j a1 a2
  · rw [mst_ne _ _ _ _ _ _ (by omega), mst_ne _ _ _ _ _ _ (by omega), mst_ne _ _ _ _ _ _ (by omega), mst_ne _ _ _ _ _ _ (by omega)]; exact h.2.2.1 l k l0 l4 k0 k2
  · rw [mst_ne _ _ _ _ _ _ (by omega), mst_ne _ _ _ _ _ _ (by omega)]; exact h.2.2.2 q j q0 q8 j0 j4
theorem WT.lenX (h : WT M) (e2 : N.2 = M.2) (hfr : ∀ x y, x ≠ 2 → ¬(x = 1 ∧ y = 1) → N.1 x y = M.1 x y) (hn : 0 ≤ N.1 1 1 ∧ N.1 1 1 ≤ 600) : WT N := by
  have g1 : (RGL.all fun p => decide (p.1 ≠ 2) && (decide (p.1 ≠ 1) || decide (p.2 = (1, 1, 0, 600)))) = true := by decide +kernel
  have g2 : (PL.all fun p => decide (p.1 ≠ 2) && (decide (p.1 ≠ 1) || decide (p.2.1 ≠ 1))) = true := by decide +kernel
  refine ⟨⟨?_, ?_⟩, fun p hp i u v => ?_, ⟨fun l k l0 l4 k0 k2 => ?_, fun u j u0 u8 j0 j4 => ?_⟩⟩
  · have := h.1.1
    unfold kinds at *; rw [e2]; exact this
  · have g0 := h.1.2
    unfold hold at *
    rw [List.all_eq_true] at *
    intro p hp
    have a := g0 p hp
    have b := g2 p hp
    simp only [Bool.and_eq_true, Bool.or_eq_true, decide_eq_true_eq] at a b ⊢
    rw [hfr _ _ b.1 (by omega)]; exact a
  · have b := List.all_eq_true.mp g1 p hp
    simp only [Bool.and_eq_true, Bool.or_eq_true, decide_eq_true_eq] at b
    by_cases c : p.1 = 1
    · have e := b.2.resolve_left (fun z => z c)
      rw [e] at u v
      rw [c, e]
      dsimp only at u v
      rw [show i = 1 by omega]; exact hn
    · rw [hfr _ _ b.1 (by omega)]; exact h.2.1 p hp i u v
  · rw [hfr 90 _ (by decide) (by omega), hfr 90 _ (by decide) (by omega), hfr 91 _ (by decide) (by omega), hfr 92 _ (by decide) (by omega)]; exact h.2.2.1 l k l0 l4 k0 k2
  · rw [hfr 93 _ (by decide) (by omega), hfr 93 _ (by decide) (by omega)]; exact h.2.2.2 u j u0 u8 j0 j4
end TextK
