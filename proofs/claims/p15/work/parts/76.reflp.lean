/-! the reference: lineOf, lines -/
section RefP2
variable {M N : Mem} {T : Int → Int} {n i : Int} {s : Int} {σ : RSt}
theorem WCL_pos : ((List.range 18).all fun k => decide (0 < WCL.getD k 0)) = true := by decide +kernel
/-- the word is none of a range's -/
theorem w_no {a b : Nat} {w : Int} (hb : b ≤ 18) (hw : (tK T n σ.1 = 1 → w = tW T n σ.1) ∧ (tK T n σ.1 ≠ 1 → w = 0)) (h : tK T n σ.1 ≠ 1 ∨ ∀ x : Int, (a : Int) ≤ x → x < b → ¬ wmB T (tS T n σ.1) (tE T n σ.1 - tS T n σ.1) x.toNat = true) : ∀ k : Nat, a ≤ k → k < b → w ≠ WCL.getD k 0 := by
  intro k h1 h2 e
  by_cases c : tK T n σ.1 = 1
  · rcases h with h | h
    · exact h c
    · rw [hw.1 c] at e
      have g := (tW_iff c (show k < 18 by omega)).mp e
      have := h (k : Int) (by omega) (by omega)
      rw [show ((k : Int)).toNat = k by omega] at this
      exact this g
  · rw [hw.2 c] at e
    have g := List.all_eq_true.mp WCL_pos k (List.mem_range.mpr (by omega))
    simp only [decide_eq_true_eq] at g
    omega
theorem w_is {w : Int} (hw : tK T n σ.1 = 1 → w = tW T n σ.1) (hc : tK T n σ.1 = 1) {l : Nat} (hl : l < 18) (h : wmB T (tS T n σ.1) (tE T n σ.1 - tS T n σ.1) l = true) : w = WCL.getD l 0 := by
  rw [hw hc]; exact (tW_iff hc hl).mpr h
set_option maxHeartbeats 1000000 in
theorem lineOf_W (hT : WT M) (hp : PT M) (s0 : 0 ≤ s) (s4 : s < 4) (hd : DOf s M) (h : HdR M T n σ) {w : Int} (hw : (tK T n σ.1 = 1 → w = tW T n σ.1) ∧ (tK T n σ.1 ≠ 1 → w = 0)) : TT (fX11_lineOf M 85 s w (tS T n σ.1)) (LO T n s σ) := by
  unfold fX11_lineOf
  have sp := @lnIx_sp T n σ.1 s s0 s4
  by_cases cK : tK T n σ.1 = 1
  · rcases sp with ⟨e, f⟩ | ⟨f0, f1, fw⟩
    · have hn : tK T n σ.1 ≠ 1 ∨ lnIx T n σ.1 s = -1 := Or.inr e
      rcases (show s = 0 ∨ s = 1 ∨ s = 2 ∨ s = 3 by omega) with z | z | z | z <;> subst z
      · exact TT.pos rfl (TT.guard (wk85 hT) (lo_ret (townLine_N hT h (fun k hk => w_no (a := 0) (b := 9) (by decide) hw (Or.inr f) k (Nat.zero_le _) hk) hn)))
      · exact TT.neg (by decide) (TT.pos rfl (TT.guard (wk85 hT) (lo_ret (lawLine_N hT h (fun k h1 hk => w_no (a := 9) (b := 12) (by decide) hw (Or.inr f) k h1 hk) hn))))
      · exact TT.neg (by decide) (TT.neg (by decide) (TT.pos rfl (TT.guard (wk85 hT) (lo_ret (nightsLine_N hT h (fun k h1 hk => w_no (a := 12) (b := 16) (by decide) hw (Or.inr f) k h1 hk) hn)))))
      · exact TT.neg (by decide) (TT.neg (by decide) (TT.neg (by decide) (TT.guard (wk85 hT) (lo_ret (sightLine_N hT h (fun k h1 hk => w_no (a := 16) (b := 18) (by decide) hw (Or.inr f) k h1 hk) hn)))))
    · generalize hl : lnIx T n σ.1 s = l at *
      have hl' := hl.symm
      have fb := FL_b s0 s4
      have ew := w_is hw.1 cK (l := l.toNat) (by omega) fw
      rcases (show s = 0 ∨ s = 1 ∨ s = 2 ∨ s = 3 by omega) with z | z | z | z <;> subst z
      · have q0 : FL_ 0 = 0 := rfl
        have q1 : FL_ (0 + 1) = 9 := rfl
        refine TT.pos rfl (TT.guard (wk85 hT) (lo_ret ?_))
        rcases (show l = 0 ∨ l = 1 ∨ l = 2 ∨ l = 3 ∨ l = 4 ∨ l = 5 ∨ l = 6 ∨ l = 7 ∨ l = 8 by omega) with y | y | y | y | y | y | y | y | y <;> subst y
        · rw [show w = 114827921155443 from ew]; exact townLine_V0 hT hp (hd.1 rfl) h cK hl'
        · rw [show w = 6840691 from ew]; exact townLine_V1 hT hp (hd.1 rfl) h cK hl'
        · rw [show w = 474147546227 from ew]; exact townLine_V2 hT hp (hd.1 rfl) h cK hl'
        · rw [show w = 512736125800 from ew]; exact townLine_V3 hT hp (hd.1 rfl) h cK hl'
        · rw [show w = 123563851081075 from ew]; exact townLine_V4 hT hp (hd.1 rfl) h cK hl'
        · rw [show w = 131277443786868 from ew]; exact townLine_V5 hT hp (hd.1 rfl) h cK hl'
        · rw [show w = 512970880104 from ew]; exact townLine_V6 hT hp (hd.1 rfl) h cK hl'
        · rw [show w = 7565166 from ew]; exact townLine_V7 hT hp (hd.1 rfl) h cK hl'
        · rw [show w = 499967944038 from ew]; exact townLine_V8 hT hp (hd.1 rfl) h cK hl'
      · have q0 : FL_ 1 = 9 := rfl
        have q1 : FL_ (1 + 1) = 12 := rfl
        refine TT.neg (by decide) (TT.pos rfl (TT.guard (wk85 hT) (lo_ret ?_)))
        rcases (show l = 9 ∨ l = 10 ∨ l = 11 by omega) with y | y | y <;> subst y
        · rw [show w = 1918989413 from ew]; exact lawLine_V9 hT hp h cK hl'
        · rw [show w = 426836779880 from ew]; exact lawLine_V10 hT hp h cK hl'
        · rw [show w = 110429873532005 from ew]; exact lawLine_V11 hT hp h cK hl'
      · have q0 : FL_ 2 = 12 := rfl
        have q1 : FL_ (2 + 1) = 16 := rfl
        refine TT.neg (by decide) (TT.neg (by decide) (TT.pos rfl (TT.guard (wk85 hT) (lo_ret ?_))))
        rcases (show l = 12 ∨ l = 13 ∨ l = 14 ∨ l = 15 by omega) with y | y | y | y <;> subst y
        · rw [show w = 1952541541 from ew]; exact nightsLine_V12 hT hp h cK (hd.2.2.1 rfl) hl'
        · rw [show w = 1734964837 from ew]; exact nightsLine_V13 hT hp h cK (hd.2.2.1 rfl) hl'
        · rw [show w = 7562612 from ew]; exact nightsLine_V14 hT hp h cK (hd.2.2.1 rfl) hl'
        · rw [show w = 474214787188 from ew]; exact nightsLine_V15 hT hp h cK (hd.2.2.1 rfl) hl'
      · have q0 : FL_ 3 = 16 := rfl
        have q1 : FL_ (3 + 1) = 18 := rfl
        refine TT.neg (by decide) (TT.neg (by decide) (TT.neg (by decide) (TT.guard (wk85 hT) (lo_ret ?_))))
        rcases (show l = 16 ∨ l = 17 by omega) with y | y <;> subst y
        · rw [show w = 444150998382 from ew]; exact sightLine_V16 hT hp h cK (hd.2.2.2 (by decide) (by decide) (by decide)) hl'
        · rw [show w = 1818584692 from ew]; exact sightLine_V17 hT hp h cK (hd.2.2.2 (by decide) (by decide) (by decide)) hl'
  · have hn : tK T n σ.1 ≠ 1 ∨ lnIx T n σ.1 s = -1 := Or.inl cK
    rcases (show s = 0 ∨ s = 1 ∨ s = 2 ∨ s = 3 by omega) with z | z | z | z <;> subst z
    · exact TT.pos rfl (TT.guard (wk85 hT) (lo_ret (townLine_N hT h (fun k hk => w_no (a := 0) (b := 9) (by decide) hw (Or.inl cK) k (Nat.zero_le _) hk) hn)))
    · exact TT.neg (by decide) (TT.pos rfl (TT.guard (wk85 hT) (lo_ret (lawLine_N hT h (fun k h1 hk => w_no (a := 9) (b := 12) (by decide) hw (Or.inl cK) k h1 hk) hn))))
    · exact TT.neg (by decide) (TT.neg (by decide) (TT.pos rfl (TT.guard (wk85 hT) (lo_ret (nightsLine_N hT h (fun k h1 hk => w_no (a := 12) (b := 16) (by decide) hw (Or.inl cK) k h1 hk) hn)))))
    · exact TT.neg (by decide) (TT.neg (by decide) (TT.neg (by decide) (TT.guard (wk85 hT) (lo_ret (sightLine_N hT h (fun k h1 hk => w_no (a := 16) (b := 18) (by decide) hw (Or.inl cK) k h1 hk) hn)))))
/-- between two lines -/
def RRep (M : Mem) (T : Int → Int) (n : Int) (σ : RSt) : Prop := (M.1 86 = T ∧ M.1 85 11 = n ∧ BY M ∧ 0 ≤ σ.1 ∧ σ.1 ≤ n) ∧ TokY T n σ.1 M ∧ FR σ.2.1 M (tS T n σ.1) ∧ (σ.2.1.1 = 0 → (∀ y, 0 ≤ y → y < 161 → M.1 95 y = σ.2.2.1 y) ∧ M.1 85 21 = σ.2.2.2.1 ∧ M.1 85 22 = σ.2.2.2.2)
theorem mk_0 {k : Int} (h0 : 0 ≤ k) (h4 : k ≤ 4) : (mk k = 0 ↔ k = 0) ∧ (mk k = 2 ↔ k = 1) ∧ (mk k = 4 ↔ k = 3) := by
  rcases (show k = 0 ∨ k = 1 ∨ k = 2 ∨ k = 3 ∨ k = 4 by omega) with e | e | e | e | e <;> subst e <;> decide
set_option maxHeartbeats 2000000 in
theorem lines_W (hT : WT M) (hp : PT M) (s0 : 0 ≤ s) (s4 : s < 4) (hd : DOf s M) (h : RRep M T n (sg T n s 0)) : TT (fX11_lines M 85 s) (fun r => ∃ m : Nat, (∀ j : Nat, j < m → tK T n (sg T n s j).1 ≠ 0 ∧ CL1 T n s (sg T n s j)) ∧ ((r.1 = 0 ∧ tK T n (sg T n s m).1 ≠ 0 ∧ BRK T n s (sg T n s m) (r.2.1 85 16)) ∨ (r.1 ≠ 0 ∧ tK T n (sg T n s m).1 = 0 ∧ RRep r.2 T n (sg T n s m)))) := by
  unfold fX11_lines
  refine TT.iter (fun u : Int × Mem => (B01 u.1 ∧ LK M u.2 ∧ DOf s u.2 ∧ PS u.2 ∧ (u.1 ≠ 0 → PT u.2)) ∧ ∃ m : Nat, (∀ j : Nat, j < m → tK T n (sg T n s j).1 ≠ 0 ∧ CL1 T n s (sg T n s j)) ∧ ((u.1 = 0 ∧ tK T n (sg T n s m).1 ≠ 0 ∧ BRK T n s (sg T n s m) (u.2.1 85 16)) ∨ (u.1 ≠ 0 ∧ RRep u.2 T n (sg T n s m)))) (fun u => if u.1 = 0 then 0 else (u.2.1 85 11 - u.2.1 85 12 + 1).toNat + 1) ?_ BIG (1, M) ⟨⟨Or.inr rfl, LK.self M, hd, hp.1, fun _ => hp⟩, 0, fun j hj => absurd hj (Nat.not_lt_zero _), Or.inr ⟨Int.one_ne_zero, h⟩⟩ (by
    obtain ⟨⟨h1, h2, h3⟩, ⟨h4, h5⟩, _⟩ := hp
    unfold BIG; dsimp only; rw [if_neg (by decide)]; omega)
  rintro rec ⟨b, u⟩ ⟨⟨hb, hL, hdu, hpu, hf⟩, m, hm, hcs⟩ hr
  simp only at hb hL hdu hpu hf hcs ⊢
  have hTu := hT.keep hL.1
  refine TT.ite (fun b0 => TT.guard hb (TT.ok ⟨m, hm, ?_⟩)) (fun hb0 => TT.guard (wk85 hTu) ?_)
  · rcases hcs with z | z
    · exact Or.inl z
    · exact absurd b0 z.1
  have rep := (hcs.resolve_left (fun z => hb0 z.1)).2
  have kr := @tK_r T n (sg T n s m).1
  have mks := mk_0 kr.1 kr.2
  obtain ⟨⟨e86, e11, hby, i0, i1⟩, hX, hF, hD⟩ := rep
  have hX' := hX
  obtain ⟨x1, x2, x3, x4, x5⟩ := hX
  refine TT.ite (fun e => TT.guard hb (TT.ok ⟨m, hm, Or.inr ⟨hb0, mks.1.mp (by rw [← x2]; exact e), ⟨e86, e11, hby, i0, i1⟩, hX', hF, hD⟩⟩)) (fun hs => TT.sM ?_)
  have eK : tK T n (sg T n s m).1 ≠ 0 := fun z => hs (by rw [x2]; exact mks.1.mpr z)
  have hpT := hf hb0
  have hpT2 := hpT
  obtain ⟨_, hb12, hbl, _⟩ := hpT
  have hlt := hbl hs
  have hV : VK u (mst u 85 23 1) := ⟨rfl, fun x y _ c => by rw [mst_r, if_neg (by rintro ⟨e1, e2⟩; omega)]⟩
  have hd8 : DOf s (mst u 85 23 1) := ⟨hdu.1, hdu.2.1, hdu.2.2.1, hdu.2.2.2⟩
  have hp8 : PT (mst u 85 23 1) := hpT2
  have hT8 := hTu.keep hV.keep
  have hL8 := hL.trans hV.lk
  have a10 : (mst u 85 23 1).1 85 10 = u.1 85 10 := rfl
  have a11 : (mst u 85 23 1).1 85 11 = u.1 85 11 := rfl
  have a12 : (mst u 85 23 1).1 85 12 = u.1 85 12 := rfl
  have a13 : (mst u 85 23 1).1 85 13 = u.1 85 13 := rfl
  have a15 : (mst u 85 23 1).1 85 15 = u.1 85 15 := rfl
  have hH : HdR (mst u 85 23 1) T n (sg T n s m) := ⟨⟨by rw [← e86]; exact funext fun y => mst_ne _ _ _ _ _ _ (by decide), e11, fun j p q => hby j p q, i0, i1⟩, hX', hF, fun z => ⟨by show (1 : Int) ≠ 0; decide, fun y p q => (hD z).1 y p q, (hD z).2.1, (hD z).2.2⟩⟩
  generalize mst u 85 23 1 = A at *
  rw [a13, x2, a15, x1]
  refine TT.join (fun w : Int => (tK T n (sg T n s m).1 = 1 → w = tW T n (sg T n s m).1) ∧ (tK T n (sg T n s m).1 ≠ 1 → w = 0)) (fun w hw => ?_) (fun j hj => TT.ite (fun e => hj _ ⟨fun z => x5 z, fun z => absurd (mks.2.1.mp e) z⟩) (fun e => hj _ ⟨fun z => absurd (mks.2.1.mpr z) e, fun _ => rfl⟩))
  refine TT.bind (TT.and (lineOf_T hT8 hp8 hd8 w _) (lineOf_W hT8 hp8 s0 s4 hd8 hH hw)) (fun r q => ?_)
  obtain ⟨⟨q1, q2, q3, ⟨q4, q5⟩, q6⟩, qO⟩ := q
  have hLr := hL8.trans q2
  have hTr := hT.keep hLr.1
  have hu11 := hL.2
  refine TT.join (fun t : Int × Mem => (B01 t.1 ∧ LK M t.2 ∧ DOf s t.2 ∧ PS t.2 ∧ u.1 85 10 ≤ t.2.1 85 10 ∧ (t.1 ≠ 0 → PT t.2)) ∧ ((t.1 = 0 ∧ BRK T n s (sg T n s m) (t.2.1 85 16)) ∨ (t.1 ≠ 0 ∧ CL1 T n s (sg T n s m) ∧ ∃ sh : Int, LPr T n s (sg T n s m) (lnIx T n (sg T n s m).1 s) (nmL (lnIx T n (sg T n s m).1 s)).toNat sh (upH (lnIx T n (sg T n s m).1 s) (vv T n (sg T n s m).1 0) (vv T n (sg T n s m).1 1) (sg T n s m).2.2.2.1) (upT (lnIx T n (sg T n s m).1 s) (vv T n (sg T n s m).1 0) (vv T n (sg T n s m).1 1) (sg T n s m).2.2.2.2) (updL (lnIx T n (sg T n s m).1 s) (vv T n (sg T n s m).1 0) (vv T n (sg T n s m).1 1) (vv T n (sg T n s m).1 2) (sg T n s m).2.2.1) t.2))) (fun t ht => ?_) (fun j hj => ?_)
  · obtain ⟨⟨t1, t2, t3, t4, t5, t6⟩, tO⟩ := ht
    have hTt := hT.keep t2.1
    have hl11 := t2.2
    obtain ⟨t7, t8, t9⟩ := t4
    refine TT.ite (fun e => hr _ ⟨⟨t1, t2, t3, ⟨t7, t8, t9⟩, t6⟩, m, hm, Or.inl ⟨e, eK, ?_⟩⟩ ?_) (fun e => ?_)
    · rcases tO with z | z
      · exact z.2
      · exact absurd e z.1
    · show (if t.1 = 0 then 0 else _) < (if b = 0 then 0 else _)
      rw [if_pos e, if_neg hb0]; omega
    obtain ⟨_, tC, sh, tL⟩ := tO.resolve_left (fun z => e z.1)
    obtain ⟨⟨f86, f11, fby⟩, lX, lok, lF, lv, lD⟩ := tL
    have f10 := lX.2.2.1 (by rw [tC.2.2.2]; decide)
    have tv := token_V hTt ⟨t7, t8, t9⟩ fby
    rw [f86, f11, f10] at tv
    have ge := @tE_gt T n (tP T n (sg T n s m).1 ((nmL (lnIx T n (sg T n s m).1 s)).toNat + 1)) (by rw [tC.2.2.2]; decide)
    have sl := @tS_le T n (tE T n (tP T n (sg T n s m).1 ((nmL (lnIx T n (sg T n s m).1 s)).toNat + 1)))
    have pb := tP_le (T := T) i1 ((nmL (lnIx T n (sg T n s m).1 s)).toNat + 2)
    refine TT.guard (wk85 hTt) (TT.bind (TT.and (token_T hTt ⟨t7, t8, t9⟩) tv) (fun z qz => hr _ ⟨⟨t1, t2.trans qz.1.1.vk.lk, DOf.stab s _ _ qz.1.1.vk qz.1.lf t3, qz.1.2.1.1, fun _ => qz.1.2.1⟩, m + 1, fun j hj => ?_, Or.inr ⟨e, ?_⟩⟩ ?_))
    · by_cases q : j = m
      · rw [q]; exact ⟨eK, tC⟩
      · exact hm j (by omega)
    · obtain ⟨_, zK, zY⟩ := qz
      refine ⟨⟨zK.t.trans f86, (zK.2 85 11 (by decide)).trans f11, zK.by fby, ?_, ?_⟩, zY, ?_, fun ez => ?_⟩
      · show 0 ≤ tP T n (sg T n s m).1 ((nmL (lnIx T n (sg T n s m).1 s)).toNat + 2)
        omega
      · exact pb.1
      · exact (lF.same (zK.2 85 17 (by decide)) (zK.2 85 18 (by decide))).up (by show tS T n (tP T n (sg T n s m).1 ((nmL (lnIx T n (sg T n s m).1 s)).toNat + 1)) ≤ tS T n (tE T n (tP T n (sg T n s m).1 ((nmL (lnIx T n (sg T n s m).1 s)).toNat + 1))); omega)
      · have ez' : (fpL T n s (sg T n s m)).1 = 0 := ez
        obtain ⟨d1, d2, d3, d4⟩ := lD ez'
        refine ⟨fun y y0 y1 => ?_, ?_, ?_⟩
        · show z.1 95 y = (ite ((fpL T n s (sg T n s m)).1 = 0) (_ : Int → Int) (_ : Int → Int)) y
          rw [if_pos ez', zK.2 95 y (Or.inl (by decide))]; exact d2 y y0 y1
        · show z.1 85 21 = (if (fpL T n s (sg T n s m)).1 = 0 then _ else _)
          rw [if_pos ez', zK.2 85 21 (by decide)]; exact d3
        · show z.1 85 22 = (if (fpL T n s (sg T n s m)).1 = 0 then _ else _)
          rw [if_pos ez', zK.2 85 22 (by decide)]; exact d4
    · show (if t.1 = 0 then 0 else (z.1 85 11 - z.1 85 12 + 1).toNat + 1) < (if b = 0 then 0 else (u.1 85 11 - u.1 85 12 + 1).toNat + 1)
      rw [if_neg e, if_neg hb0]
      have z11 : z.1 85 11 = t.2.1 85 11 := qz.1.1.2 85 11 (by decide)
      have z12 := qz.1.2.2
      omega
  · refine TT.ite (fun e => hj _ ⟨⟨q1, hLr, q3, q4, ?_, q6⟩, Or.inl ⟨e, ?_⟩⟩) (fun e => TT.guard (wk85 hTr) ?_)
    · show u.1 85 10 ≤ r.2.1 85 10
      omega
    · rcases qO with z | z
      · exact z.2
      · exact absurd e (by rw [z.1]; decide)
    · obtain ⟨_, oK, oL, sh, oP⟩ := qO.resolve_left (fun z => e z.1)
      have kr2 := @tK_r T n (tP T n (sg T n s m).1 ((nmL (lnIx T n (sg T n s m).1 s)).toNat + 1))
      have mk2 := mk_0 kr2.1 kr2.2
      have o13 := oP.2.1.2.1
      refine TT.ite (fun c4 => hj _ ⟨⟨q1, hLr, q3, q4, ?_, q6⟩, Or.inr ⟨e, ⟨oK, oL, oP.2.2.1, mk2.2.2.mp (by rw [← o13]; exact c4)⟩, sh, oP⟩⟩) (fun c4 => ?_)
      · show u.1 85 10 ≤ r.2.1 85 10
        omega
      · have ne3 : tK T n (tP T n (sg T n s m).1 ((nmL (lnIx T n (sg T n s m).1 s)).toNat + 1)) ≠ 3 := fun z => c4 (by rw [o13]; exact mk2.2.2.mpr z)
        refine TT.bind (P := fun z => z = (0, mst r.2 85 16 (r.2.1 85 12))) ?_ (fun z qz => ?_)
        · unfold fX11_fails
          exact TT.guard (wk85 hTr) (TT.sM (TT.ok rfl))
        · rw [qz]
          have hVz : VK r.2 (mst r.2 85 16 (r.2.1 85 12)) := ⟨rfl, fun x y _ c => by rw [mst_r, if_neg (by rintro ⟨e1, e2⟩; omega)]⟩
          refine hj _ ⟨⟨Or.inl rfl, hLr.trans hVz.lk, DOf.stab s _ _ hVz ⟨id, id⟩ q3, q4, ?_, fun x => absurd rfl x⟩, Or.inl ⟨rfl, Or.inr ⟨oK, oL, (nmL (lnIx T n (sg T n s m).1 s)).toNat, oP.2.2.1, Or.inr ⟨?_, ne3⟩, ?_⟩⟩⟩
          · show u.1 85 10 ≤ r.2.1 85 10
            omega
          · have lb := (@lnIx_sp T n (sg T n s m).1 s s0 s4).resolve_left (fun x => oL x.1)
            have fb := FL_b s0 s4
            have := nm3 (l := lnIx T n (sg T n s m).1 s) (by omega) (by omega)
            show (((nmL (lnIx T n (sg T n s m).1 s)).toNat : Nat) : Int) = nmL (lnIx T n (sg T n s m).1 s)
            have nn : 0 ≤ nmL (lnIx T n (sg T n s m).1 s) := this.2
            omega
          · show r.2.1 85 12 = _
            exact oP.2.1.1
end RefP2
