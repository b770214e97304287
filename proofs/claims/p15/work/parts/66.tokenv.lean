/-! the reference: its token is the spec's -/
section TokenV
variable {M N : Mem}
theorem and255_all : ((List.range 256).all fun k => decide (bAnd ((k : Int) - 128) 255 = if (k : Int) - 128 < 0 then (k : Int) + 128 else (k : Int) - 128)) = true := by decide +kernel
theorem and255 {b : Int} (h0 : -128 ≤ b) (h1 : b ≤ 127) : bAnd b 255 = if b < 0 then b + 256 else b := by
  have g := List.all_eq_true.mp and255_all (b + 128).toNat (List.mem_range.mpr (by omega))
  simp only [decide_eq_true_eq] at g
  rw [show (((b + 128).toNat : Nat) : Int) - 128 = b by omega, show (((b + 128).toNat : Nat) : Int) + 128 = b + 256 by omega] at g
  exact g
/-- bytes of the reference's tape, as far as it is told -/
def BY (M : Mem) : Prop := ∀ i, 0 ≤ i → i < M.1 85 11 → -128 ≤ M.1 86 i ∧ M.1 86 i ≤ 127
theorem TK.t (h : TK M N) : N.1 86 = M.1 86 := funext fun y => h.2 86 y (Or.inl (by decide))
theorem TK.by (h : TK M N) (b : BY M) : BY N := fun i a c => by rw [h.t]; exact b i a (by rw [h.2 85 11 (by decide)] at c; exact c)
theorem seeV_L (hb : BY M) (h0 : 0 ≤ M.1 85 10) : (97 ≤ seeV M ∧ seeV M ≤ 122) ↔ (M.1 85 10 < M.1 85 11 ∧ isL (M.1 86 (M.1 85 10)) = true) := by
  unfold seeV isL
  simp only [Bool.and_eq_true, decide_eq_true_eq]
  by_cases c : M.1 85 10 < M.1 85 11
  · have := hb _ h0 c
    rw [if_pos c, and255 this.1 this.2]
    by_cases z : M.1 86 (M.1 85 10) < 0
    · rw [if_pos z]; omega
    · rw [if_neg z]; omega
  · rw [if_neg c]; omega
theorem seeV_D (hb : BY M) (h0 : 0 ≤ M.1 85 10) : (48 ≤ seeV M ∧ seeV M ≤ 57) ↔ (M.1 85 10 < M.1 85 11 ∧ isD (M.1 86 (M.1 85 10)) = true) := by
  unfold seeV isD
  simp only [Bool.and_eq_true, decide_eq_true_eq]
  by_cases c : M.1 85 10 < M.1 85 11
  · have := hb _ h0 c
    rw [if_pos c, and255 this.1 this.2]
    by_cases z : M.1 86 (M.1 85 10) < 0
    · rw [if_pos z]; omega
    · rw [if_neg z]; omega
  · rw [if_neg c]; omega
theorem seeV_B (hb : BY M) (h0 : 0 ≤ M.1 85 10) : (seeV M = 10 ∨ seeV M = 32) ↔ (M.1 85 10 < M.1 85 11 ∧ isB (M.1 86 (M.1 85 10)) = true) := by
  unfold seeV isB
  simp only [Bool.or_eq_true, decide_eq_true_eq]
  by_cases c : M.1 85 10 < M.1 85 11
  · have := hb _ h0 c
    rw [if_pos c, and255 this.1 this.2]
    by_cases z : M.1 86 (M.1 85 10) < 0
    · rw [if_pos z]; omega
    · rw [if_neg z]; omega
  · rw [if_neg c]; omega
theorem seeV_v (hb : BY M) (h0 : 0 ≤ M.1 85 10) (c : M.1 85 10 < M.1 85 11) (hp : 0 ≤ M.1 86 (M.1 85 10)) : seeV M = M.1 86 (M.1 85 10) := by
  have := hb _ h0 c
  unfold seeV
  rw [if_pos c, and255 this.1 this.2, if_neg (by omega)]
theorem seeV_59 (hb : BY M) (h0 : 0 ≤ M.1 85 10) (c : M.1 85 10 < M.1 85 11) : seeV M = 59 ↔ M.1 86 (M.1 85 10) = 59 := by
  have := hb _ h0 c
  unfold seeV
  rw [if_pos c, and255 this.1 this.2]
  by_cases z : M.1 86 (M.1 85 10) < 0
  · rw [if_pos z]; omega
  · rw [if_neg z]
theorem seeV_0 (hb : BY M) (h0 : 0 ≤ M.1 85 10) : seeV M < 0 ↔ ¬ M.1 85 10 < M.1 85 11 := by
  unfold seeV
  by_cases c : M.1 85 10 < M.1 85 11
  · have := hb _ h0 c
    rw [if_pos c, and255 this.1 this.2]
    by_cases z : M.1 86 (M.1 85 10) < 0
    · rw [if_pos z]; omega
    · rw [if_neg z]; omega
  · rw [if_neg c]; omega
/-- letters as one number -/
def encL (T : Int → Int) (j : Int) : Nat → Int
  | 0 => 0
  | k + 1 => 256 * encL T j k + T (j + k)
theorem encL_b {T : Int → Int} {j : Int} : ∀ k : Nat, (∀ i : Nat, i < k → 0 ≤ T (j + i) ∧ T (j + i) ≤ 122) → 0 ≤ encL T j k ∧ encL T j k < 123 * 256 ^ (k - 1)
  | 0, _ => by unfold encL; decide
  | 1, h => by
    have := h 0 (by decide)
    unfold encL encL
    rw [show (256 : Int) ^ (1 - 1) = 1 from rfl]
    rw [show ((0 : Nat) : Int) = 0 from rfl] at *
    omega
  | k + 2, h => by
    have i := encL_b (k + 1) (fun i hi => h i (by omega))
    have t := h (k + 1) (by omega)
    have e : (256 : Int) ^ (k + 2 - 1) = 256 * 256 ^ (k + 1 - 1) := by
      rw [show k + 2 - 1 = k + 1 by omega, show k + 1 - 1 = k by omega, Int.pow_succ, Int.mul_comm]
    rw [e]
    generalize (256 : Int) ^ (k + 1 - 1) = P at *
    show 0 ≤ 256 * encL T j (k + 1) + T (j + ((k + 1 : Nat) : Int)) ∧ 256 * encL T j (k + 1) + T (j + ((k + 1 : Nat) : Int)) < _
    omega
theorem lshl8 {x : Int} (h0 : 0 ≤ x) (h1 : 256 * x < 9223372036854775808) : lShl x 8 = 256 * x := by
  unfold lShl
  have e : ((Int32.ofInt 8).toInt64 &&& 63) = 8 := by decide
  rw [e]
  have e2 : (Int64.ofInt x <<< (8 : Int64)).toInt = ((BitVec.ofInt 64 x) <<< (8 : Nat)).toInt := rfl
  have hn : (BitVec.ofInt 64 x).toNat = x.toNat := by
    rw [BitVec.toNat_ofInt, Int.emod_eq_of_lt h0 (by omega)]
  have hm : ((BitVec.ofInt 64 x) <<< (8 : Nat)).toNat = 256 * x.toNat := by
    rw [BitVec.toNat_shiftLeft, hn, Nat.shiftLeft_eq, Nat.mod_eq_of_lt (by omega)]; omega
  rw [e2, BitVec.toInt_eq_toNat_of_lt (by rw [hm]; omega), hm]; omega
theorem lor8 {x c : Int} (h0 : 0 ≤ x) (h1 : 256 * x + 255 < 9223372036854775808) (c0 : 0 ≤ c) (c1 : c < 256) : lOr (256 * x) c = 256 * x + c := by
  unfold lOr
  have e2 : (Int64.ofInt (256 * x) ||| Int64.ofInt c).toInt = ((BitVec.ofInt 64 (256 * x)) ||| (BitVec.ofInt 64 c)).toInt := rfl
  have hn : (BitVec.ofInt 64 (256 * x)).toNat = 256 * x.toNat := by
    rw [BitVec.toNat_ofInt, Int.emod_eq_of_lt (by omega) (by omega)]; omega
  have hc : (BitVec.ofInt 64 c).toNat = c.toNat := by
    rw [BitVec.toNat_ofInt, Int.emod_eq_of_lt c0 (by omega)]
  have hm : ((BitVec.ofInt 64 (256 * x)) ||| (BitVec.ofInt 64 c)).toNat = 256 * x.toNat + c.toNat := by
    rw [BitVec.toNat_or, hn, hc]
    exact (Nat.two_pow_add_eq_or_of_lt (i := 8) (by omega) x.toNat).symm
  rw [e2, BitVec.toInt_eq_toNat_of_lt (by rw [hm]; omega), hm]; omega
theorem lword {w c : Int} (h0 : 0 ≤ w) (h1 : 256 * w + 255 < 9223372036854775808) (c0 : 0 ≤ c) (c1 : c < 256) : lOr (lShl w 8) c = 256 * w + c := by
  rw [lshl8 h0 (by omega), lor8 h0 h1 c0 c1]
/-- the word of the token at i -/
def tW (T : Int → Int) (n i : Int) : Int := if 8 < tE T n i - tS T n i then 0 else encL T (tS T n i) (tE T n i - tS T n i).toNat
def mk (k : Int) : Int := if k = 0 then 0 else if k = 1 then 2 else if k = 2 then 3 else if k = 3 then 4 else 1
def TokY (T : Int → Int) (n i : Int) (r : Mem) : Prop := r.1 85 12 = tS T n i ∧ r.1 85 13 = mk (tK T n i) ∧ (tK T n i ≠ 4 → r.1 85 10 = tE T n i) ∧ (tK T n i = 2 → r.1 85 14 = tV T n i) ∧ (tK T n i = 1 → r.1 85 15 = tW T n i)
set_option maxHeartbeats 2000000 in
theorem token_V (hT : WT M) (hp : PS M) (hb : BY M) : TT (fX11_token M 85) (fun r => TK M r ∧ TokY (M.1 86) (M.1 85 11) (M.1 85 10) r) := by
  unfold fX11_token
  generalize hJ : M.1 85 10 = J at *
  generalize hn : M.1 85 11 = n at *
  refine TT.iter (fun s : Mem => TK M s ∧ PS s ∧ tS (M.1 86) n (s.1 85 10) = tS (M.1 86) n J) (fun s => (s.1 85 11 - s.1 85 10).toNat) ?_ BIG M ⟨TK.self M, hp, by rw [hJ]⟩ (by obtain ⟨h1, h2, h3⟩ := hp; unfold BIG; omega)
  rintro rec s ⟨hK, hp2, hS⟩ hr
  have hTs := hT.keep hK.keep
  have hbs : BY s := hK.by hb
  have et : s.1 86 = M.1 86 := hK.t
  have en : s.1 85 11 = n := (hK.2 85 11 (by decide)).trans hn
  have hp0 := hp2
  obtain ⟨p1, p2, p3⟩ := hp2
  have sB := seeV_B hbs p1
  have s0 := seeV_0 hbs p1
  have sL := seeV_L hbs p1
  have sD := seeV_D hbs p1
  rw [et, en] at sB sL sD
  rw [en] at s0
  refine TT.guard (wk85 hTs) (TT.bindE (see_v hTs hp0) ?_)
  refine TT.join (fun _ => s.1 85 10 < n ∧ isB (M.1 86 (s.1 85 10)) = true) (fun _ hs => ?_) (fun j hj => ?_)
  · have e : w32 (s.1 85 10 + 1) = s.1 85 10 + 1 := w32_of (by omega) (by omega)
    refine TT.sM (hr _ ⟨hK.st _ (by decide), ⟨?_, ?_, p3⟩, ?_⟩ ?_)
    · show 0 ≤ w32 (s.1 85 10 + 1)
      rw [e]; omega
    · show w32 (s.1 85 10 + 1) ≤ s.1 85 11
      rw [e]; omega
    · show tS (M.1 86) n (w32 (s.1 85 10 + 1)) = _
      rw [e, ← tS_go hs.1 hs.2]; exact hS
    · show (s.1 85 11 - w32 (s.1 85 10 + 1)).toNat < _
      rw [e]; omega
  refine TT.ite (fun e => hj () (sB.mp (Or.inl e))) (fun e1 => TT.bindE (see_v hTs hp0) (TT.ite (fun e => hj () (sB.mp (Or.inr e))) (fun e2 => TT.sM ?_)))
  have hst : ¬(s.1 85 10 < n ∧ isB (M.1 86 (s.1 85 10)) = true) := fun q => (sB.mpr q).elim e1 e2
  have e8 : s.1 85 10 = tS (M.1 86) n J := by rw [← hS, tS_end hst]
  have s59 := fun c => seeV_59 hbs p1 (by rw [en]; exact c)
  have sv := fun c h => seeV_v hbs p1 (by rw [en]; exact c) h
  rw [et] at s59 sv
  have hK1 : TK M (mst s 85 12 (s.1 85 10)) := hK.st _ (by decide)
  have hT1 := hT.keep hK1.keep
  refine TT.bindE (see_v hT1 ⟨p1, p2, p3⟩) (TT.sM ?_)
  have hc : seeV (mst s 85 12 (s.1 85 10)) = seeV s := rfl
  rw [hc]
  have hK2 : TK M (mst (mst s 85 12 (s.1 85 10)) 85 15 0) := hK1.st _ (by decide)
  have a10 : (mst (mst s 85 12 (s.1 85 10)) 85 15 0).1 85 10 = s.1 85 10 := rfl
  have a12 : (mst (mst s 85 12 (s.1 85 10)) 85 15 0).1 85 12 = s.1 85 10 := rfl
  have a15 : (mst (mst s 85 12 (s.1 85 10)) 85 15 0).1 85 15 = 0 := rfl
  have a11 : (mst (mst s 85 12 (s.1 85 10)) 85 15 0).1 85 11 = s.1 85 11 := rfl
  generalize mst (mst s 85 12 (s.1 85 10)) 85 15 0 = N at *
  have hTN := hT.keep hK2.keep
  rw [en] at a11
  rw [e8] at a10 a12 s0 sL sD s59 sv p1 p2
  rw [en] at p2 p3
  generalize seeV s = c at *
  generalize hj0 : tS (M.1 86) n J = j at *
  have hbN : BY N := hK2.by hb
  have etN : N.1 86 = M.1 86 := hK2.t
  clear hr hj hst sB e1 e2 hT1 hK1 hTs hbs et en hp0 hS hc e8 hK
  refine TT.ite (fun h0 => TT.sM (TT.ok ⟨hK2.st _ (by decide), ?_⟩)) (fun h0 => ?_)
  · have nj : ¬ j < n := s0.mp h0
    have eK : tK (M.1 86) n J = 0 := by unfold tK; rw [hj0, if_pos (by omega)]
    have eE : tE (M.1 86) n J = j := by unfold tE; rw [hj0, if_pos (by omega)]
    exact ⟨by rw [hj0]; exact a12, by rw [eK]; rfl, fun _ => by rw [eE]; exact a10, fun z => by rw [eK] at z; omega, fun z => by rw [eK] at z; omega⟩
  have hlt : j < n := by
    by_cases z : j < n
    · exact z
    · exact absurd (s0.mpr z) h0
  have n1 : ¬ n ≤ j := by omega
  refine TT.bindE (in_v2 _ _ _ _) ?_
  by_cases l : isL (M.1 86 j) = true
  · rw [if_pos (sL.mpr ⟨hlt, l⟩)]
    refine TT.neg (by decide) ?_
    have eE : tE (M.1 86) n J = scE isL (M.1 86) n j := by unfold tE; rw [hj0, if_neg n1, if_pos l]
    have eK : tK (M.1 86) n J = 1 := by unfold tK; rw [hj0, if_neg n1, if_pos l]
    have eW : tW (M.1 86) n J = if 8 < scE isL (M.1 86) n j - j then 0 else encL (M.1 86) j (scE isL (M.1 86) n j - j).toNat := by unfold tW; rw [hj0, eE]
    have hall : ∀ i : Nat, j + i < scE isL (M.1 86) n j → 0 ≤ M.1 86 (j + i) ∧ M.1 86 (j + i) ≤ 122 := fun i hi => by
      have := (@scE_all isL (M.1 86) n j (j + i) (by omega) hi).2
      unfold isL at this
      simp only [Bool.and_eq_true, decide_eq_true_eq] at this
      omega
    refine TT.iter (fun u : Int × Mem => (TK M u.2 ∧ PS u.2 ∧ u.2.1 85 12 = j) ∧ (u.1 = u.2.1 85 10 - j ∧ 0 ≤ u.1 ∧ scE isL (M.1 86) n (u.2.1 85 10) = scE isL (M.1 86) n j) ∧ (u.1 ≤ 8 → u.2.1 85 15 = encL (M.1 86) j u.1.toNat)) (fun u => (u.2.1 85 11 - u.2.1 85 10).toNat) ?_ BIG (0, N) ⟨⟨hK2, ⟨by dsimp only; omega, by dsimp only; omega, by dsimp only; omega⟩, a12⟩, ⟨by dsimp only; omega, by dsimp only; omega, by dsimp only; rw [a10]⟩, fun _ => a15⟩ (by unfold BIG; dsimp only; omega)
    rintro rec2 ⟨d, u⟩ ⟨⟨hKu, hpu, u12⟩, ⟨ud, ud0, hsc⟩, hw⟩ hr2
    simp only at hKu hpu u12 ud ud0 hsc hw ⊢
    have hTu := hT.keep hKu.keep
    have hbu : BY u := hKu.by hb
    have etu : u.1 86 = M.1 86 := hKu.t
    have enu : u.1 85 11 = n := (hKu.2 85 11 (by decide)).trans hn
    have hpu0 := hpu
    obtain ⟨q1, q2, q3⟩ := hpu
    have tL := seeV_L hbu q1
    rw [etu, enu] at tL
    have hle : u.1 85 10 ≤ scE isL (M.1 86) n j := by rw [← hsc]; exact scE_le
    refine TT.guard (wk85 hTu) (TT.bindE (see_v hTu hpu0) (TT.bindE (in_v2 _ _ _ _) ?_))
    by_cases lu : u.1 85 10 < n ∧ isL (M.1 86 (u.1 85 10)) = true
    · rw [if_pos (tL.mpr lu)]
      have b0 := (hbu _ q1 (by rw [enu]; exact lu.1))
      have lu2 := lu.2
      unfold isL at lu2
      simp only [Bool.and_eq_true, decide_eq_true_eq] at lu2
      have svu := seeV_v hbu q1 (by rw [enu]; exact lu.1) (by rw [etu]; omega)
      rw [etu] at svu
      refine TT.neg (by decide) (TT.bindE (see_v hTu hpu0) (TT.sM (TT.sM ?_)))
      rw [svu]
      have e : w32 (u.1 85 10 + 1) = u.1 85 10 + 1 := w32_of (by omega) (by omega)
      have ed : w32 (d + 1) = d + 1 := w32_of (by omega) (by omega)
      refine hr2 _ ⟨⟨(hKu.st _ (by decide)).st _ (by decide), ⟨?_, ?_, q3⟩, u12⟩, ⟨?_, ?_, ?_⟩, fun q => ?_⟩ ?_
      · show 0 ≤ w32 (u.1 85 10 + 1)
        rw [e]; omega
      · show w32 (u.1 85 10 + 1) ≤ u.1 85 11
        rw [e, enu]; omega
      · show w32 (d + 1) = w32 (u.1 85 10 + 1) - j
        rw [e, ed]; omega
      · show 0 ≤ w32 (d + 1)
        rw [ed]; omega
      · show scE isL (M.1 86) n (w32 (u.1 85 10 + 1)) = _
        rw [e, ← scE_go lu.1 lu.2]; exact hsc
      · have q' : w32 (d + 1) ≤ 8 := q
        rw [ed] at q'
        show lOr (lShl (u.1 85 15) 8) (M.1 86 (u.1 85 10)) = encL (M.1 86) j (w32 (d + 1)).toNat
        rw [ed, hw (by omega), show (d + 1).toNat = d.toNat + 1 by omega]
        have bd := @encL_b (M.1 86) j d.toNat (fun i hi => hall i (by omega))
        have pw : (123 : Int) * 256 ^ (d.toNat - 1) ≤ 34621422135410688 := by
          rcases (show d.toNat = 0 ∨ d.toNat = 1 ∨ d.toNat = 2 ∨ d.toNat = 3 ∨ d.toNat = 4 ∨ d.toNat = 5 ∨ d.toNat = 6 ∨ d.toNat = 7 by omega) with z | z | z | z | z | z | z | z <;> rw [z] <;> decide
        rw [lword bd.1 (by omega) (by omega) (by omega)]
        show _ = 256 * encL (M.1 86) j d.toNat + M.1 86 (j + ((d.toNat : Nat) : Int))
        rw [show j + ((d.toNat : Nat) : Int) = u.1 85 10 by omega]
      · show (u.1 85 11 - w32 (u.1 85 10 + 1)).toNat < (u.1 85 11 - u.1 85 10).toNat
        rw [e, enu]; omega
    · rw [if_neg (fun q => lu (tL.mp q))]
      have e10 : u.1 85 10 = scE isL (M.1 86) n j := by rw [← hsc, scE_end lu]
      refine TT.pos rfl (TT.join (fun t : Int => t = tW (M.1 86) n J) (fun t ht => TT.sM (TT.sM (TT.ok ⟨(hKu.st _ (by decide)).st _ (by decide), by rw [hj0]; exact u12, by rw [eK]; rfl, fun _ => by rw [eE]; exact e10, fun z => by rw [eK] at z; omega, fun _ => ht⟩))) (fun k hk => TT.ite (fun c8 => hk _ ?_) (fun c8 => hk _ ?_)))
      · rw [eW, if_pos (by omega)]
      · rw [eW, if_neg (by omega), hw (by omega), show d = scE isL (M.1 86) n j - j by omega]
  · rw [if_neg (fun q => l (sL.mp q).2)]
    refine TT.pos rfl (TT.bindE (in_v2 _ _ _ _) ?_)
    by_cases dg : isD (M.1 86 j) = true
    · rw [if_pos (sD.mpr ⟨hlt, dg⟩)]
      have eE : tE (M.1 86) n J = scE isD (M.1 86) n j := by unfold tE; rw [hj0, if_neg n1, if_neg l, if_pos dg]
      have eK : tK (M.1 86) n J = if scE isD (M.1 86) n j - j ≤ 2 then 2 else 4 := by unfold tK; rw [hj0, if_neg n1, if_neg l, if_pos dg]
      refine TT.neg (by decide) (TT.sM ?_)
      have hK3 : TK M (mst N 85 14 0) := hK2.st _ (by decide)
      have c10 : (mst N 85 14 0).1 85 10 = j := a10
      have c12 : (mst N 85 14 0).1 85 12 = j := a12
      have c11 : (mst N 85 14 0).1 85 11 = n := a11
      have c14 : (mst N 85 14 0).1 85 14 = 0 := rfl
      generalize mst N 85 14 0 = A at *
      refine TT.iter (fun u : Int × Mem => (TK M u.2 ∧ PS u.2 ∧ u.2.1 85 12 = j) ∧ (u.1 = u.2.1 85 10 - j ∧ 0 ≤ u.1 ∧ scE isD (M.1 86) n (u.2.1 85 10) = scE isD (M.1 86) n j) ∧ (u.1 = 0 → u.2.1 85 14 = 0) ∧ (u.1 = 1 → u.2.1 85 14 = M.1 86 j - 48 ∧ 48 ≤ M.1 86 j ∧ M.1 86 j ≤ 57) ∧ (2 ≤ u.1 → u.2.1 85 14 = 10 * (M.1 86 j - 48) + (M.1 86 (j + 1) - 48))) (fun u => (u.2.1 85 11 - u.2.1 85 10).toNat) ?_ BIG (0, A) ⟨⟨hK3, ⟨by dsimp only; omega, by dsimp only; omega, by dsimp only; omega⟩, c12⟩, ⟨by dsimp only; omega, by dsimp only; omega, by dsimp only; rw [c10]⟩, fun _ => c14, fun h => by dsimp only at h; omega, fun h => by dsimp only at h; omega⟩ (by unfold BIG; dsimp only; omega)
      rintro rec2 ⟨d, u⟩ ⟨⟨hKu, hpu, u12⟩, ⟨ud, ud0, hsc⟩, w0, w1, w2⟩ hr2
      simp only at hKu hpu u12 ud ud0 hsc w0 w1 w2 ⊢
      have hTu := hT.keep hKu.keep
      have hbu : BY u := hKu.by hb
      have etu : u.1 86 = M.1 86 := hKu.t
      have enu : u.1 85 11 = n := (hKu.2 85 11 (by decide)).trans hn
      have hpu0 := hpu
      obtain ⟨q1, q2, q3⟩ := hpu
      have tD := seeV_D hbu q1
      rw [etu, enu] at tD
      have hle : u.1 85 10 ≤ scE isD (M.1 86) n j := by rw [← hsc]; exact scE_le
      refine TT.guard (wk85 hTu) (TT.bindE (see_v hTu hpu0) (TT.bindE (in_v2 _ _ _ _) ?_))
      by_cases lu : u.1 85 10 < n ∧ isD (M.1 86 (u.1 85 10)) = true
      · rw [if_pos (tD.mpr lu)]
        have lu2 := lu.2
        unfold isD at lu2
        simp only [Bool.and_eq_true, decide_eq_true_eq] at lu2
        have svu := seeV_v hbu q1 (by rw [enu]; exact lu.1) (by rw [etu]; omega)
        rw [etu] at svu
        refine TT.neg (by decide) ?_
        have e : w32 (u.1 85 10 + 1) = u.1 85 10 + 1 := w32_of (by omega) (by omega)
        have ed : w32 (d + 1) = d + 1 := w32_of (by omega) (by omega)
        refine TT.join (fun t : Int => (d = 0 → t = M.1 86 j - 48) ∧ (1 ≤ d → t = 10 * (M.1 86 j - 48) + (M.1 86 (j + 1) - 48))) (fun t ht => TT.sM (TT.sM ?_)) (fun k hk => TT.ite (fun c2 => TT.bindE (see_v hTu hpu0) (hk _ ?_)) (fun c2 => hk _ ⟨fun z => by omega, fun z => w2 (by omega)⟩))
        · refine hr2 _ ⟨⟨(hKu.st _ (by decide)).st _ (by decide), ⟨?_, ?_, q3⟩, u12⟩, ⟨?_, ?_, ?_⟩, fun q => ?_, fun q => ?_, fun q => ?_⟩ ?_
          · show 0 ≤ w32 (u.1 85 10 + 1)
            rw [e]; omega
          · show w32 (u.1 85 10 + 1) ≤ u.1 85 11
            rw [e, enu]; omega
          · show w32 (d + 1) = w32 (u.1 85 10 + 1) - j
            rw [e, ed]; omega
          · show 0 ≤ w32 (d + 1)
            rw [ed]; omega
          · show scE isD (M.1 86) n (w32 (u.1 85 10 + 1)) = _
            rw [e, ← scE_go lu.1 lu.2]; exact hsc
          · exfalso
            have q' : w32 (d + 1) = 0 := q
            rw [ed] at q'; omega
          · have q' : w32 (d + 1) = 1 := q
            rw [ed] at q'
            have ej : u.1 85 10 = j := by omega
            rw [ej] at lu2
            exact ⟨ht.1 (by omega), lu2⟩
          · have q' : 2 ≤ w32 (d + 1) := q
            rw [ed] at q'
            exact ht.2 (by omega)
          · show (u.1 85 11 - w32 (u.1 85 10 + 1)).toNat < (u.1 85 11 - u.1 85 10).toNat
            rw [e, enu]; omega
        · rw [svu]
          by_cases d0 : d = 0
          · have ej : u.1 85 10 = j := by omega
            rw [ej] at lu2
            rw [w0 d0, ej, w32_of (x := 10 * 0) (by omega) (by omega), w32_of (x := 10 * 0 + M.1 86 j) (by omega) (by omega), w32_of (x := 10 * 0 + M.1 86 j - 48) (by omega) (by omega)]
            exact ⟨fun _ => by omega, fun z => by omega⟩
          · obtain ⟨z1, z2, z3⟩ := w1 (by omega)
            have ej : u.1 85 10 = j + 1 := by omega
            rw [ej] at lu2
            rw [z1, ej, w32_of (x := 10 * (M.1 86 j - 48)) (by omega) (by omega), w32_of (x := 10 * (M.1 86 j - 48) + M.1 86 (j + 1)) (by omega) (by omega), w32_of (x := 10 * (M.1 86 j - 48) + M.1 86 (j + 1) - 48) (by omega) (by omega)]
            exact ⟨fun z => absurd z d0, fun _ => by omega⟩
      · rw [if_neg (fun q => lu (tD.mp q))]
        have e10 : u.1 85 10 = scE isD (M.1 86) n j := by rw [← hsc, scE_end lu]
        refine TT.pos rfl (TT.join (fun t : Int => t = mk (tK (M.1 86) n J)) (fun t ht => TT.sM (TT.ok ⟨hKu.st _ (by decide), by rw [hj0]; exact u12, ht, fun _ => by rw [eE]; exact e10, fun z => ?_, fun z => ?_⟩)) (fun k hk => TT.ite (fun c2 => hk _ ?_) (fun c2 => hk _ ?_)))
        · have hV := tV_num z
          show u.1 85 14 = _
          unfold tV
          rw [hj0, eE] at *
          by_cases y : scE isD (M.1 86) n j - j = 1
          · rw [if_pos y]; exact (w1 (by omega)).1
          · rw [if_neg y]; exact w2 (by omega)
        · rw [eK] at z
          split at z <;> omega
        · rw [eK, if_neg (by omega)]; rfl
        · rw [eK, if_pos (by omega)]; rfl
    · rw [if_neg (fun q => dg (sD.mp q).2)]
      refine TT.pos rfl (TT.sM ?_)
      have e : w32 (N.1 85 10 + 1) = j + 1 := by rw [a10]; exact w32_of (by omega) (by omega)
      have eE : tE (M.1 86) n J = j + 1 := by unfold tE; rw [hj0, if_neg n1, if_neg l, if_neg dg]
      have eK : tK (M.1 86) n J = if M.1 86 j = 59 then 3 else 4 := by unfold tK; rw [hj0, if_neg n1, if_neg l, if_neg dg]
      refine TT.join (fun t : Int => t = mk (tK (M.1 86) n J)) (fun t ht => TT.sM (TT.ok ⟨(hK2.st _ (by decide)).st _ (by decide), by rw [hj0]; exact a12, ht, fun _ => by rw [eE]; exact e, fun z => ?_, fun z => ?_⟩)) (fun k hk => TT.ite (fun c2 => hk _ ?_) (fun c2 => hk _ ?_))
      · rw [eK] at z
        split at z <;> omega
      · rw [eK] at z
        split at z <;> omega
      · rw [eK, if_pos ((s59 hlt).mp c2)]; rfl
      · rw [eK, if_neg (fun q => c2 ((s59 hlt).mpr q))]; rfl
end TokenV
