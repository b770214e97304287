/-! texts: the constants' fields, and the JDK's own methods on them -/
section RulesS
variable {ρ : Type} {mi : MI} {d b0 b1 bc bs pc : Nat} {ls ls' : List (Option PV)} {st : List PV} {M : Mem} {dec : ρ → Option PV × Mem} {X A B : Option ρ}
theorem v_sval {index : Nat} {a : Int} (i : Nat) (hi : i < 19) (ha : a = -6 - (i : Int)) (hlk : Cond.fieldLink mi.1.cls index "java/lang/String" "value" "[B" ∈ GT) (hd : decode mi.2.1 pc = .ok (.getfield index, 3)) (kk : V mi d b0 b1 bc bs (pc + 3) ls (pA (-25 - (i : Int)) :: st) M dec X) : V mi d b0 b1 bc bs pc ls (pA a :: st) M dec X :=
  v_step kk (fun hM hL hS => ⟨hM, hL, okS_cons.mpr ⟨trivial, (okS_cons.mp hS).2⟩⟩) (fun hM hL hS G b p l e s m args below meth c Q Cc H locs cells slots lsA D w => by
    have w2 := w H locs cells slots lsA D
    simp only [List.map_cons, eV] at w2 ⊢
    rw [eR_k (23 + i) (by omega)] at w2
    rw [eR_k (4 + i) (by omega)]
    exact vk_getf Cc.1 Cc.2.1 ((Cc.2.2.2.2.2.2.2.2.1.2.2.2.2.2.1).1 i hi).2.2.1 D.2.2.1 Cc.2.2.2.2.1 (Cc.2.2.2.2.2.1 _ hlk) (fun _ h => h) hd w2)
theorem v_scod {index : Nat} {a : Int} (i : Nat) (hi : i < 19) (ha : a = -6 - (i : Int)) (hlk : Cond.fieldLink mi.1.cls index "java/lang/String" "coder" "B" ∈ GT) (hd : decode mi.2.1 pc = .ok (.getfield index, 3)) (kk : V mi d b0 b1 bc bs (pc + 3) ls (pI 0 :: st) M dec X) : V mi d b0 b1 bc bs pc ls (pA a :: st) M dec X :=
  v_step kk (fun hM hL hS => ⟨hM, hL, okS_cons.mpr ⟨r32_0, (okS_cons.mp hS).2⟩⟩) (fun hM hL hS G b p l e s m args below meth c Q Cc H locs cells slots lsA D w => by
    have w2 := w H locs cells slots lsA D
    simp only [List.map_cons, eV] at w2 ⊢
    rw [eR_k (4 + i) (by omega)]
    exact vk_getf Cc.1 Cc.2.1 ((Cc.2.2.2.2.2.2.2.2.1.2.2.2.2.2.1).1 i hi).2.1 D.2.2.1 Cc.2.2.2.2.1 (Cc.2.2.2.2.2.1 _ hlk) (fun _ h => h) hd w2)
theorem v_cstr {index : Nat} (hlk : Cond.fieldLink mi.1.cls index "java/lang/String" "COMPACT_STRINGS" "Z" ∈ GT) (hd : decode mi.2.1 pc = .ok (.getstatic index, 3)) (kk : V mi d b0 b1 bc bs (pc + 3) ls (pI 1 :: st) M dec X) : V mi d b0 b1 bc bs pc ls st M dec X :=
  v_step kk (fun hM hL hS => ⟨hM, hL, okS_cons.mpr ⟨(show r32 1 by unfold r32; omega), hS⟩⟩) (fun hM hL hS G b p l e s m args below meth c Q Cc H locs cells slots lsA D w => by
    have w2 := w H locs cells slots lsA D
    exact va_gets Cc.1 Cc.2.1 Cc.2.2.2.2.2.2.2.2.1.2.2.2.1 D.2.2.1 Cc.2.2.2.2.1 (Cc.2.2.2.2.2.1 _ hlk) (fun _ h => h) hd w2)
theorem sLen_in : ∀ i, i < 19 → sLen.getD i 0 ≤ 6 := by decide
theorem sByt_in : ∀ i, i < 19 → ∀ j, j < 6 → ((sByt.getD i []).getD j 0 = Int32.ofInt (((sTx.getD i "").toList.getD j (Char.ofNat 0)).toNat : Int)) ∧ ((sTx.getD i "").toList.getD j (Char.ofNat 0)).toNat < 128 := by decide +kernel
def sC (i : Nat) (j : Int) : Int := (((sTx.getD i "").toList.getD j.toNat (Char.ofNat 0)).toNat : Int)
theorem v_slenA {a : Int} (i : Nat) (hi : i < 19) (ha : a = -25 - (i : Int)) (hd : decode mi.2.1 pc = .ok (.arraylength, 1)) (kk : V mi d b0 b1 bc bs (pc + 1) ls (pI ((sLen.getD i 0 : Nat) : Int) :: st) M dec X) : V mi d b0 b1 bc bs pc ls (pA a :: st) M dec X :=
  v_step kk (fun hM hL hS => ⟨hM, hL, okS_cons.mpr ⟨(show r32 _ by have := sLen_in i hi; unfold r32; omega), (okS_cons.mp hS).2⟩⟩) (fun hM hL hS G b p l e s m args below meth c Q Cc H locs cells slots lsA D w => by
    have w2 := w H locs cells slots lsA D
    simp only [List.map_cons, eV] at w2 ⊢
    rw [eR_k (23 + i) (by omega)]
    have := sLen_in i hi
    refine va_tlen Cc.1 Cc.2.1 ((Cc.2.2.2.2.2.2.2.2.1.2.2.2.2.2.1).1 i hi).2.2.2 D.2.2.1 (v := Int32.ofInt ((sLen.getD i 0 : Nat) : Int)) ?_ hd w2
    apply Int32.toInt_inj.mp
    rw [Int32.toInt_ofNat_of_lt (by omega), q_in (by unfold r32; omega)])
theorem v_sbald {a j : Int} (i : Nat) (hi : i < 19) (ha : a = -25 - (i : Int)) (h : 0 ≤ j ∧ j < ((sLen.getD i 0 : Nat) : Int)) (hd : decode mi.2.1 pc = .ok (.baload, 1)) (kk : V mi d b0 b1 bc bs (pc + 1) ls (pI (sC i j) :: st) M dec X) : V mi d b0 b1 bc bs pc ls (pI j :: pA a :: st) M dec X := by
  have h6 := sLen_in i hi
  obtain ⟨s1, s2⟩ := sByt_in i hi j.toNat (by omega)
  exact v_step kk (fun hM hL hS => ⟨hM, hL, okS_cons.mpr ⟨(show r32 (sC i j) by unfold sC r32; omega), (okS_cons.mp (okS_cons.mp hS).2).2⟩⟩) (fun hM hL hS G b p l e s m args below meth c Q Cc H locs cells slots lsA D w => by
    have hj := (okS_cons.mp hS).1
    have w2 := w H locs cells slots lsA D
    simp only [List.map_cons, eV] at w2 ⊢
    rw [eR_k (23 + i) (by omega)]
    refine va_tb Cc.1 Cc.2.1 ((Cc.2.2.2.2.2.2.2.2.1.2.2.2.2.2.1).1 i hi).2.2.2 D.2.2.1 (q_vp hj h.1 (by omega)) ?_ hd w2
    rw [q_clamp hj h.1]
    show Value.int _ = Value.int _
    rw [s1]
    rfl)
theorem v_i2c {x : Int} (hx : 0 ≤ x ∧ x < 65536) (hd : decode mi.2.1 pc = .ok (.i2c, 1)) (k : V mi d b0 b1 bc bs (pc + 1) ls (pI x :: st) M dec X) : V mi d b0 b1 bc bs pc ls (pI x :: st) M dec X :=
  v_op k (fun hL h => h) (fun _ hS G b p l e s m args below meth c Q C H locs cells slots lsA hA kk => lv_i2c C.1 C.2.1 hd (by
    have : Int32.ofInt x = nI x.toNat := by
      apply Int32.toInt_inj.mp
      rw [q_in (by unfold r32; omega), nI_toInt (by omega)]; omega
    rw [this, pk_char, pk_tn (by omega), Nat.mod_eq_of_lt (by omega)]) kk)
theorem fS_c0 {i : Nat} (hi : i < 19) {j : Int} (h : 0 ≤ j ∧ j < ((sLen.getD i 0 : Nat) : Int)) : 0 ≤ sC i j ∧ sC i j < 128 ∧ bAnd (sC i j) 255 = sC i j := by
  have h6 := sLen_in i hi
  obtain ⟨-, s2⟩ := sByt_in i hi j.toNat (by omega)
  have hr : 0 ≤ sC i j ∧ sC i j < 128 := by unfold sC; omega
  refine ⟨hr.1, hr.2, ?_⟩
  have key : ∀ n : Nat, n < 128 → bAnd (n : Int) 255 = (n : Int) := by decide +kernel
  have := key (sC i j).toNat (by omega)
  rw [toNat_c hr.1] at this
  exact this
end RulesS
