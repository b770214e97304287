theorem dJ6_bitCount_0f7a4_0 : decode cJ6_bitCount_0f7a4 0 = .ok (.iload_n 0, 1) := by decide +kernel
theorem dJ6_bitCount_0f7a4_1 : decode cJ6_bitCount_0f7a4 1 = .ok (.iload_n 0, 1) := by decide +kernel
theorem dJ6_bitCount_0f7a4_2 : decode cJ6_bitCount_0f7a4 2 = .ok (.iconst 1, 1) := by decide +kernel
theorem dJ6_bitCount_0f7a4_3 : decode cJ6_bitCount_0f7a4 3 = .ok (.iushr, 1) := by decide +kernel
theorem dJ6_bitCount_0f7a4_4 : decode cJ6_bitCount_0f7a4 4 = .ok (.ldc_w 265, 3) := by decide +kernel
theorem dJ6_bitCount_0f7a4_7 : decode cJ6_bitCount_0f7a4 7 = .ok (.iand, 1) := by decide +kernel
theorem dJ6_bitCount_0f7a4_8 : decode cJ6_bitCount_0f7a4 8 = .ok (.isub, 1) := by decide +kernel
theorem dJ6_bitCount_0f7a4_9 : decode cJ6_bitCount_0f7a4 9 = .ok (.istore_n 0, 1) := by decide +kernel
theorem dJ6_bitCount_0f7a4_10 : decode cJ6_bitCount_0f7a4 10 = .ok (.iload_n 0, 1) := by decide +kernel
theorem dJ6_bitCount_0f7a4_11 : decode cJ6_bitCount_0f7a4 11 = .ok (.ldc_w 266, 3) := by decide +kernel
theorem dJ6_bitCount_0f7a4_14 : decode cJ6_bitCount_0f7a4 14 = .ok (.iand, 1) := by decide +kernel
theorem dJ6_bitCount_0f7a4_15 : decode cJ6_bitCount_0f7a4 15 = .ok (.iload_n 0, 1) := by decide +kernel
theorem dJ6_bitCount_0f7a4_16 : decode cJ6_bitCount_0f7a4 16 = .ok (.iconst 2, 1) := by decide +kernel
theorem dJ6_bitCount_0f7a4_17 : decode cJ6_bitCount_0f7a4 17 = .ok (.iushr, 1) := by decide +kernel
theorem dJ6_bitCount_0f7a4_18 : decode cJ6_bitCount_0f7a4 18 = .ok (.ldc_w 266, 3) := by decide +kernel
theorem dJ6_bitCount_0f7a4_21 : decode cJ6_bitCount_0f7a4 21 = .ok (.iand, 1) := by decide +kernel
theorem dJ6_bitCount_0f7a4_22 : decode cJ6_bitCount_0f7a4 22 = .ok (.iadd, 1) := by decide +kernel
theorem dJ6_bitCount_0f7a4_23 : decode cJ6_bitCount_0f7a4 23 = .ok (.istore_n 0, 1) := by decide +kernel
theorem dJ6_bitCount_0f7a4_24 : decode cJ6_bitCount_0f7a4 24 = .ok (.iload_n 0, 1) := by decide +kernel
theorem dJ6_bitCount_0f7a4_25 : decode cJ6_bitCount_0f7a4 25 = .ok (.iload_n 0, 1) := by decide +kernel
theorem dJ6_bitCount_0f7a4_26 : decode cJ6_bitCount_0f7a4 26 = .ok (.iconst 4, 1) := by decide +kernel
theorem dJ6_bitCount_0f7a4_27 : decode cJ6_bitCount_0f7a4 27 = .ok (.iushr, 1) := by decide +kernel
theorem dJ6_bitCount_0f7a4_28 : decode cJ6_bitCount_0f7a4 28 = .ok (.iadd, 1) := by decide +kernel
theorem dJ6_bitCount_0f7a4_29 : decode cJ6_bitCount_0f7a4 29 = .ok (.ldc_w 267, 3) := by decide +kernel
theorem dJ6_bitCount_0f7a4_32 : decode cJ6_bitCount_0f7a4 32 = .ok (.iand, 1) := by decide +kernel
theorem dJ6_bitCount_0f7a4_33 : decode cJ6_bitCount_0f7a4 33 = .ok (.istore_n 0, 1) := by decide +kernel
theorem dJ6_bitCount_0f7a4_34 : decode cJ6_bitCount_0f7a4 34 = .ok (.iload_n 0, 1) := by decide +kernel
theorem dJ6_bitCount_0f7a4_35 : decode cJ6_bitCount_0f7a4 35 = .ok (.iload_n 0, 1) := by decide +kernel
theorem dJ6_bitCount_0f7a4_36 : decode cJ6_bitCount_0f7a4 36 = .ok (.bipush 8, 2) := by decide +kernel
theorem dJ6_bitCount_0f7a4_38 : decode cJ6_bitCount_0f7a4 38 = .ok (.iushr, 1) := by decide +kernel
theorem dJ6_bitCount_0f7a4_39 : decode cJ6_bitCount_0f7a4 39 = .ok (.iadd, 1) := by decide +kernel
theorem dJ6_bitCount_0f7a4_40 : decode cJ6_bitCount_0f7a4 40 = .ok (.istore_n 0, 1) := by decide +kernel
theorem dJ6_bitCount_0f7a4_41 : decode cJ6_bitCount_0f7a4 41 = .ok (.iload_n 0, 1) := by decide +kernel
theorem dJ6_bitCount_0f7a4_42 : decode cJ6_bitCount_0f7a4 42 = .ok (.iload_n 0, 1) := by decide +kernel
theorem dJ6_bitCount_0f7a4_43 : decode cJ6_bitCount_0f7a4 43 = .ok (.bipush 16, 2) := by decide +kernel
theorem dJ6_bitCount_0f7a4_45 : decode cJ6_bitCount_0f7a4 45 = .ok (.iushr, 1) := by decide +kernel
theorem dJ6_bitCount_0f7a4_46 : decode cJ6_bitCount_0f7a4 46 = .ok (.iadd, 1) := by decide +kernel
theorem dJ6_bitCount_0f7a4_47 : decode cJ6_bitCount_0f7a4 47 = .ok (.istore_n 0, 1) := by decide +kernel
theorem dJ6_bitCount_0f7a4_48 : decode cJ6_bitCount_0f7a4 48 = .ok (.iload_n 0, 1) := by decide +kernel
theorem dJ6_bitCount_0f7a4_49 : decode cJ6_bitCount_0f7a4 49 = .ok (.bipush 63, 2) := by decide +kernel
theorem dJ6_bitCount_0f7a4_51 : decode cJ6_bitCount_0f7a4 51 = .ok (.iand, 1) := by decide +kernel
theorem dJ6_bitCount_0f7a4_52 : decode cJ6_bitCount_0f7a4 52 = .ok (.ireturn, 1) := by decide +kernel
abbrev mJ6_bitCount_0f7a4 : MI := (yJ6_bitCount_0f7a4, cJ6_bitCount_0f7a4, 1, (some .int))
theorem okJ6_bitCount_0f7a4 : cok mJ6_bitCount_0f7a4 1 := ⟨tw1142, tw19, by decide, by decide, by decide, by decide +kernel⟩
def fJ6_bitCount_0f7a4 (M : Mem) (a0 : Int) : Option Int :=
  some (bAnd (w32 ((w32 ((bAnd (w32 ((w32 ((bAnd (w32 (a0 - (bAnd (bUshr a0 1) 1431655765))) 858993459) + (bAnd (bUshr (w32 (a0 - (bAnd (bUshr a0 1) 1431655765))) 2) 858993459))) + (bUshr (w32 ((bAnd (w32 (a0 - (bAnd (bUshr a0 1) 1431655765))) 858993459) + (bAnd (bUshr (w32 (a0 - (bAnd (bUshr a0 1) 1431655765))) 2) 858993459))) 4))) 252645135) + (bUshr (bAnd (w32 ((w32 ((bAnd (w32 (a0 - (bAnd (bUshr a0 1) 1431655765))) 858993459) + (bAnd (bUshr (w32 (a0 - (bAnd (bUshr a0 1) 1431655765))) 2) 858993459))) + (bUshr (w32 ((bAnd (w32 (a0 - (bAnd (bUshr a0 1) 1431655765))) 858993459) + (bAnd (bUshr (w32 (a0 - (bAnd (bUshr a0 1) 1431655765))) 2) 858993459))) 4))) 252645135) 8))) + (bUshr (w32 ((bAnd (w32 ((w32 ((bAnd (w32 (a0 - (bAnd (bUshr a0 1) 1431655765))) 858993459) + (bAnd (bUshr (w32 (a0 - (bAnd (bUshr a0 1) 1431655765))) 2) 858993459))) + (bUshr (w32 ((bAnd (w32 (a0 - (bAnd (bUshr a0 1) 1431655765))) 858993459) + (bAnd (bUshr (w32 (a0 - (bAnd (bUshr a0 1) 1431655765))) 2) 858993459))) 4))) 252645135) + (bUshr (bAnd (w32 ((w32 ((bAnd (w32 (a0 - (bAnd (bUshr a0 1) 1431655765))) 858993459) + (bAnd (bUshr (w32 (a0 - (bAnd (bUshr a0 1) 1431655765))) 2) 858993459))) + (bUshr (w32 ((bAnd (w32 (a0 - (bAnd (bUshr a0 1) 1431655765))) 858993459) + (bAnd (bUshr (w32 (a0 - (bAnd (bUshr a0 1) 1431655765))) 2) 858993459))) 4))) 252645135) 8))) 16))) 63)
set_option maxRecDepth 100000 in
set_option maxHeartbeats 4000000 in
theorem kJ6_bitCount_0f7a4 (d : Nat) (hd : 0 ≤ d) (M : Mem) (a0 : Int) : Ct mJ6_bitCount_0f7a4 d 0 0 [pI a0] M (dI M) (fJ6_bitCount_0f7a4 M a0) := by
  refine Ct.of 0 (by decide +kernel) rfl ?_
  unfold fJ6_bitCount_0f7a4
  refine v_iload_n dJ6_bitCount_0f7a4_0 rfl ?_
  refine v_iload_n dJ6_bitCount_0f7a4_1 rfl ?_
  refine v_iconst dJ6_bitCount_0f7a4_2 (by decide) ?_
  refine v_iushr dJ6_bitCount_0f7a4_3 ?_
  refine v_ldcw (n := 1431655765) dJ6_bitCount_0f7a4_4 (by decide) tw1143 ?_
  refine v_iand dJ6_bitCount_0f7a4_7 ?_
  refine v_isub dJ6_bitCount_0f7a4_8 ?_
  refine v_istore_n (ls' := [some (pI (w32 (a0 - (bAnd (bUshr a0 1) 1431655765))))]) dJ6_bitCount_0f7a4_9 (by decide) rfl ?_
  refine v_iload_n dJ6_bitCount_0f7a4_10 rfl ?_
  refine v_ldcw (n := 858993459) dJ6_bitCount_0f7a4_11 (by decide) tw1144 ?_
  refine v_iand dJ6_bitCount_0f7a4_14 ?_
  refine v_iload_n dJ6_bitCount_0f7a4_15 rfl ?_
  refine v_iconst dJ6_bitCount_0f7a4_16 (by decide) ?_
  refine v_iushr dJ6_bitCount_0f7a4_17 ?_
  refine v_ldcw (n := 858993459) dJ6_bitCount_0f7a4_18 (by decide) tw1144 ?_
  refine v_iand dJ6_bitCount_0f7a4_21 ?_
  refine v_iadd dJ6_bitCount_0f7a4_22 ?_
  refine v_istore_n (ls' := [some (pI (w32 ((bAnd (w32 (a0 - (bAnd (bUshr a0 1) 1431655765))) 858993459) + (bAnd (bUshr (w32 (a0 - (bAnd (bUshr a0 1) 1431655765))) 2) 858993459))))]) dJ6_bitCount_0f7a4_23 (by decide) rfl ?_
  refine v_iload_n dJ6_bitCount_0f7a4_24 rfl ?_
  refine v_iload_n dJ6_bitCount_0f7a4_25 rfl ?_
  refine v_iconst dJ6_bitCount_0f7a4_26 (by decide) ?_
  refine v_iushr dJ6_bitCount_0f7a4_27 ?_
  refine v_iadd dJ6_bitCount_0f7a4_28 ?_
  refine v_ldcw (n := 252645135) dJ6_bitCount_0f7a4_29 (by decide) tw1145 ?_
  refine v_iand dJ6_bitCount_0f7a4_32 ?_
  refine v_istore_n (ls' := [some (pI (bAnd (w32 ((w32 ((bAnd (w32 (a0 - (bAnd (bUshr a0 1) 1431655765))) 858993459) + (bAnd (bUshr (w32 (a0 - (bAnd (bUshr a0 1) 1431655765))) 2) 858993459))) + (bUshr (w32 ((bAnd (w32 (a0 - (bAnd (bUshr a0 1) 1431655765))) 858993459) + (bAnd (bUshr (w32 (a0 - (bAnd (bUshr a0 1) 1431655765))) 2) 858993459))) 4))) 252645135))]) dJ6_bitCount_0f7a4_33 (by decide) rfl ?_
  refine v_iload_n dJ6_bitCount_0f7a4_34 rfl ?_
  refine v_iload_n dJ6_bitCount_0f7a4_35 rfl ?_
  refine v_bipush dJ6_bitCount_0f7a4_36 (by decide) ?_
  refine v_iushr dJ6_bitCount_0f7a4_38 ?_
  refine v_iadd dJ6_bitCount_0f7a4_39 ?_
  refine v_istore_n (ls' := [some (pI (w32 ((bAnd (w32 ((w32 ((bAnd (w32 (a0 - (bAnd (bUshr a0 1) 1431655765))) 858993459) + (bAnd (bUshr (w32 (a0 - (bAnd (bUshr a0 1) 1431655765))) 2) 858993459))) + (bUshr (w32 ((bAnd (w32 (a0 - (bAnd (bUshr a0 1) 1431655765))) 858993459) + (bAnd (bUshr (w32 (a0 - (bAnd (bUshr a0 1) 1431655765))) 2) 858993459))) 4))) 252645135) + (bUshr (bAnd (w32 ((w32 ((bAnd (w32 (a0 - (bAnd (bUshr a0 1) 1431655765))) 858993459) + (bAnd (bUshr (w32 (a0 - (bAnd (bUshr a0 1) 1431655765))) 2) 858993459))) + (bUshr (w32 ((bAnd (w32 (a0 - (bAnd (bUshr a0 1) 1431655765))) 858993459) + (bAnd (bUshr (w32 (a0 - (bAnd (bUshr a0 1) 1431655765))) 2) 858993459))) 4))) 252645135) 8))))]) dJ6_bitCount_0f7a4_40 (by decide) rfl ?_
  refine v_iload_n dJ6_bitCount_0f7a4_41 rfl ?_
  refine v_iload_n dJ6_bitCount_0f7a4_42 rfl ?_
  refine v_bipush dJ6_bitCount_0f7a4_43 (by decide) ?_
  refine v_iushr dJ6_bitCount_0f7a4_45 ?_
  refine v_iadd dJ6_bitCount_0f7a4_46 ?_
  refine v_istore_n (ls' := [some (pI (w32 ((w32 ((bAnd (w32 ((w32 ((bAnd (w32 (a0 - (bAnd (bUshr a0 1) 1431655765))) 858993459) + (bAnd (bUshr (w32 (a0 - (bAnd (bUshr a0 1) 1431655765))) 2) 858993459))) + (bUshr (w32 ((bAnd (w32 (a0 - (bAnd (bUshr a0 1) 1431655765))) 858993459) + (bAnd (bUshr (w32 (a0 - (bAnd (bUshr a0 1) 1431655765))) 2) 858993459))) 4))) 252645135) + (bUshr (bAnd (w32 ((w32 ((bAnd (w32 (a0 - (bAnd (bUshr a0 1) 1431655765))) 858993459) + (bAnd (bUshr (w32 (a0 - (bAnd (bUshr a0 1) 1431655765))) 2) 858993459))) + (bUshr (w32 ((bAnd (w32 (a0 - (bAnd (bUshr a0 1) 1431655765))) 858993459) + (bAnd (bUshr (w32 (a0 - (bAnd (bUshr a0 1) 1431655765))) 2) 858993459))) 4))) 252645135) 8))) + (bUshr (w32 ((bAnd (w32 ((w32 ((bAnd (w32 (a0 - (bAnd (bUshr a0 1) 1431655765))) 858993459) + (bAnd (bUshr (w32 (a0 - (bAnd (bUshr a0 1) 1431655765))) 2) 858993459))) + (bUshr (w32 ((bAnd (w32 (a0 - (bAnd (bUshr a0 1) 1431655765))) 858993459) + (bAnd (bUshr (w32 (a0 - (bAnd (bUshr a0 1) 1431655765))) 2) 858993459))) 4))) 252645135) + (bUshr (bAnd (w32 ((w32 ((bAnd (w32 (a0 - (bAnd (bUshr a0 1) 1431655765))) 858993459) + (bAnd (bUshr (w32 (a0 - (bAnd (bUshr a0 1) 1431655765))) 2) 858993459))) + (bUshr (w32 ((bAnd (w32 (a0 - (bAnd (bUshr a0 1) 1431655765))) 858993459) + (bAnd (bUshr (w32 (a0 - (bAnd (bUshr a0 1) 1431655765))) 2) 858993459))) 4))) 252645135) 8))) 16))))]) dJ6_bitCount_0f7a4_47 (by decide) rfl ?_
  refine v_iload_n dJ6_bitCount_0f7a4_48 rfl ?_
  refine v_bipush dJ6_bitCount_0f7a4_49 (by decide) ?_
  refine v_iand dJ6_bitCount_0f7a4_51 ?_
  exact v_ireturn dJ6_bitCount_0f7a4_52 rfl rfl
theorem dX0_init_0 : decode cX0_init 0 = .ok (.aload_n 0, 1) := by decide +kernel
theorem dX0_init_1 : decode cX0_init 1 = .ok (.invokespecial 3, 3) := by decide +kernel
theorem dX0_init_4 : decode cX0_init 4 = .ok (.aload_n 0, 1) := by decide +kernel
theorem dX0_init_5 : decode cX0_init 5 = .ok (.iconst 2, 1) := by decide +kernel
theorem dX0_init_6 : decode cX0_init 6 = .ok (.putfield 9, 3) := by decide +kernel
theorem dX0_init_9 : decode cX0_init 9 = .ok (.aload_n 0, 1) := by decide +kernel
theorem dX0_init_10 : decode cX0_init 10 = .ok (.bipush 20, 2) := by decide +kernel
theorem dX0_init_12 : decode cX0_init 12 = .ok (.putfield 15, 3) := by decide +kernel
theorem dX0_init_15 : decode cX0_init 15 = .ok (.aload_n 0, 1) := by decide +kernel
theorem dX0_init_16 : decode cX0_init 16 = .ok (.iconst 0, 1) := by decide +kernel
theorem dX0_init_17 : decode cX0_init 17 = .ok (.putfield 18, 3) := by decide +kernel
theorem dX0_init_20 : decode cX0_init 20 = .ok (.return_, 1) := by decide +kernel
abbrev mX0_init : MI := (yX0_init, cX0_init, 1, none)
theorem okX0_init : cok mX0_init 0 := ⟨tw125, tw4, by decide, by decide, by decide, by decide +kernel⟩
def fX0_init (M : Mem) (a0 : Int) : Option Mem :=
  if 0 ≤ a0 then if M.2.1 a0 = 0 then bM (mst M a0 0 2) fun M3 => bM (mst M3 a0 1 20) fun M5 => bM (mst M5 a0 2 0) fun M7 => some M7 else none else none
set_option maxRecDepth 100000 in
set_option maxHeartbeats 4000000 in
theorem kX0_init (d : Nat) (hd : 1 ≤ d) (M : Mem) (a0 : Int) : Ct mX0_init d 0 0 [pA a0] M dV (fX0_init M a0) := by
  obtain ⟨d, rfl⟩ : ∃ k, d = k + 1 := ⟨d - 1, by omega⟩
  refine Ct.of 0 (by decide +kernel) rfl ?_
  unfold fX0_init
  refine v_aload_n dX0_init_0 rfl ?_
  refine v_if (fun h1 => ?_)
  refine v_objInit h1 tw126 tw26 tw27 (Nat.le_of_ble_eq_true rfl) dX0_init_1 ?_
  refine v_aload_n dX0_init_4 rfl ?_
  refine v_iconst dX0_init_5 (by decide) ?_
  refine v_if (fun h2 => ?_)
  refine v_put (x := 2) 0 0 rfl inX0 (by decide) tw127 (Or.inl rfl) rfl dX0_init_6 h2 rfl id ?_
  refine v_bM (fun M3 e4 => ?_)
  refine v_aload_n dX0_init_9 rfl ?_
  refine v_bipush dX0_init_10 (by decide) ?_
  refine v_put (x := 20) 0 1 rfl inX0 (by decide) tw130 (Or.inl rfl) rfl dX0_init_12 (by rw [e4]; exact h2) rfl id ?_
  refine v_bM (fun M5 e6 => ?_)
  refine v_aload_n dX0_init_15 rfl ?_
  refine v_iconst dX0_init_16 (by decide) ?_
  refine v_put (x := 0) 0 2 rfl inX0 (by decide) tw134 (Or.inl rfl) rfl dX0_init_17 (by rw [e6, e4]; exact h2) rfl id ?_
  refine v_bM (fun M7 e8 => ?_)
  exact v_return dX0_init_20 rfl rfl
theorem dX0_clear_0 : decode cX0_clear 0 = .ok (.aload_n 0, 1) := by decide +kernel
theorem dX0_clear_1 : decode cX0_clear 1 = .ok (.iconst 2, 1) := by decide +kernel
theorem dX0_clear_2 : decode cX0_clear 2 = .ok (.putfield 9, 3) := by decide +kernel
theorem dX0_clear_5 : decode cX0_clear 5 = .ok (.aload_n 0, 1) := by decide +kernel
theorem dX0_clear_6 : decode cX0_clear 6 = .ok (.bipush 20, 2) := by decide +kernel
theorem dX0_clear_8 : decode cX0_clear 8 = .ok (.putfield 15, 3) := by decide +kernel
theorem dX0_clear_11 : decode cX0_clear 11 = .ok (.aload_n 0, 1) := by decide +kernel
theorem dX0_clear_12 : decode cX0_clear 12 = .ok (.iconst 0, 1) := by decide +kernel
theorem dX0_clear_13 : decode cX0_clear 13 = .ok (.putfield 18, 3) := by decide +kernel
theorem dX0_clear_16 : decode cX0_clear 16 = .ok (.return_, 1) := by decide +kernel
abbrev mX0_clear : MI := (yX0_clear, cX0_clear, 1, none)
theorem okX0_clear : cok mX0_clear 0 := ⟨tw479, tw4, by decide, by decide, by decide, by decide +kernel⟩
def fX0_clear (M : Mem) (a0 : Int) : Option Mem :=
  if M.2.1 a0 = 0 then bM (mst M a0 0 2) fun M2 => bM (mst M2 a0 1 20) fun M4 => bM (mst M4 a0 2 0) fun M6 => some M6 else none
set_option maxRecDepth 100000 in
set_option maxHeartbeats 4000000 in
theorem kX0_clear (d : Nat) (hd : 0 ≤ d) (M : Mem) (a0 : Int) : Ct mX0_clear d 0 0 [pA a0] M dV (fX0_clear M a0) := by
  refine Ct.of 0 (by decide +kernel) rfl ?_
  unfold fX0_clear
  refine v_aload_n dX0_clear_0 rfl ?_
  refine v_iconst dX0_clear_1 (by decide) ?_
  refine v_if (fun h1 => ?_)
  refine v_put (x := 2) 0 0 rfl inX0 (by decide) tw127 (Or.inl rfl) rfl dX0_clear_2 h1 rfl id ?_
  refine v_bM (fun M2 e3 => ?_)
  refine v_aload_n dX0_clear_5 rfl ?_
  refine v_bipush dX0_clear_6 (by decide) ?_
  refine v_put (x := 20) 0 1 rfl inX0 (by decide) tw130 (Or.inl rfl) rfl dX0_clear_8 (by rw [e3]; exact h1) rfl id ?_
  refine v_bM (fun M4 e5 => ?_)
  refine v_aload_n dX0_clear_11 rfl ?_
  refine v_iconst dX0_clear_12 (by decide) ?_
  refine v_put (x := 0) 0 2 rfl inX0 (by decide) tw134 (Or.inl rfl) rfl dX0_clear_13 (by rw [e5, e3]; exact h1) rfl id ?_
  refine v_bM (fun M6 e7 => ?_)
  exact v_return dX0_clear_16 rfl rfl
theorem dX0_copy_0 : decode cX0_copy 0 = .ok (.aload_n 0, 1) := by decide +kernel
theorem dX0_copy_1 : decode cX0_copy 1 = .ok (.aload_n 1, 1) := by decide +kernel
theorem dX0_copy_2 : decode cX0_copy 2 = .ok (.getfield 9, 3) := by decide +kernel
theorem dX0_copy_5 : decode cX0_copy 5 = .ok (.putfield 9, 3) := by decide +kernel
theorem dX0_copy_8 : decode cX0_copy 8 = .ok (.aload_n 0, 1) := by decide +kernel
theorem dX0_copy_9 : decode cX0_copy 9 = .ok (.aload_n 1, 1) := by decide +kernel
theorem dX0_copy_10 : decode cX0_copy 10 = .ok (.getfield 15, 3) := by decide +kernel
theorem dX0_copy_13 : decode cX0_copy 13 = .ok (.putfield 15, 3) := by decide +kernel
theorem dX0_copy_16 : decode cX0_copy 16 = .ok (.aload_n 0, 1) := by decide +kernel
theorem dX0_copy_17 : decode cX0_copy 17 = .ok (.aload_n 1, 1) := by decide +kernel
theorem dX0_copy_18 : decode cX0_copy 18 = .ok (.getfield 18, 3) := by decide +kernel
theorem dX0_copy_21 : decode cX0_copy 21 = .ok (.putfield 18, 3) := by decide +kernel
theorem dX0_copy_24 : decode cX0_copy 24 = .ok (.return_, 1) := by decide +kernel
abbrev mX0_copy : MI := (yX0_copy, cX0_copy, 2, none)
theorem okX0_copy : cok mX0_copy 1 := ⟨tw660, tw4, by decide, by decide, by decide, by decide +kernel⟩
def fX0_copy (M : Mem) (a0 a1 : Int) : Option Mem :=
  if M.2.1 a1 = 0 then if M.2.1 a0 = 0 then bM (mst M a0 0 (M.1 a1 0)) fun M3 => bM (mst M3 a0 1 (M3.1 a1 1)) fun M5 => bM (mst M5 a0 2 (M5.1 a1 2)) fun M7 => some M7 else none else none
set_option maxRecDepth 100000 in
set_option maxHeartbeats 4000000 in
theorem kX0_copy (d : Nat) (hd : 0 ≤ d) (M : Mem) (a0 a1 : Int) : Ct mX0_copy d 0 0 [pA a0, pA a1] M dV (fX0_copy M a0 a1) := by
  refine Ct.of 0 (by decide +kernel) rfl ?_
  unfold fX0_copy
  refine v_aload_n dX0_copy_0 rfl ?_
  refine v_aload_n dX0_copy_1 rfl ?_
  refine v_if (fun h1 => ?_)
  refine v_get (v := pI (M.1 a1 0)) 0 0 rfl inX0 (by decide) tw127 dX0_copy_2 h1 rfl ?_
  refine v_if (fun h2 => ?_)
  refine v_put (x := M.1 a1 0) 0 0 rfl inX0 (by decide) tw127 (Or.inl rfl) rfl dX0_copy_5 h2 rfl id ?_
  refine v_bM (fun M3 e4 => ?_)
  refine v_aload_n dX0_copy_8 rfl ?_
  refine v_aload_n dX0_copy_9 rfl ?_
  refine v_get (v := pI (M3.1 a1 1)) 0 1 rfl inX0 (by decide) tw130 dX0_copy_10 (by rw [e4]; exact h1) rfl ?_
  refine v_put (x := M3.1 a1 1) 0 1 rfl inX0 (by decide) tw130 (Or.inl rfl) rfl dX0_copy_13 (by rw [e4]; exact h2) rfl id ?_
  refine v_bM (fun M5 e6 => ?_)
  refine v_aload_n dX0_copy_16 rfl ?_
  refine v_aload_n dX0_copy_17 rfl ?_
  refine v_get (v := pI (M5.1 a1 2)) 0 2 rfl inX0 (by decide) tw134 dX0_copy_18 (by rw [e6, e4]; exact h1) rfl ?_
  refine v_put (x := M5.1 a1 2) 0 2 rfl inX0 (by decide) tw134 (Or.inl rfl) rfl dX0_copy_21 (by rw [e6, e4]; exact h2) rfl id ?_
  refine v_bM (fun M7 e8 => ?_)
  exact v_return dX0_copy_24 rfl rfl
theorem dX0_counts_0 : decode cX0_counts 0 = .ok (.iload_n 1, 1) := by decide +kernel
theorem dX0_counts_1 : decode cX0_counts 1 = .ok (.ifCond .lt 22, 3) := by decide +kernel
theorem dX0_counts_4 : decode cX0_counts 4 = .ok (.iload_n 1, 1) := by decide +kernel
theorem dX0_counts_5 : decode cX0_counts 5 = .ok (.bipush 20, 2) := by decide +kernel
theorem dX0_counts_7 : decode cX0_counts 7 = .ok (.if_icmp .ge 16, 3) := by decide +kernel
theorem dX0_counts_10 : decode cX0_counts 10 = .ok (.iconst 1, 1) := by decide +kernel
theorem dX0_counts_11 : decode cX0_counts 11 = .ok (.aload_n 0, 1) := by decide +kernel
theorem dX0_counts_12 : decode cX0_counts 12 = .ok (.getfield 18, 3) := by decide +kernel
theorem dX0_counts_15 : decode cX0_counts 15 = .ok (.iload_n 1, 1) := by decide +kernel
theorem dX0_counts_16 : decode cX0_counts 16 = .ok (.ishr, 1) := by decide +kernel
theorem dX0_counts_17 : decode cX0_counts 17 = .ok (.iconst 1, 1) := by decide +kernel
theorem dX0_counts_18 : decode cX0_counts 18 = .ok (.iand, 1) := by decide +kernel
theorem dX0_counts_19 : decode cX0_counts 19 = .ok (.iadd, 1) := by decide +kernel
theorem dX0_counts_20 : decode cX0_counts 20 = .ok (.goto 4, 3) := by decide +kernel
theorem dX0_counts_23 : decode cX0_counts 23 = .ok (.iconst 1, 1) := by decide +kernel
theorem dX0_counts_24 : decode cX0_counts 24 = .ok (.ireturn, 1) := by decide +kernel
abbrev mX0_counts : MI := (yX0_counts, cX0_counts, 2, (some .int))
theorem okX0_counts : cok mX0_counts 1 := ⟨tw721, tw4, by decide, by decide, by decide, by decide +kernel⟩
def fX0_counts (M : Mem) (a0 a1 : Int) : Option Int :=
  if a1 < 0 then (some 1) else (if a1 < 20 then (if M.2.1 a0 = 0 then some (w32 (1 + (bAnd (bShr (M.1 a0 2) a1) 1))) else none) else (some 1))
set_option maxRecDepth 100000 in
set_option maxHeartbeats 4000000 in
theorem kX0_counts (d : Nat) (hd : 0 ≤ d) (M : Mem) (a0 a1 : Int) : Ct mX0_counts d 0 0 [pA a0, pI a1] M (dI M) (fX0_counts M a0 a1) := by
  refine Ct.of 0 (by decide +kernel) rfl ?_
  unfold fX0_counts
  refine v_iload_n dX0_counts_0 rfl ?_
  refine v_if_lt (tgt := 23) dX0_counts_1 (by decide) (fun c1 => ?_) (fun c1 => ?_)
  · refine v_iconst dX0_counts_23 (by decide) ?_
    exact v_ireturn dX0_counts_24 rfl rfl
  · refine v_iload_n dX0_counts_4 rfl ?_
    refine v_bipush dX0_counts_5 (by decide) ?_
    refine v_icmp_ge (tgt := 23) dX0_counts_7 (by decide) (fun c2 => ?_) (fun c2 => ?_)
    · refine v_iconst dX0_counts_10 (by decide) ?_
      refine v_aload_n dX0_counts_11 rfl ?_
      refine v_if (fun h3 => ?_)
      refine v_get (v := pI (M.1 a0 2)) 0 2 rfl inX0 (by decide) tw134 dX0_counts_12 h3 rfl ?_
      refine v_iload_n dX0_counts_15 rfl ?_
      refine v_ishr dX0_counts_16 ?_
      refine v_iconst dX0_counts_17 (by decide) ?_
      refine v_iand dX0_counts_18 ?_
      refine v_iadd dX0_counts_19 ?_
      refine v_goto (tgt := 24) dX0_counts_20 (by decide) ?_
      exact v_ireturn dX0_counts_24 rfl rfl
    · refine v_iconst dX0_counts_23 (by decide) ?_
      exact v_ireturn dX0_counts_24 rfl rfl
theorem dX0_dueOf_0 : decode cX0_dueOf 0 = .ok (.aload_n 0, 1) := by decide +kernel
theorem dX0_dueOf_1 : decode cX0_dueOf 1 = .ok (.getfield 9, 3) := by decide +kernel
theorem dX0_dueOf_4 : decode cX0_dueOf 4 = .ok (.ifCond .le 12, 3) := by decide +kernel
theorem dX0_dueOf_7 : decode cX0_dueOf 7 = .ok (.iload_n 1, 1) := by decide +kernel
theorem dX0_dueOf_8 : decode cX0_dueOf 8 = .ok (.aload_n 0, 1) := by decide +kernel
theorem dX0_dueOf_9 : decode cX0_dueOf 9 = .ok (.getfield 9, 3) := by decide +kernel
theorem dX0_dueOf_12 : decode cX0_dueOf 12 = .ok (.idiv, 1) := by decide +kernel
theorem dX0_dueOf_13 : decode cX0_dueOf 13 = .ok (.goto 4, 3) := by decide +kernel
theorem dX0_dueOf_16 : decode cX0_dueOf 16 = .ok (.iconst 0, 1) := by decide +kernel
theorem dX0_dueOf_17 : decode cX0_dueOf 17 = .ok (.ireturn, 1) := by decide +kernel
abbrev mX0_dueOf : MI := (yX0_dueOf, cX0_dueOf, 2, (some .int))
theorem okX0_dueOf : cok mX0_dueOf 1 := ⟨tw792, tw4, by decide, by decide, by decide, by decide +kernel⟩
def fX0_dueOf (M : Mem) (a0 a1 : Int) : Option Int :=
  if M.2.1 a0 = 0 then if 0 < M.1 a0 0 then (if (M.1 a0 0) ≠ 0 then some (w32 (a1.tdiv (M.1 a0 0))) else none) else (some 0) else none
set_option maxRecDepth 100000 in
set_option maxHeartbeats 4000000 in
theorem kX0_dueOf (d : Nat) (hd : 0 ≤ d) (M : Mem) (a0 a1 : Int) : Ct mX0_dueOf d 0 0 [pA a0, pI a1] M (dI M) (fX0_dueOf M a0 a1) := by
  refine Ct.of 0 (by decide +kernel) rfl ?_
  unfold fX0_dueOf
  refine v_aload_n dX0_dueOf_0 rfl ?_
  refine v_if (fun h1 => ?_)
  refine v_get (v := pI (M.1 a0 0)) 0 0 rfl inX0 (by decide) tw127 dX0_dueOf_1 h1 rfl ?_
  refine v_if_le (tgt := 16) dX0_dueOf_4 (by decide) (fun c2 => ?_) (fun c2 => ?_)
  · refine v_iload_n dX0_dueOf_7 rfl ?_
    refine v_aload_n dX0_dueOf_8 rfl ?_
    refine v_get (v := pI (M.1 a0 0)) 0 0 rfl inX0 (by decide) tw127 dX0_dueOf_9 h1 rfl ?_
    refine v_if (fun h3 => ?_)
    refine v_idiv h3 dX0_dueOf_12 ?_
    refine v_goto (tgt := 17) dX0_dueOf_13 (by decide) ?_
    exact v_ireturn dX0_dueOf_17 rfl rfl
  · refine v_iconst dX0_dueOf_16 (by decide) ?_
    exact v_ireturn dX0_dueOf_17 rfl rfl
theorem dX0_oddOf_0 : decode cX0_oddOf 0 = .ok (.aload_n 0, 1) := by decide +kernel
theorem dX0_oddOf_1 : decode cX0_oddOf 1 = .ok (.getfield 9, 3) := by decide +kernel
theorem dX0_oddOf_4 : decode cX0_oddOf 4 = .ok (.ifCond .le 12, 3) := by decide +kernel
theorem dX0_oddOf_7 : decode cX0_oddOf 7 = .ok (.iload_n 1, 1) := by decide +kernel
theorem dX0_oddOf_8 : decode cX0_oddOf 8 = .ok (.aload_n 0, 1) := by decide +kernel
theorem dX0_oddOf_9 : decode cX0_oddOf 9 = .ok (.getfield 9, 3) := by decide +kernel
theorem dX0_oddOf_12 : decode cX0_oddOf 12 = .ok (.irem, 1) := by decide +kernel
theorem dX0_oddOf_13 : decode cX0_oddOf 13 = .ok (.goto 4, 3) := by decide +kernel
theorem dX0_oddOf_16 : decode cX0_oddOf 16 = .ok (.iconst 0, 1) := by decide +kernel
theorem dX0_oddOf_17 : decode cX0_oddOf 17 = .ok (.ireturn, 1) := by decide +kernel
abbrev mX0_oddOf : MI := (yX0_oddOf, cX0_oddOf, 2, (some .int))
theorem okX0_oddOf : cok mX0_oddOf 1 := ⟨tw814, tw4, by decide, by decide, by decide, by decide +kernel⟩
def fX0_oddOf (M : Mem) (a0 a1 : Int) : Option Int :=
  if M.2.1 a0 = 0 then if 0 < M.1 a0 0 then (if (M.1 a0 0) ≠ 0 then some (a1.tmod (M.1 a0 0)) else none) else (some 0) else none
set_option maxRecDepth 100000 in
set_option maxHeartbeats 4000000 in
theorem kX0_oddOf (d : Nat) (hd : 0 ≤ d) (M : Mem) (a0 a1 : Int) : Ct mX0_oddOf d 0 0 [pA a0, pI a1] M (dI M) (fX0_oddOf M a0 a1) := by
  refine Ct.of 0 (by decide +kernel) rfl ?_
  unfold fX0_oddOf
  refine v_aload_n dX0_oddOf_0 rfl ?_
  refine v_if (fun h1 => ?_)
  refine v_get (v := pI (M.1 a0 0)) 0 0 rfl inX0 (by decide) tw127 dX0_oddOf_1 h1 rfl ?_
  refine v_if_le (tgt := 16) dX0_oddOf_4 (by decide) (fun c2 => ?_) (fun c2 => ?_)
  · refine v_iload_n dX0_oddOf_7 rfl ?_
    refine v_aload_n dX0_oddOf_8 rfl ?_
    refine v_get (v := pI (M.1 a0 0)) 0 0 rfl inX0 (by decide) tw127 dX0_oddOf_9 h1 rfl ?_
    refine v_if (fun h3 => ?_)
    refine v_irem h3 dX0_oddOf_12 ?_
    refine v_goto (tgt := 17) dX0_oddOf_13 (by decide) ?_
    exact v_ireturn dX0_oddOf_17 rfl rfl
  · refine v_iconst dX0_oddOf_16 (by decide) ?_
    exact v_ireturn dX0_oddOf_17 rfl rfl
theorem dX0_firstQuit_0 : decode cX0_firstQuit 0 = .ok (.iconst 0, 1) := by decide +kernel
theorem dX0_firstQuit_1 : decode cX0_firstQuit 1 = .ok (.istore 4, 2) := by decide +kernel
theorem dX0_firstQuit_3 : decode cX0_firstQuit 3 = .ok (.iload_n 3, 1) := by decide +kernel
theorem dX0_firstQuit_4 : decode cX0_firstQuit 4 = .ok (.istore 5, 2) := by decide +kernel
theorem dX0_firstQuit_6 : decode cX0_firstQuit 6 = .ok (.iload 5, 2) := by decide +kernel
theorem dX0_firstQuit_8 : decode cX0_firstQuit 8 = .ok (.bipush 60, 2) := by decide +kernel
theorem dX0_firstQuit_10 : decode cX0_firstQuit 10 = .ok (.if_icmp .gt 31, 3) := by decide +kernel
theorem dX0_firstQuit_13 : decode cX0_firstQuit 13 = .ok (.iload 4, 2) := by decide +kernel
theorem dX0_firstQuit_15 : decode cX0_firstQuit 15 = .ok (.iload_n 2, 1) := by decide +kernel
theorem dX0_firstQuit_16 : decode cX0_firstQuit 16 = .ok (.aload_n 0, 1) := by decide +kernel
theorem dX0_firstQuit_17 : decode cX0_firstQuit 17 = .ok (.iload 5, 2) := by decide +kernel
theorem dX0_firstQuit_19 : decode cX0_firstQuit 19 = .ok (.invokevirtual 21, 3) := by decide +kernel
theorem dX0_firstQuit_22 : decode cX0_firstQuit 22 = .ok (.imul, 1) := by decide +kernel
theorem dX0_firstQuit_23 : decode cX0_firstQuit 23 = .ok (.iadd, 1) := by decide +kernel
theorem dX0_firstQuit_24 : decode cX0_firstQuit 24 = .ok (.istore 4, 2) := by decide +kernel
theorem dX0_firstQuit_26 : decode cX0_firstQuit 26 = .ok (.iload 4, 2) := by decide +kernel
theorem dX0_firstQuit_28 : decode cX0_firstQuit 28 = .ok (.iload_n 1, 1) := by decide +kernel
theorem dX0_firstQuit_29 : decode cX0_firstQuit 29 = .ok (.if_icmp .lt 6, 3) := by decide +kernel
theorem dX0_firstQuit_32 : decode cX0_firstQuit 32 = .ok (.iload 5, 2) := by decide +kernel
theorem dX0_firstQuit_34 : decode cX0_firstQuit 34 = .ok (.ireturn, 1) := by decide +kernel
theorem dX0_firstQuit_35 : decode cX0_firstQuit 35 = .ok (.iinc 5 1, 3) := by decide +kernel
theorem dX0_firstQuit_38 : decode cX0_firstQuit 38 = .ok (.goto (-32), 3) := by decide +kernel
theorem dX0_firstQuit_41 : decode cX0_firstQuit 41 = .ok (.iconst (-1), 1) := by decide +kernel
theorem dX0_firstQuit_42 : decode cX0_firstQuit 42 = .ok (.ireturn, 1) := by decide +kernel
abbrev mX0_firstQuit : MI := (yX0_firstQuit, cX0_firstQuit, 6, (some .int))
theorem okX0_firstQuit : cok mX0_firstQuit 3 := ⟨tw993, tw4, by decide, by decide, by decide, by decide +kernel⟩
def fX0_firstQuit (M : Mem) (a0 a1 a2 a3 : Int) : Option Int :=
  iterC (fun (rec1 : (Int × Int) → Option Int) (s2 : Int × Int) => if 60 < s2.2 then (some (-1)) else (if M.2.1 a0 = 0 then (fX0_counts M a0 s2.2).bind fun r4 => if w32 (s2.1 + (w32 (a2 * r4))) < a1 then (rec1 (w32 (s2.1 + (w32 (a2 * r4))), w32 (s2.2 + 1))) else (some s2.2) else none)) BIG (0, a3)
set_option maxRecDepth 100000 in
set_option maxHeartbeats 4000000 in
theorem kX0_firstQuit (d : Nat) (hd : 1 ≤ d) (M : Mem) (a0 a1 a2 a3 : Int) : Ct mX0_firstQuit d 0 0 [pA a0, pI a1, pI a2, pI a3] M (dI M) (fX0_firstQuit M a0 a1 a2 a3) := by
  obtain ⟨d, rfl⟩ : ∃ k, d = k + 1 := ⟨d - 1, by omega⟩
  refine Ct.of 2 (by decide +kernel) rfl ?_
  unfold fX0_firstQuit
  refine v_iconst dX0_firstQuit_0 (by decide) ?_
  refine v_istore (ls' := [some (pA a0), some (pI a1), some (pI a2), some (pI a3), some (pI 0), none]) dX0_firstQuit_1 (by decide) rfl ?_
  refine v_iload_n dX0_firstQuit_3 rfl ?_
  refine v_istore (ls' := [some (pA a0), some (pI a1), some (pI a2), some (pI a3), some (pI 0), some (pI a3)]) dX0_firstQuit_4 (by decide) rfl ?_
  refine v_drop [some (pA a0), some (pI a1), some (pI a2), none, some (pI 0), some (pI a3)] (ls_s (ls_s (ls_s (ls_n (ls_s (ls_s ls_e)))))) ?_
  refine v_loop (fun (s2 : Int × Int) => [some (pA a0), some (pI a1), some (pI a2), none, some (pI s2.1), some (pI s2.2)]) (fun (s2 : Int × Int) => M) (s0 := (0, a3)) ?_
  intro rec1 hrec1 s2
  refine v_iload dX0_firstQuit_6 rfl ?_
  refine v_bipush dX0_firstQuit_8 (by decide) ?_
  refine v_icmp_gt (tgt := 41) dX0_firstQuit_10 (by decide) (fun c3 => ?_) (fun c3 => ?_)
  · refine v_iconst dX0_firstQuit_41 (by decide) ?_
    exact v_ireturn dX0_firstQuit_42 rfl rfl
  · refine v_iload dX0_firstQuit_13 rfl ?_
    refine v_iload_n dX0_firstQuit_15 rfl ?_
    refine v_aload_n dX0_firstQuit_16 rfl ?_
    refine v_iload dX0_firstQuit_17 rfl ?_
    refine v_if (fun h6 => ?_)
    refine v_cV (As := [pI s2.2]) (st := [pI a2, pI s2.1]) (kX0_counts d (by omega) _ _ _) rfl h6 rfl okX0_counts (Or.inl tw994) tw719 tw720 rfl (Nat.le_of_ble_eq_true rfl) dX0_firstQuit_19 (fun r4 => [pI r4, pI a2, pI s2.1]) (fun r4 => M) (fun _ => rfl) (fun _ => rfl) (fun r4 h5 => ?_) rfl
    refine v_imul dX0_firstQuit_22 ?_
    refine v_iadd dX0_firstQuit_23 ?_
    refine v_istore (ls' := [some (pA a0), some (pI a1), some (pI a2), none, some (pI (w32 (s2.1 + (w32 (a2 * r4))))), some (pI s2.2)]) dX0_firstQuit_24 (by decide) rfl ?_
    refine v_iload dX0_firstQuit_26 rfl ?_
    refine v_iload_n dX0_firstQuit_28 rfl ?_
    refine v_icmp_lt (tgt := 35) dX0_firstQuit_29 (by decide) (fun c7 => ?_) (fun c7 => ?_)
    · refine v_iinc (ls' := [some (pA a0), some (pI a1), some (pI a2), none, some (pI (w32 (s2.1 + (w32 (a2 * r4))))), some (pI (w32 (s2.2 + 1)))]) dX0_firstQuit_35 (by decide) rfl rfl ?_
      refine v_goto (tgt := 6) dX0_firstQuit_38 (by decide) ?_
      exact hrec1 (w32 (s2.1 + (w32 (a2 * r4))), w32 (s2.2 + 1))
    · refine v_iload dX0_firstQuit_32 rfl ?_
      exact v_ireturn dX0_firstQuit_34 rfl rfl
theorem dX0_fewestGifts_0 : decode cX0_fewestGifts 0 = .ok (.iload 4, 2) := by decide +kernel
theorem dX0_fewestGifts_2 : decode cX0_fewestGifts 2 = .ok (.iload_n 3, 1) := by decide +kernel
theorem dX0_fewestGifts_3 : decode cX0_fewestGifts 3 = .ok (.if_icmp .ge 5, 3) := by decide +kernel
theorem dX0_fewestGifts_6 : decode cX0_fewestGifts 6 = .ok (.iconst (-1), 1) := by decide +kernel
theorem dX0_fewestGifts_7 : decode cX0_fewestGifts 7 = .ok (.ireturn, 1) := by decide +kernel
theorem dX0_fewestGifts_8 : decode cX0_fewestGifts 8 = .ok (.iconst 0, 1) := by decide +kernel
theorem dX0_fewestGifts_9 : decode cX0_fewestGifts 9 = .ok (.istore 5, 2) := by decide +kernel
theorem dX0_fewestGifts_11 : decode cX0_fewestGifts 11 = .ok (.iconst 0, 1) := by decide +kernel
theorem dX0_fewestGifts_12 : decode cX0_fewestGifts 12 = .ok (.istore 6, 2) := by decide +kernel
theorem dX0_fewestGifts_14 : decode cX0_fewestGifts 14 = .ok (.iload_n 3, 1) := by decide +kernel
theorem dX0_fewestGifts_15 : decode cX0_fewestGifts 15 = .ok (.istore 7, 2) := by decide +kernel
theorem dX0_fewestGifts_17 : decode cX0_fewestGifts 17 = .ok (.iload 7, 2) := by decide +kernel
theorem dX0_fewestGifts_19 : decode cX0_fewestGifts 19 = .ok (.iload 4, 2) := by decide +kernel
theorem dX0_fewestGifts_21 : decode cX0_fewestGifts 21 = .ok (.if_icmp .gt 34, 3) := by decide +kernel
theorem dX0_fewestGifts_24 : decode cX0_fewestGifts 24 = .ok (.aload_n 0, 1) := by decide +kernel
theorem dX0_fewestGifts_25 : decode cX0_fewestGifts 25 = .ok (.iload 7, 2) := by decide +kernel
theorem dX0_fewestGifts_27 : decode cX0_fewestGifts 27 = .ok (.invokevirtual 21, 3) := by decide +kernel
theorem dX0_fewestGifts_30 : decode cX0_fewestGifts 30 = .ok (.iconst 2, 1) := by decide +kernel
theorem dX0_fewestGifts_31 : decode cX0_fewestGifts 31 = .ok (.if_icmp .ne 12, 3) := by decide +kernel
theorem dX0_fewestGifts_34 : decode cX0_fewestGifts 34 = .ok (.iload 5, 2) := by decide +kernel
theorem dX0_fewestGifts_36 : decode cX0_fewestGifts 36 = .ok (.iload_n 2, 1) := by decide +kernel
theorem dX0_fewestGifts_37 : decode cX0_fewestGifts 37 = .ok (.iadd, 1) := by decide +kernel
theorem dX0_fewestGifts_38 : decode cX0_fewestGifts 38 = .ok (.istore 5, 2) := by decide +kernel
theorem dX0_fewestGifts_40 : decode cX0_fewestGifts 40 = .ok (.goto 9, 3) := by decide +kernel
theorem dX0_fewestGifts_43 : decode cX0_fewestGifts 43 = .ok (.iload 6, 2) := by decide +kernel
theorem dX0_fewestGifts_45 : decode cX0_fewestGifts 45 = .ok (.iload_n 2, 1) := by decide +kernel
theorem dX0_fewestGifts_46 : decode cX0_fewestGifts 46 = .ok (.iadd, 1) := by decide +kernel
theorem dX0_fewestGifts_47 : decode cX0_fewestGifts 47 = .ok (.istore 6, 2) := by decide +kernel
theorem dX0_fewestGifts_49 : decode cX0_fewestGifts 49 = .ok (.iinc 7 1, 3) := by decide +kernel
theorem dX0_fewestGifts_52 : decode cX0_fewestGifts 52 = .ok (.goto (-35), 3) := by decide +kernel
theorem dX0_fewestGifts_55 : decode cX0_fewestGifts 55 = .ok (.iload 5, 2) := by decide +kernel
theorem dX0_fewestGifts_57 : decode cX0_fewestGifts 57 = .ok (.iload_n 1, 1) := by decide +kernel
theorem dX0_fewestGifts_58 : decode cX0_fewestGifts 58 = .ok (.iconst 1, 1) := by decide +kernel
theorem dX0_fewestGifts_59 : decode cX0_fewestGifts 59 = .ok (.iadd, 1) := by decide +kernel
theorem dX0_fewestGifts_60 : decode cX0_fewestGifts 60 = .ok (.iconst 2, 1) := by decide +kernel
theorem dX0_fewestGifts_61 : decode cX0_fewestGifts 61 = .ok (.idiv, 1) := by decide +kernel
theorem dX0_fewestGifts_62 : decode cX0_fewestGifts 62 = .ok (.invokestatic 25, 3) := by decide +kernel
theorem dX0_fewestGifts_65 : decode cX0_fewestGifts 65 = .ok (.istore 7, 2) := by decide +kernel
theorem dX0_fewestGifts_67 : decode cX0_fewestGifts 67 = .ok (.iconst 0, 1) := by decide +kernel
theorem dX0_fewestGifts_68 : decode cX0_fewestGifts 68 = .ok (.iload_n 1, 1) := by decide +kernel
theorem dX0_fewestGifts_69 : decode cX0_fewestGifts 69 = .ok (.iconst 2, 1) := by decide +kernel
theorem dX0_fewestGifts_70 : decode cX0_fewestGifts 70 = .ok (.iload 7, 2) := by decide +kernel
theorem dX0_fewestGifts_72 : decode cX0_fewestGifts 72 = .ok (.imul, 1) := by decide +kernel
theorem dX0_fewestGifts_73 : decode cX0_fewestGifts 73 = .ok (.isub, 1) := by decide +kernel
theorem dX0_fewestGifts_74 : decode cX0_fewestGifts 74 = .ok (.invokestatic 31, 3) := by decide +kernel
theorem dX0_fewestGifts_77 : decode cX0_fewestGifts 77 = .ok (.istore 8, 2) := by decide +kernel
theorem dX0_fewestGifts_79 : decode cX0_fewestGifts 79 = .ok (.iload 8, 2) := by decide +kernel
theorem dX0_fewestGifts_81 : decode cX0_fewestGifts 81 = .ok (.iload 6, 2) := by decide +kernel
theorem dX0_fewestGifts_83 : decode cX0_fewestGifts 83 = .ok (.if_icmp .gt 11, 3) := by decide +kernel
theorem dX0_fewestGifts_86 : decode cX0_fewestGifts 86 = .ok (.iload 7, 2) := by decide +kernel
theorem dX0_fewestGifts_88 : decode cX0_fewestGifts 88 = .ok (.iload 8, 2) := by decide +kernel
theorem dX0_fewestGifts_90 : decode cX0_fewestGifts 90 = .ok (.iadd, 1) := by decide +kernel
theorem dX0_fewestGifts_91 : decode cX0_fewestGifts 91 = .ok (.goto 4, 3) := by decide +kernel
theorem dX0_fewestGifts_94 : decode cX0_fewestGifts 94 = .ok (.iconst (-1), 1) := by decide +kernel
theorem dX0_fewestGifts_95 : decode cX0_fewestGifts 95 = .ok (.ireturn, 1) := by decide +kernel
abbrev mX0_fewestGifts : MI := (yX0_fewestGifts, cX0_fewestGifts, 9, (some .int))
theorem okX0_fewestGifts : cok mX0_fewestGifts 4 := ⟨tw998, tw4, by decide, by decide, by decide, by decide +kernel⟩
def fX0_fewestGifts (M : Mem) (a0 a1 a2 a3 a4 : Int) : Option Int :=
  if a4 < a3 then (some (-1)) else (iterC (fun (rec2 : (Int × Int × Int) → Option Int) (s3 : Int × Int × Int) => if a4 < s3.2.2 then (if s3.2.1 < imax 0 (w32 (a1 - (w32 (2 * (imin s3.1 (w32 ((w32 (a1 + 1)).tdiv 2))))))) then (some (-1)) else (some (w32 ((imin s3.1 (w32 ((w32 (a1 + 1)).tdiv 2))) + (imax 0 (w32 (a1 - (w32 (2 * (imin s3.1 (w32 ((w32 (a1 + 1)).tdiv 2)))))))))))) else (if M.2.1 a0 = 0 then (fX0_counts M a0 s3.2.2).bind fun r6 => if r6 = 2 then (rec2 (w32 (s3.1 + a2), s3.2.1, w32 (s3.2.2 + 1))) else (rec2 (s3.1, w32 (s3.2.1 + a2), w32 (s3.2.2 + 1))) else none)) BIG (0, 0, a3))
set_option maxRecDepth 100000 in
set_option maxHeartbeats 4000000 in
theorem kX0_fewestGifts (d : Nat) (hd : 1 ≤ d) (M : Mem) (a0 a1 a2 a3 a4 : Int) : Ct mX0_fewestGifts d 0 0 [pA a0, pI a1, pI a2, pI a3, pI a4] M (dI M) (fX0_fewestGifts M a0 a1 a2 a3 a4) := by
  obtain ⟨d, rfl⟩ : ∃ k, d = k + 1 := ⟨d - 1, by omega⟩
  refine Ct.of 4 (by decide +kernel) rfl ?_
  unfold fX0_fewestGifts
  refine v_iload dX0_fewestGifts_0 rfl ?_
  refine v_iload_n dX0_fewestGifts_2 rfl ?_
  refine v_icmp_ge (tgt := 8) dX0_fewestGifts_3 (by decide) (fun c1 => ?_) (fun c1 => ?_)
  · refine v_iconst dX0_fewestGifts_6 (by decide) ?_
    exact v_ireturn dX0_fewestGifts_7 rfl rfl
  · refine v_iconst dX0_fewestGifts_8 (by decide) ?_
    refine v_istore (ls' := [some (pA a0), some (pI a1), some (pI a2), some (pI a3), some (pI a4), some (pI 0), none, none, none]) dX0_fewestGifts_9 (by decide) rfl ?_
    refine v_iconst dX0_fewestGifts_11 (by decide) ?_
    refine v_istore (ls' := [some (pA a0), some (pI a1), some (pI a2), some (pI a3), some (pI a4), some (pI 0), some (pI 0), none, none]) dX0_fewestGifts_12 (by decide) rfl ?_
    refine v_iload_n dX0_fewestGifts_14 rfl ?_
    refine v_istore (ls' := [some (pA a0), some (pI a1), some (pI a2), some (pI a3), some (pI a4), some (pI 0), some (pI 0), some (pI a3), none]) dX0_fewestGifts_15 (by decide) rfl ?_
    refine v_drop [some (pA a0), some (pI a1), some (pI a2), none, some (pI a4), some (pI 0), some (pI 0), some (pI a3), none] (ls_s (ls_s (ls_s (ls_n (ls_s (ls_s (ls_s (ls_s (ls_n ls_e))))))))) ?_
    refine v_loop (fun (s3 : Int × Int × Int) => [some (pA a0), some (pI a1), some (pI a2), none, some (pI a4), some (pI s3.1), some (pI s3.2.1), some (pI s3.2.2), none]) (fun (s3 : Int × Int × Int) => M) (s0 := (0, 0, a3)) ?_
    intro rec2 hrec2 s3
    refine v_iload dX0_fewestGifts_17 rfl ?_
    refine v_iload dX0_fewestGifts_19 rfl ?_
    refine v_icmp_gt (tgt := 55) dX0_fewestGifts_21 (by decide) (fun c4 => ?_) (fun c4 => ?_)
    · refine v_iload dX0_fewestGifts_55 rfl ?_
      refine v_iload_n dX0_fewestGifts_57 rfl ?_
      refine v_iconst dX0_fewestGifts_58 (by decide) ?_
      refine v_iadd dX0_fewestGifts_59 ?_
      refine v_iconst dX0_fewestGifts_60 (by decide) ?_
      refine v_idiv (by decide) dX0_fewestGifts_61 ?_
      refine v_mmin tw999 tw469 tw12 tw470 (Nat.le_of_ble_eq_true rfl) dX0_fewestGifts_62 ?_
      refine v_istore (ls' := [some (pA a0), some (pI a1), some (pI a2), none, some (pI a4), some (pI s3.1), some (pI s3.2.1), some (pI (imin s3.1 (w32 ((w32 (a1 + 1)).tdiv 2)))), none]) dX0_fewestGifts_65 (by decide) rfl ?_
      refine v_iconst dX0_fewestGifts_67 (by decide) ?_
      refine v_iload_n dX0_fewestGifts_68 rfl ?_
      refine v_iconst dX0_fewestGifts_69 (by decide) ?_
      refine v_iload dX0_fewestGifts_70 rfl ?_
      refine v_imul dX0_fewestGifts_72 ?_
      refine v_isub dX0_fewestGifts_73 ?_
      refine v_mmax tw1000 tw624 tw12 tw625 (Nat.le_of_ble_eq_true rfl) dX0_fewestGifts_74 ?_
      refine v_istore (ls' := [some (pA a0), some (pI a1), some (pI a2), none, some (pI a4), some (pI s3.1), some (pI s3.2.1), some (pI (imin s3.1 (w32 ((w32 (a1 + 1)).tdiv 2)))), some (pI (imax 0 (w32 (a1 - (w32 (2 * (imin s3.1 (w32 ((w32 (a1 + 1)).tdiv 2)))))))))]) dX0_fewestGifts_77 (by decide) rfl ?_
      refine v_iload dX0_fewestGifts_79 rfl ?_
      refine v_iload dX0_fewestGifts_81 rfl ?_
      refine v_icmp_gt (tgt := 94) dX0_fewestGifts_83 (by decide) (fun c5 => ?_) (fun c5 => ?_)
      · refine v_iconst dX0_fewestGifts_94 (by decide) ?_
        exact v_ireturn dX0_fewestGifts_95 rfl rfl
      · refine v_iload dX0_fewestGifts_86 rfl ?_
        refine v_iload dX0_fewestGifts_88 rfl ?_
        refine v_iadd dX0_fewestGifts_90 ?_
        refine v_goto (tgt := 95) dX0_fewestGifts_91 (by decide) ?_
        exact v_ireturn dX0_fewestGifts_95 rfl rfl
    · refine v_aload_n dX0_fewestGifts_24 rfl ?_
      refine v_iload dX0_fewestGifts_25 rfl ?_
      refine v_if (fun h8 => ?_)
      refine v_cV (As := [pI s3.2.2]) (st := []) (kX0_counts d (by omega) _ _ _) rfl h8 rfl okX0_counts (Or.inl tw994) tw719 tw720 rfl (Nat.le_of_ble_eq_true rfl) dX0_fewestGifts_27 (fun r6 => [pI r6]) (fun r6 => M) (fun _ => rfl) (fun _ => rfl) (fun r6 h7 => ?_) rfl
      refine v_iconst dX0_fewestGifts_30 (by decide) ?_
      refine v_icmp_ne (tgt := 43) dX0_fewestGifts_31 (by decide) (fun c9 => ?_) (fun c9 => ?_)
      · refine v_iload dX0_fewestGifts_34 rfl ?_
        refine v_iload_n dX0_fewestGifts_36 rfl ?_
        refine v_iadd dX0_fewestGifts_37 ?_
        refine v_istore (ls' := [some (pA a0), some (pI a1), some (pI a2), none, some (pI a4), some (pI (w32 (s3.1 + a2))), some (pI s3.2.1), some (pI s3.2.2), none]) dX0_fewestGifts_38 (by decide) rfl ?_
        refine v_goto (tgt := 49) dX0_fewestGifts_40 (by decide) ?_
        refine v_iinc (ls' := [some (pA a0), some (pI a1), some (pI a2), none, some (pI a4), some (pI (w32 (s3.1 + a2))), some (pI s3.2.1), some (pI (w32 (s3.2.2 + 1))), none]) dX0_fewestGifts_49 (by decide) rfl rfl ?_
        refine v_goto (tgt := 17) dX0_fewestGifts_52 (by decide) ?_
        exact hrec2 (w32 (s3.1 + a2), s3.2.1, w32 (s3.2.2 + 1))
      · refine v_iload dX0_fewestGifts_43 rfl ?_
        refine v_iload_n dX0_fewestGifts_45 rfl ?_
        refine v_iadd dX0_fewestGifts_46 ?_
        refine v_istore (ls' := [some (pA a0), some (pI a1), some (pI a2), none, some (pI a4), some (pI s3.1), some (pI (w32 (s3.2.1 + a2))), some (pI s3.2.2), none]) dX0_fewestGifts_47 (by decide) rfl ?_
        refine v_iinc (ls' := [some (pA a0), some (pI a1), some (pI a2), none, some (pI a4), some (pI s3.1), some (pI (w32 (s3.2.1 + a2))), some (pI (w32 (s3.2.2 + 1))), none]) dX0_fewestGifts_49 (by decide) rfl rfl ?_
        refine v_goto (tgt := 17) dX0_fewestGifts_52 (by decide) ?_
        exact hrec2 (s3.1, w32 (s3.2.1 + a2), w32 (s3.2.2 + 1))
