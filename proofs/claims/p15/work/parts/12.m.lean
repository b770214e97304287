theorem chJ6_bitCount_0f7a4_0 : (cJ6_bitCount_0f7a4.data.toList.drop 0).take 16 = [26, 26, 4, 124, 19, 1, 9, 126, 100, 59, 26, 19, 1, 10, 126, 26] := by decide +kernel
theorem chJ6_bitCount_0f7a4_1 : (cJ6_bitCount_0f7a4.data.toList.drop 16).take 16 = [5, 124, 19, 1, 10, 126, 96, 59, 26, 26, 7, 124, 96, 19, 1, 11] := by decide +kernel
theorem chJ6_bitCount_0f7a4_2 : (cJ6_bitCount_0f7a4.data.toList.drop 32).take 16 = [126, 59, 26, 26, 16, 8, 124, 96, 59, 26, 26, 16, 16, 124, 96, 59] := by decide +kernel
theorem chJ6_bitCount_0f7a4_3 : (cJ6_bitCount_0f7a4.data.toList.drop 48).take 16 = [26, 16, 63, 126, 172] := by decide +kernel
theorem dJ6_bitCount_0f7a4_0 : decode cJ6_bitCount_0f7a4 0 = .ok (.iload_n 0, 1) := oq_26 (byt chJ6_bitCount_0f7a4_0 0 rfl)
theorem dJ6_bitCount_0f7a4_1 : decode cJ6_bitCount_0f7a4 1 = .ok (.iload_n 0, 1) := oq_26 (byt chJ6_bitCount_0f7a4_0 1 rfl)
theorem dJ6_bitCount_0f7a4_2 : decode cJ6_bitCount_0f7a4 2 = .ok (.iconst 1, 1) := oq_4 (byt chJ6_bitCount_0f7a4_0 2 rfl)
theorem dJ6_bitCount_0f7a4_3 : decode cJ6_bitCount_0f7a4 3 = .ok (.iushr, 1) := oq_124 (byt chJ6_bitCount_0f7a4_0 3 rfl)
theorem dJ6_bitCount_0f7a4_4 : decode cJ6_bitCount_0f7a4 4 = .ok (.ldc_w 265, 3) := oq_19 (byt chJ6_bitCount_0f7a4_0 4 rfl) (byt chJ6_bitCount_0f7a4_0 5 rfl) (byt chJ6_bitCount_0f7a4_0 6 rfl) rfl
theorem dJ6_bitCount_0f7a4_7 : decode cJ6_bitCount_0f7a4 7 = .ok (.iand, 1) := oq_126 (byt chJ6_bitCount_0f7a4_0 7 rfl)
theorem dJ6_bitCount_0f7a4_8 : decode cJ6_bitCount_0f7a4 8 = .ok (.isub, 1) := oq_100 (byt chJ6_bitCount_0f7a4_0 8 rfl)
theorem dJ6_bitCount_0f7a4_9 : decode cJ6_bitCount_0f7a4 9 = .ok (.istore_n 0, 1) := oq_59 (byt chJ6_bitCount_0f7a4_0 9 rfl)
theorem dJ6_bitCount_0f7a4_10 : decode cJ6_bitCount_0f7a4 10 = .ok (.iload_n 0, 1) := oq_26 (byt chJ6_bitCount_0f7a4_0 10 rfl)
theorem dJ6_bitCount_0f7a4_11 : decode cJ6_bitCount_0f7a4 11 = .ok (.ldc_w 266, 3) := oq_19 (byt chJ6_bitCount_0f7a4_0 11 rfl) (byt chJ6_bitCount_0f7a4_0 12 rfl) (byt chJ6_bitCount_0f7a4_0 13 rfl) rfl
theorem dJ6_bitCount_0f7a4_14 : decode cJ6_bitCount_0f7a4 14 = .ok (.iand, 1) := oq_126 (byt chJ6_bitCount_0f7a4_0 14 rfl)
theorem dJ6_bitCount_0f7a4_15 : decode cJ6_bitCount_0f7a4 15 = .ok (.iload_n 0, 1) := oq_26 (byt chJ6_bitCount_0f7a4_0 15 rfl)
theorem dJ6_bitCount_0f7a4_16 : decode cJ6_bitCount_0f7a4 16 = .ok (.iconst 2, 1) := oq_5 (byt chJ6_bitCount_0f7a4_1 0 rfl)
theorem dJ6_bitCount_0f7a4_17 : decode cJ6_bitCount_0f7a4 17 = .ok (.iushr, 1) := oq_124 (byt chJ6_bitCount_0f7a4_1 1 rfl)
theorem dJ6_bitCount_0f7a4_18 : decode cJ6_bitCount_0f7a4 18 = .ok (.ldc_w 266, 3) := oq_19 (byt chJ6_bitCount_0f7a4_1 2 rfl) (byt chJ6_bitCount_0f7a4_1 3 rfl) (byt chJ6_bitCount_0f7a4_1 4 rfl) rfl
theorem dJ6_bitCount_0f7a4_21 : decode cJ6_bitCount_0f7a4 21 = .ok (.iand, 1) := oq_126 (byt chJ6_bitCount_0f7a4_1 5 rfl)
theorem dJ6_bitCount_0f7a4_22 : decode cJ6_bitCount_0f7a4 22 = .ok (.iadd, 1) := oq_96 (byt chJ6_bitCount_0f7a4_1 6 rfl)
theorem dJ6_bitCount_0f7a4_23 : decode cJ6_bitCount_0f7a4 23 = .ok (.istore_n 0, 1) := oq_59 (byt chJ6_bitCount_0f7a4_1 7 rfl)
theorem dJ6_bitCount_0f7a4_24 : decode cJ6_bitCount_0f7a4 24 = .ok (.iload_n 0, 1) := oq_26 (byt chJ6_bitCount_0f7a4_1 8 rfl)
theorem dJ6_bitCount_0f7a4_25 : decode cJ6_bitCount_0f7a4 25 = .ok (.iload_n 0, 1) := oq_26 (byt chJ6_bitCount_0f7a4_1 9 rfl)
theorem dJ6_bitCount_0f7a4_26 : decode cJ6_bitCount_0f7a4 26 = .ok (.iconst 4, 1) := oq_7 (byt chJ6_bitCount_0f7a4_1 10 rfl)
theorem dJ6_bitCount_0f7a4_27 : decode cJ6_bitCount_0f7a4 27 = .ok (.iushr, 1) := oq_124 (byt chJ6_bitCount_0f7a4_1 11 rfl)
theorem dJ6_bitCount_0f7a4_28 : decode cJ6_bitCount_0f7a4 28 = .ok (.iadd, 1) := oq_96 (byt chJ6_bitCount_0f7a4_1 12 rfl)
theorem dJ6_bitCount_0f7a4_29 : decode cJ6_bitCount_0f7a4 29 = .ok (.ldc_w 267, 3) := oq_19 (byt chJ6_bitCount_0f7a4_1 13 rfl) (byt chJ6_bitCount_0f7a4_1 14 rfl) (byt chJ6_bitCount_0f7a4_1 15 rfl) rfl
theorem dJ6_bitCount_0f7a4_32 : decode cJ6_bitCount_0f7a4 32 = .ok (.iand, 1) := oq_126 (byt chJ6_bitCount_0f7a4_2 0 rfl)
theorem dJ6_bitCount_0f7a4_33 : decode cJ6_bitCount_0f7a4 33 = .ok (.istore_n 0, 1) := oq_59 (byt chJ6_bitCount_0f7a4_2 1 rfl)
theorem dJ6_bitCount_0f7a4_34 : decode cJ6_bitCount_0f7a4 34 = .ok (.iload_n 0, 1) := oq_26 (byt chJ6_bitCount_0f7a4_2 2 rfl)
theorem dJ6_bitCount_0f7a4_35 : decode cJ6_bitCount_0f7a4 35 = .ok (.iload_n 0, 1) := oq_26 (byt chJ6_bitCount_0f7a4_2 3 rfl)
theorem dJ6_bitCount_0f7a4_36 : decode cJ6_bitCount_0f7a4 36 = .ok (.bipush 8, 2) := oq_16 (byt chJ6_bitCount_0f7a4_2 4 rfl) (byt chJ6_bitCount_0f7a4_2 5 rfl) rfl
theorem dJ6_bitCount_0f7a4_38 : decode cJ6_bitCount_0f7a4 38 = .ok (.iushr, 1) := oq_124 (byt chJ6_bitCount_0f7a4_2 6 rfl)
theorem dJ6_bitCount_0f7a4_39 : decode cJ6_bitCount_0f7a4 39 = .ok (.iadd, 1) := oq_96 (byt chJ6_bitCount_0f7a4_2 7 rfl)
theorem dJ6_bitCount_0f7a4_40 : decode cJ6_bitCount_0f7a4 40 = .ok (.istore_n 0, 1) := oq_59 (byt chJ6_bitCount_0f7a4_2 8 rfl)
theorem dJ6_bitCount_0f7a4_41 : decode cJ6_bitCount_0f7a4 41 = .ok (.iload_n 0, 1) := oq_26 (byt chJ6_bitCount_0f7a4_2 9 rfl)
theorem dJ6_bitCount_0f7a4_42 : decode cJ6_bitCount_0f7a4 42 = .ok (.iload_n 0, 1) := oq_26 (byt chJ6_bitCount_0f7a4_2 10 rfl)
theorem dJ6_bitCount_0f7a4_43 : decode cJ6_bitCount_0f7a4 43 = .ok (.bipush 16, 2) := oq_16 (byt chJ6_bitCount_0f7a4_2 11 rfl) (byt chJ6_bitCount_0f7a4_2 12 rfl) rfl
theorem dJ6_bitCount_0f7a4_45 : decode cJ6_bitCount_0f7a4 45 = .ok (.iushr, 1) := oq_124 (byt chJ6_bitCount_0f7a4_2 13 rfl)
theorem dJ6_bitCount_0f7a4_46 : decode cJ6_bitCount_0f7a4 46 = .ok (.iadd, 1) := oq_96 (byt chJ6_bitCount_0f7a4_2 14 rfl)
theorem dJ6_bitCount_0f7a4_47 : decode cJ6_bitCount_0f7a4 47 = .ok (.istore_n 0, 1) := oq_59 (byt chJ6_bitCount_0f7a4_2 15 rfl)
theorem dJ6_bitCount_0f7a4_48 : decode cJ6_bitCount_0f7a4 48 = .ok (.iload_n 0, 1) := oq_26 (byt chJ6_bitCount_0f7a4_3 0 rfl)
theorem dJ6_bitCount_0f7a4_49 : decode cJ6_bitCount_0f7a4 49 = .ok (.bipush 63, 2) := oq_16 (byt chJ6_bitCount_0f7a4_3 1 rfl) (byt chJ6_bitCount_0f7a4_3 2 rfl) rfl
theorem dJ6_bitCount_0f7a4_51 : decode cJ6_bitCount_0f7a4 51 = .ok (.iand, 1) := oq_126 (byt chJ6_bitCount_0f7a4_3 3 rfl)
theorem dJ6_bitCount_0f7a4_52 : decode cJ6_bitCount_0f7a4 52 = .ok (.ireturn, 1) := oq_172 (byt chJ6_bitCount_0f7a4_3 4 rfl)
abbrev mJ6_bitCount_0f7a4 : MI := (yJ6_bitCount_0f7a4, cJ6_bitCount_0f7a4, 1, (some .int), noE)
theorem okJ6_bitCount_0f7a4 : cok mJ6_bitCount_0f7a4 1 := ⟨tw1148, tw19, by decide, by decide, by decide, by decide +kernel⟩
def fJ6_bitCount_0f7a4 (M : Mem) (a0 : Int) : Option Int :=
  some (bAnd (w32 ((w32 ((bAnd (w32 ((w32 ((bAnd (w32 (a0 - (bAnd (bUshr a0 1) 1431655765))) 858993459) + (bAnd (bUshr (w32 (a0 - (bAnd (bUshr a0 1) 1431655765))) 2) 858993459))) + (bUshr (w32 ((bAnd (w32 (a0 - (bAnd (bUshr a0 1) 1431655765))) 858993459) + (bAnd (bUshr (w32 (a0 - (bAnd (bUshr a0 1) 1431655765))) 2) 858993459))) 4))) 252645135) + (bUshr (bAnd (w32 ((w32 ((bAnd (w32 (a0 - (bAnd (bUshr a0 1) 1431655765))) 858993459) + (bAnd (bUshr (w32 (a0 - (bAnd (bUshr a0 1) 1431655765))) 2) 858993459))) + (bUshr (w32 ((bAnd (w32 (a0 - (bAnd (bUshr a0 1) 1431655765))) 858993459) + (bAnd (bUshr (w32 (a0 - (bAnd (bUshr a0 1) 1431655765))) 2) 858993459))) 4))) 252645135) 8))) + (bUshr (w32 ((bAnd (w32 ((w32 ((bAnd (w32 (a0 - (bAnd (bUshr a0 1) 1431655765))) 858993459) + (bAnd (bUshr (w32 (a0 - (bAnd (bUshr a0 1) 1431655765))) 2) 858993459))) + (bUshr (w32 ((bAnd (w32 (a0 - (bAnd (bUshr a0 1) 1431655765))) 858993459) + (bAnd (bUshr (w32 (a0 - (bAnd (bUshr a0 1) 1431655765))) 2) 858993459))) 4))) 252645135) + (bUshr (bAnd (w32 ((w32 ((bAnd (w32 (a0 - (bAnd (bUshr a0 1) 1431655765))) 858993459) + (bAnd (bUshr (w32 (a0 - (bAnd (bUshr a0 1) 1431655765))) 2) 858993459))) + (bUshr (w32 ((bAnd (w32 (a0 - (bAnd (bUshr a0 1) 1431655765))) 858993459) + (bAnd (bUshr (w32 (a0 - (bAnd (bUshr a0 1) 1431655765))) 2) 858993459))) 4))) 252645135) 8))) 16))) 63)
set_option maxRecDepth 100000 in
set_option maxHeartbeats 4000000 in
theorem kJ6_bitCount_0f7a4 (d : Nat) (hd : 0 ≤ d) (M : Mem) (a0 : Int) : Ct mJ6_bitCount_0f7a4 d 0 0 [pI a0] M (dI M) (fJ6_bitCount_0f7a4 M a0) := by
  refine Ct.of 0 (fun _ _ _ => trivial) (by decide +kernel) rfl ?_
  unfold fJ6_bitCount_0f7a4
  refine v_iload_n dJ6_bitCount_0f7a4_0 rfl ?_
  refine v_iload_n dJ6_bitCount_0f7a4_1 rfl ?_
  refine v_iconst dJ6_bitCount_0f7a4_2 (by decide) ?_
  refine v_iushr dJ6_bitCount_0f7a4_3 ?_
  refine v_ldcw (n := 1431655765) dJ6_bitCount_0f7a4_4 (by decide) tw1149 ?_
  refine v_iand dJ6_bitCount_0f7a4_7 ?_
  refine v_isub dJ6_bitCount_0f7a4_8 ?_
  refine v_istore_n (ls' := [some (pI (w32 (a0 - (bAnd (bUshr a0 1) 1431655765))))]) dJ6_bitCount_0f7a4_9 (by decide) rfl ?_
  refine v_iload_n dJ6_bitCount_0f7a4_10 rfl ?_
  refine v_ldcw (n := 858993459) dJ6_bitCount_0f7a4_11 (by decide) tw1150 ?_
  refine v_iand dJ6_bitCount_0f7a4_14 ?_
  refine v_iload_n dJ6_bitCount_0f7a4_15 rfl ?_
  refine v_iconst dJ6_bitCount_0f7a4_16 (by decide) ?_
  refine v_iushr dJ6_bitCount_0f7a4_17 ?_
  refine v_ldcw (n := 858993459) dJ6_bitCount_0f7a4_18 (by decide) tw1150 ?_
  refine v_iand dJ6_bitCount_0f7a4_21 ?_
  refine v_iadd dJ6_bitCount_0f7a4_22 ?_
  refine v_istore_n (ls' := [some (pI (w32 ((bAnd (w32 (a0 - (bAnd (bUshr a0 1) 1431655765))) 858993459) + (bAnd (bUshr (w32 (a0 - (bAnd (bUshr a0 1) 1431655765))) 2) 858993459))))]) dJ6_bitCount_0f7a4_23 (by decide) rfl ?_
  refine v_iload_n dJ6_bitCount_0f7a4_24 rfl ?_
  refine v_iload_n dJ6_bitCount_0f7a4_25 rfl ?_
  refine v_iconst dJ6_bitCount_0f7a4_26 (by decide) ?_
  refine v_iushr dJ6_bitCount_0f7a4_27 ?_
  refine v_iadd dJ6_bitCount_0f7a4_28 ?_
  refine v_ldcw (n := 252645135) dJ6_bitCount_0f7a4_29 (by decide) tw1151 ?_
  refine v_iand dJ6_bitCount_0f7a4_32 ?_
  refine v_istore_n (ls' := [some (pI (bAnd (w32 ((w32 ((bAnd (w32 (a0 - (bAnd (bUshr a0 1) 1431655765))) 858993459) + (bAnd (bUshr (w32 (a0 - (bAnd (bUshr a0 1) 1431655765))) 2) 858993459))) + (bUshr (w32 ((bAnd (w32 (a0 - (bAnd (bUshr a0 1) 1431655765))) 858993459) + (bAnd (bUshr (w32 (a0 - (bAnd (bUshr a0 1) 1431655765))) 2) 858993459))) 4))) 252645135))]) dJ6_bitCount_0f7a4_33 (by decide) rfl ?_
  refine v_iload_n dJ6_bitCount_0f7a4_34 rfl ?_
  refine v_iload_n dJ6_bitCount_0f7a4_35 rfl ?_
  refine v_bipush dJ6_bitCount_0f7a4_36 (by decide) ?_
  refine v_iushr dJ6_bitCount_0f7a4_38 ?_
  refine v_iadd dJ6_bitCount_0f7a4_39 ?_
  refine v_istore_n (ls' := [some (pI (w32 ((bAnd (w32 ((w32 ((bAnd (w32 (a0 - (bAnd (bUshr a0 1) 1431655765))) 858993459) + (bAnd (bUshr (w32 (a0 - (bAnd (bUshr a0 1) 1431655765))) 2) 858993459))) + (bUshr (w32 ((bAnd (w32 (a0 - (bAnd (bUshr a0 1) 1431655765))) 858993459) + (bAnd (bUshr (w32 (a0 - (bAnd (bUshr a0 1) 1431655765))) 2) 858993459))) 4))) 252645135) + (bUshr (bAnd (w32 ((w32 ((bAnd (w32 (a0 - (bAnd (bUshr a0 1) 1431655765))) 858993459) + (bAnd (bUshr (w32 (a0 - (bAnd (bUshr a0 1) 1431655765))) 2) 858993459))) + (bUshr (w32 ((bAnd (w32 (a0 - (bAnd (bUshr a0 1) 1431655765))) 858993459) + (bAnd (bUshr (w32 (a0 - (bAnd (bUshr a0 1) 1431655765))) 2) 858993459))) 4))) 252645135) 8))))]) dJ6_bitCount_0f7a4_40 (by decide) rfl ?_
  refine v_iload_n dJ6_bitCount_0f7a4_41 rfl ?_
  refine v_iload_n dJ6_bitCount_0f7a4_42 rfl ?_
  refine v_bipush dJ6_bitCount_0f7a4_43 (by decide) ?_
  refine v_iushr dJ6_bitCount_0f7a4_45 ?_
  refine v_iadd dJ6_bitCount_0f7a4_46 ?_
  refine v_istore_n (ls' := [some (pI (w32 ((w32 ((bAnd (w32 ((w32 ((bAnd (w32 (a0 - (bAnd (bUshr a0 1) 1431655765))) 858993459) + (bAnd (bUshr (w32 (a0 - (bAnd (bUshr a0 1) 1431655765))) 2) 858993459))) + (bUshr (w32 ((bAnd (w32 (a0 - (bAnd (bUshr a0 1) 1431655765))) 858993459) + (bAnd (bUshr (w32 (a0 - (bAnd (bUshr a0 1) 1431655765))) 2) 858993459))) 4))) 252645135) + (bUshr (bAnd (w32 ((w32 ((bAnd (w32 (a0 - (bAnd (bUshr a0 1) 1431655765))) 858993459) + (bAnd (bUshr (w32 (a0 - (bAnd (bUshr a0 1) 1431655765))) 2) 858993459))) + (bUshr (w32 ((bAnd (w32 (a0 - (bAnd (bUshr a0 1) 1431655765))) 858993459) + (bAnd (bUshr (w32 (a0 - (bAnd (bUshr a0 1) 1431655765))) 2) 858993459))) 4))) 252645135) 8))) + (bUshr (w32 ((bAnd (w32 ((w32 ((bAnd (w32 (a0 - (bAnd (bUshr a0 1) 1431655765))) 858993459) + (bAnd (bUshr (w32 (a0 - (bAnd (bUshr a0 1) 1431655765))) 2) 858993459))) + (bUshr (w32 ((bAnd (w32 (a0 - (bAnd (bUshr a0 1) 1431655765))) 858993459) + (bAnd (bUshr (w32 (a0 - (bAnd (bUshr a0 1) 1431655765))) 2) 858993459))) 4))) 252645135) + (bUshr (bAnd (w32 ((w32 ((bAnd (w32 (a0 - (bAnd (bUshr a0 1) 1431655765))) 858993459) + (bAnd (bUshr (w32 (a0 - (bAnd (bUshr a0 1) 1431655765))) 2) 858993459))) + (bUshr (w32 ((bAnd (w32 (a0 - (bAnd (bUshr a0 1) 1431655765))) 858993459) + (bAnd (bUshr (w32 (a0 - (bAnd (bUshr a0 1) 1431655765))) 2) 858993459))) 4))) 252645135) 8))) 16))))]) dJ6_bitCount_0f7a4_47 (by decide) rfl ?_
  refine v_iload_n dJ6_bitCount_0f7a4_48 rfl ?_
  refine v_bipush dJ6_bitCount_0f7a4_49 (by decide) ?_
  refine v_iand dJ6_bitCount_0f7a4_51 ?_
  exact v_ireturn dJ6_bitCount_0f7a4_52 rfl rfl
theorem chX0_init_0 : (cX0_init.data.toList.drop 0).take 16 = [42, 183, 0, 3, 42, 5, 181, 0, 9, 42, 16, 20, 181, 0, 15, 42] := by decide +kernel
theorem chX0_init_1 : (cX0_init.data.toList.drop 16).take 16 = [3, 181, 0, 18, 177] := by decide +kernel
theorem dX0_init_0 : decode cX0_init 0 = .ok (.aload_n 0, 1) := oq_42 (byt chX0_init_0 0 rfl)
theorem dX0_init_1 : decode cX0_init 1 = .ok (.invokespecial 3, 3) := oq_183 (byt chX0_init_0 1 rfl) (byt chX0_init_0 2 rfl) (byt chX0_init_0 3 rfl) rfl
theorem dX0_init_4 : decode cX0_init 4 = .ok (.aload_n 0, 1) := oq_42 (byt chX0_init_0 4 rfl)
theorem dX0_init_5 : decode cX0_init 5 = .ok (.iconst 2, 1) := oq_5 (byt chX0_init_0 5 rfl)
theorem dX0_init_6 : decode cX0_init 6 = .ok (.putfield 9, 3) := oq_181 (byt chX0_init_0 6 rfl) (byt chX0_init_0 7 rfl) (byt chX0_init_0 8 rfl) rfl
theorem dX0_init_9 : decode cX0_init 9 = .ok (.aload_n 0, 1) := oq_42 (byt chX0_init_0 9 rfl)
theorem dX0_init_10 : decode cX0_init 10 = .ok (.bipush 20, 2) := oq_16 (byt chX0_init_0 10 rfl) (byt chX0_init_0 11 rfl) rfl
theorem dX0_init_12 : decode cX0_init 12 = .ok (.putfield 15, 3) := oq_181 (byt chX0_init_0 12 rfl) (byt chX0_init_0 13 rfl) (byt chX0_init_0 14 rfl) rfl
theorem dX0_init_15 : decode cX0_init 15 = .ok (.aload_n 0, 1) := oq_42 (byt chX0_init_0 15 rfl)
theorem dX0_init_16 : decode cX0_init 16 = .ok (.iconst 0, 1) := oq_3 (byt chX0_init_1 0 rfl)
theorem dX0_init_17 : decode cX0_init 17 = .ok (.putfield 18, 3) := oq_181 (byt chX0_init_1 1 rfl) (byt chX0_init_1 2 rfl) (byt chX0_init_1 3 rfl) rfl
theorem dX0_init_20 : decode cX0_init 20 = .ok (.return_, 1) := oq_177 (byt chX0_init_1 4 rfl)
abbrev mX0_init : MI := (yX0_init, cX0_init, 1, none, noE)
theorem okX0_init : cok mX0_init 0 := ⟨tw125, tw4, by decide, by decide, by decide, by decide +kernel⟩
def fX0_init (M : Mem) (a0 : Int) : Option Mem :=
  if (0 : Int) ≤ a0 then if M.2.1 a0 = 0 then bM (mst M a0 0 2) fun M3 => bM (mst M3 a0 1 20) fun M5 => bM (mst M5 a0 2 0) fun M7 => some M7 else none else none
set_option maxRecDepth 100000 in
set_option maxHeartbeats 4000000 in
theorem kX0_init (d : Nat) (hd : 1 ≤ d) (M : Mem) (a0 : Int) : Ct mX0_init d 0 0 [pA a0] M dV (fX0_init M a0) := by
  obtain ⟨d, rfl⟩ : ∃ k, d = k + 1 := ⟨d - 1, by omega⟩
  refine Ct.of 0 (fun _ _ _ => trivial) (by decide +kernel) rfl ?_
  unfold fX0_init
  refine v_aload_n dX0_init_0 rfl ?_
  refine v_if (fun h1 => ?_)
  refine v_objInit (mi := mX0_init) h1 tw126 tw26 tw27 (Nat.le_of_ble_eq_true rfl) dX0_init_1 ?_
  refine v_aload_n dX0_init_4 rfl ?_
  refine v_iconst dX0_init_5 (by decide) ?_
  refine v_if (fun h2 => ?_)
  refine v_put (x := 2) 0 0 rfl inX0 (by decide) tw127 (Or.inl rfl) rfl dX0_init_6 h2 rfl id ?_
  refine v_bM (fun M3 e4 => ?_)
  refine v_aload_n dX0_init_9 rfl ?_
  refine v_bipush dX0_init_10 (by decide) ?_
  refine v_put (x := 20) 0 1 rfl inX0 (by decide) tw130 (Or.inl rfl) rfl dX0_init_12 (by rw [e4]; exact h2) rfl id ?_
  refine v_bM (fun M5 e6 => ?_)
  refine v_aload_n dX0_init_15 rfl ?_
  refine v_iconst dX0_init_16 (by decide) ?_
  refine v_put (x := 0) 0 2 rfl inX0 (by decide) tw134 (Or.inl rfl) rfl dX0_init_17 (by rw [e6, e4]; exact h2) rfl id ?_
  refine v_bM (fun M7 e8 => ?_)
  exact v_return dX0_init_20 rfl rfl
theorem chX0_clear_0 : (cX0_clear.data.toList.drop 0).take 16 = [42, 5, 181, 0, 9, 42, 16, 20, 181, 0, 15, 42, 3, 181, 0, 18] := by decide +kernel
theorem chX0_clear_1 : (cX0_clear.data.toList.drop 16).take 16 = [177] := by decide +kernel
theorem dX0_clear_0 : decode cX0_clear 0 = .ok (.aload_n 0, 1) := oq_42 (byt chX0_clear_0 0 rfl)
theorem dX0_clear_1 : decode cX0_clear 1 = .ok (.iconst 2, 1) := oq_5 (byt chX0_clear_0 1 rfl)
theorem dX0_clear_2 : decode cX0_clear 2 = .ok (.putfield 9, 3) := oq_181 (byt chX0_clear_0 2 rfl) (byt chX0_clear_0 3 rfl) (byt chX0_clear_0 4 rfl) rfl
theorem dX0_clear_5 : decode cX0_clear 5 = .ok (.aload_n 0, 1) := oq_42 (byt chX0_clear_0 5 rfl)
theorem dX0_clear_6 : decode cX0_clear 6 = .ok (.bipush 20, 2) := oq_16 (byt chX0_clear_0 6 rfl) (byt chX0_clear_0 7 rfl) rfl
theorem dX0_clear_8 : decode cX0_clear 8 = .ok (.putfield 15, 3) := oq_181 (byt chX0_clear_0 8 rfl) (byt chX0_clear_0 9 rfl) (byt chX0_clear_0 10 rfl) rfl
theorem dX0_clear_11 : decode cX0_clear 11 = .ok (.aload_n 0, 1) := oq_42 (byt chX0_clear_0 11 rfl)
theorem dX0_clear_12 : decode cX0_clear 12 = .ok (.iconst 0, 1) := oq_3 (byt chX0_clear_0 12 rfl)
theorem dX0_clear_13 : decode cX0_clear 13 = .ok (.putfield 18, 3) := oq_181 (byt chX0_clear_0 13 rfl) (byt chX0_clear_0 14 rfl) (byt chX0_clear_0 15 rfl) rfl
theorem dX0_clear_16 : decode cX0_clear 16 = .ok (.return_, 1) := oq_177 (byt chX0_clear_1 0 rfl)
abbrev mX0_clear : MI := (yX0_clear, cX0_clear, 1, none, noE)
theorem okX0_clear : cok mX0_clear 0 := ⟨tw479, tw4, by decide, by decide, by decide, by decide +kernel⟩
def fX0_clear (M : Mem) (a0 : Int) : Option Mem :=
  if M.2.1 a0 = 0 then bM (mst M a0 0 2) fun M2 => bM (mst M2 a0 1 20) fun M4 => bM (mst M4 a0 2 0) fun M6 => some M6 else none
set_option maxRecDepth 100000 in
set_option maxHeartbeats 4000000 in
theorem kX0_clear (d : Nat) (hd : 0 ≤ d) (M : Mem) (a0 : Int) : Ct mX0_clear d 0 0 [pA a0] M dV (fX0_clear M a0) := by
  refine Ct.of 0 (fun _ _ _ => trivial) (by decide +kernel) rfl ?_
  unfold fX0_clear
  refine v_aload_n dX0_clear_0 rfl ?_
  refine v_iconst dX0_clear_1 (by decide) ?_
  refine v_if (fun h1 => ?_)
  refine v_put (x := 2) 0 0 rfl inX0 (by decide) tw127 (Or.inl rfl) rfl dX0_clear_2 h1 rfl id ?_
  refine v_bM (fun M2 e3 => ?_)
  refine v_aload_n dX0_clear_5 rfl ?_
  refine v_bipush dX0_clear_6 (by decide) ?_
  refine v_put (x := 20) 0 1 rfl inX0 (by decide) tw130 (Or.inl rfl) rfl dX0_clear_8 (by rw [e3]; exact h1) rfl id ?_
  refine v_bM (fun M4 e5 => ?_)
  refine v_aload_n dX0_clear_11 rfl ?_
  refine v_iconst dX0_clear_12 (by decide) ?_
  refine v_put (x := 0) 0 2 rfl inX0 (by decide) tw134 (Or.inl rfl) rfl dX0_clear_13 (by rw [e5, e3]; exact h1) rfl id ?_
  refine v_bM (fun M6 e7 => ?_)
  exact v_return dX0_clear_16 rfl rfl
theorem chX0_copy_0 : (cX0_copy.data.toList.drop 0).take 16 = [42, 43, 180, 0, 9, 181, 0, 9, 42, 43, 180, 0, 15, 181, 0, 15] := by decide +kernel
theorem chX0_copy_1 : (cX0_copy.data.toList.drop 16).take 16 = [42, 43, 180, 0, 18, 181, 0, 18, 177] := by decide +kernel
theorem dX0_copy_0 : decode cX0_copy 0 = .ok (.aload_n 0, 1) := oq_42 (byt chX0_copy_0 0 rfl)
theorem dX0_copy_1 : decode cX0_copy 1 = .ok (.aload_n 1, 1) := oq_43 (byt chX0_copy_0 1 rfl)
theorem dX0_copy_2 : decode cX0_copy 2 = .ok (.getfield 9, 3) := oq_180 (byt chX0_copy_0 2 rfl) (byt chX0_copy_0 3 rfl) (byt chX0_copy_0 4 rfl) rfl
theorem dX0_copy_5 : decode cX0_copy 5 = .ok (.putfield 9, 3) := oq_181 (byt chX0_copy_0 5 rfl) (byt chX0_copy_0 6 rfl) (byt chX0_copy_0 7 rfl) rfl
theorem dX0_copy_8 : decode cX0_copy 8 = .ok (.aload_n 0, 1) := oq_42 (byt chX0_copy_0 8 rfl)
theorem dX0_copy_9 : decode cX0_copy 9 = .ok (.aload_n 1, 1) := oq_43 (byt chX0_copy_0 9 rfl)
theorem dX0_copy_10 : decode cX0_copy 10 = .ok (.getfield 15, 3) := oq_180 (byt chX0_copy_0 10 rfl) (byt chX0_copy_0 11 rfl) (byt chX0_copy_0 12 rfl) rfl
theorem dX0_copy_13 : decode cX0_copy 13 = .ok (.putfield 15, 3) := oq_181 (byt chX0_copy_0 13 rfl) (byt chX0_copy_0 14 rfl) (byt chX0_copy_0 15 rfl) rfl
theorem dX0_copy_16 : decode cX0_copy 16 = .ok (.aload_n 0, 1) := oq_42 (byt chX0_copy_1 0 rfl)
theorem dX0_copy_17 : decode cX0_copy 17 = .ok (.aload_n 1, 1) := oq_43 (byt chX0_copy_1 1 rfl)
theorem dX0_copy_18 : decode cX0_copy 18 = .ok (.getfield 18, 3) := oq_180 (byt chX0_copy_1 2 rfl) (byt chX0_copy_1 3 rfl) (byt chX0_copy_1 4 rfl) rfl
theorem dX0_copy_21 : decode cX0_copy 21 = .ok (.putfield 18, 3) := oq_181 (byt chX0_copy_1 5 rfl) (byt chX0_copy_1 6 rfl) (byt chX0_copy_1 7 rfl) rfl
theorem dX0_copy_24 : decode cX0_copy 24 = .ok (.return_, 1) := oq_177 (byt chX0_copy_1 8 rfl)
abbrev mX0_copy : MI := (yX0_copy, cX0_copy, 2, none, noE)
theorem okX0_copy : cok mX0_copy 1 := ⟨tw660, tw4, by decide, by decide, by decide, by decide +kernel⟩
def fX0_copy (M : Mem) (a0 a1 : Int) : Option Mem :=
  if M.2.1 a1 = 0 then if M.2.1 a0 = 0 then bM (mst M a0 0 (M.1 a1 0)) fun M3 => bM (mst M3 a0 1 (M3.1 a1 1)) fun M5 => bM (mst M5 a0 2 (M5.1 a1 2)) fun M7 => some M7 else none else none
set_option maxRecDepth 100000 in
set_option maxHeartbeats 4000000 in
theorem kX0_copy (d : Nat) (hd : 0 ≤ d) (M : Mem) (a0 a1 : Int) : Ct mX0_copy d 0 0 [pA a0, pA a1] M dV (fX0_copy M a0 a1) := by
  refine Ct.of 0 (fun _ _ _ => trivial) (by decide +kernel) rfl ?_
  unfold fX0_copy
  refine v_aload_n dX0_copy_0 rfl ?_
  refine v_aload_n dX0_copy_1 rfl ?_
  refine v_if (fun h1 => ?_)
  refine v_get (v := pI (M.1 a1 0)) 0 0 rfl inX0 (by decide) tw127 dX0_copy_2 h1 rfl ?_
  refine v_if (fun h2 => ?_)
  refine v_put (x := M.1 a1 0) 0 0 rfl inX0 (by decide) tw127 (Or.inl rfl) rfl dX0_copy_5 h2 rfl id ?_
  refine v_bM (fun M3 e4 => ?_)
  refine v_aload_n dX0_copy_8 rfl ?_
  refine v_aload_n dX0_copy_9 rfl ?_
  refine v_get (v := pI (M3.1 a1 1)) 0 1 rfl inX0 (by decide) tw130 dX0_copy_10 (by rw [e4]; exact h1) rfl ?_
  refine v_put (x := M3.1 a1 1) 0 1 rfl inX0 (by decide) tw130 (Or.inl rfl) rfl dX0_copy_13 (by rw [e4]; exact h2) rfl id ?_
  refine v_bM (fun M5 e6 => ?_)
  refine v_aload_n dX0_copy_16 rfl ?_
  refine v_aload_n dX0_copy_17 rfl ?_
  refine v_get (v := pI (M5.1 a1 2)) 0 2 rfl inX0 (by decide) tw134 dX0_copy_18 (by rw [e6, e4]; exact h1) rfl ?_
  refine v_put (x := M5.1 a1 2) 0 2 rfl inX0 (by decide) tw134 (Or.inl rfl) rfl dX0_copy_21 (by rw [e6, e4]; exact h2) rfl id ?_
  refine v_bM (fun M7 e8 => ?_)
  exact v_return dX0_copy_24 rfl rfl
theorem chX0_counts_0 : (cX0_counts.data.toList.drop 0).take 16 = [27, 155, 0, 22, 27, 16, 20, 162, 0, 16, 4, 42, 180, 0, 18, 27] := by decide +kernel
theorem chX0_counts_1 : (cX0_counts.data.toList.drop 16).take 16 = [122, 4, 126, 96, 167, 0, 4, 4, 172] := by decide +kernel
theorem dX0_counts_0 : decode cX0_counts 0 = .ok (.iload_n 1, 1) := oq_27 (byt chX0_counts_0 0 rfl)
theorem dX0_counts_1 : decode cX0_counts 1 = .ok (.ifCond .lt 22, 3) := oq_155 (byt chX0_counts_0 1 rfl) (byt chX0_counts_0 2 rfl) (byt chX0_counts_0 3 rfl) (by decide +kernel)
theorem dX0_counts_4 : decode cX0_counts 4 = .ok (.iload_n 1, 1) := oq_27 (byt chX0_counts_0 4 rfl)
theorem dX0_counts_5 : decode cX0_counts 5 = .ok (.bipush 20, 2) := oq_16 (byt chX0_counts_0 5 rfl) (byt chX0_counts_0 6 rfl) rfl
theorem dX0_counts_7 : decode cX0_counts 7 = .ok (.if_icmp .ge 16, 3) := oq_162 (byt chX0_counts_0 7 rfl) (byt chX0_counts_0 8 rfl) (byt chX0_counts_0 9 rfl) (by decide +kernel)
theorem dX0_counts_10 : decode cX0_counts 10 = .ok (.iconst 1, 1) := oq_4 (byt chX0_counts_0 10 rfl)
theorem dX0_counts_11 : decode cX0_counts 11 = .ok (.aload_n 0, 1) := oq_42 (byt chX0_counts_0 11 rfl)
theorem dX0_counts_12 : decode cX0_counts 12 = .ok (.getfield 18, 3) := oq_180 (byt chX0_counts_0 12 rfl) (byt chX0_counts_0 13 rfl) (byt chX0_counts_0 14 rfl) rfl
theorem dX0_counts_15 : decode cX0_counts 15 = .ok (.iload_n 1, 1) := oq_27 (byt chX0_counts_0 15 rfl)
theorem dX0_counts_16 : decode cX0_counts 16 = .ok (.ishr, 1) := oq_122 (byt chX0_counts_1 0 rfl)
theorem dX0_counts_17 : decode cX0_counts 17 = .ok (.iconst 1, 1) := oq_4 (byt chX0_counts_1 1 rfl)
theorem dX0_counts_18 : decode cX0_counts 18 = .ok (.iand, 1) := oq_126 (byt chX0_counts_1 2 rfl)
theorem dX0_counts_19 : decode cX0_counts 19 = .ok (.iadd, 1) := oq_96 (byt chX0_counts_1 3 rfl)
theorem dX0_counts_20 : decode cX0_counts 20 = .ok (.goto 4, 3) := oq_167 (byt chX0_counts_1 4 rfl) (byt chX0_counts_1 5 rfl) (byt chX0_counts_1 6 rfl) (by decide +kernel)
theorem dX0_counts_23 : decode cX0_counts 23 = .ok (.iconst 1, 1) := oq_4 (byt chX0_counts_1 7 rfl)
theorem dX0_counts_24 : decode cX0_counts 24 = .ok (.ireturn, 1) := oq_172 (byt chX0_counts_1 8 rfl)
abbrev mX0_counts : MI := (yX0_counts, cX0_counts, 2, (some .int), noE)
theorem okX0_counts : cok mX0_counts 1 := ⟨tw721, tw4, by decide, by decide, by decide, by decide +kernel⟩
def fX0_counts (M : Mem) (a0 a1 : Int) : Option Int :=
  if a1 < 0 then (some 1) else (if a1 < 20 then (if M.2.1 a0 = 0 then some (w32 (1 + (bAnd (bShr (M.1 a0 2) a1) 1))) else none) else (some 1))
set_option maxRecDepth 100000 in
set_option maxHeartbeats 4000000 in
theorem kX0_counts (d : Nat) (hd : 0 ≤ d) (M : Mem) (a0 a1 : Int) : Ct mX0_counts d 0 0 [pA a0, pI a1] M (dI M) (fX0_counts M a0 a1) := by
  refine Ct.of 0 (fun _ _ _ => trivial) (by decide +kernel) rfl ?_
  unfold fX0_counts
  refine v_iload_n dX0_counts_0 rfl ?_
  refine v_if_lt (tgt := 23) dX0_counts_1 (by decide) (fun c1 => ?_) (fun c1 => ?_)
  · refine v_iconst dX0_counts_23 (by decide) ?_
    exact v_ireturn dX0_counts_24 rfl rfl
  · refine v_iload_n dX0_counts_4 rfl ?_
    refine v_bipush dX0_counts_5 (by decide) ?_
    refine v_icmp_ge (tgt := 23) dX0_counts_7 (by decide) (fun c2 => ?_) (fun c2 => ?_)
    · refine v_iconst dX0_counts_10 (by decide) ?_
      refine v_aload_n dX0_counts_11 rfl ?_
      refine v_if (fun h3 => ?_)
      refine v_get (v := pI (M.1 a0 2)) 0 2 rfl inX0 (by decide) tw134 dX0_counts_12 h3 rfl ?_
      refine v_iload_n dX0_counts_15 rfl ?_
      refine v_ishr dX0_counts_16 ?_
      refine v_iconst dX0_counts_17 (by decide) ?_
      refine v_iand dX0_counts_18 ?_
      refine v_iadd dX0_counts_19 ?_
      refine v_goto (tgt := 24) dX0_counts_20 (by decide) ?_
      exact v_ireturn dX0_counts_24 rfl rfl
    · refine v_iconst dX0_counts_23 (by decide) ?_
      exact v_ireturn dX0_counts_24 rfl rfl
theorem chX0_dueOf_0 : (cX0_dueOf.data.toList.drop 0).take 16 = [42, 180, 0, 9, 158, 0, 12, 27, 42, 180, 0, 9, 108, 167, 0, 4] := by decide +kernel
theorem chX0_dueOf_1 : (cX0_dueOf.data.toList.drop 16).take 16 = [3, 172] := by decide +kernel
theorem dX0_dueOf_0 : decode cX0_dueOf 0 = .ok (.aload_n 0, 1) := oq_42 (byt chX0_dueOf_0 0 rfl)
theorem dX0_dueOf_1 : decode cX0_dueOf 1 = .ok (.getfield 9, 3) := oq_180 (byt chX0_dueOf_0 1 rfl) (byt chX0_dueOf_0 2 rfl) (byt chX0_dueOf_0 3 rfl) rfl
theorem dX0_dueOf_4 : decode cX0_dueOf 4 = .ok (.ifCond .le 12, 3) := oq_158 (byt chX0_dueOf_0 4 rfl) (byt chX0_dueOf_0 5 rfl) (byt chX0_dueOf_0 6 rfl) (by decide +kernel)
theorem dX0_dueOf_7 : decode cX0_dueOf 7 = .ok (.iload_n 1, 1) := oq_27 (byt chX0_dueOf_0 7 rfl)
theorem dX0_dueOf_8 : decode cX0_dueOf 8 = .ok (.aload_n 0, 1) := oq_42 (byt chX0_dueOf_0 8 rfl)
theorem dX0_dueOf_9 : decode cX0_dueOf 9 = .ok (.getfield 9, 3) := oq_180 (byt chX0_dueOf_0 9 rfl) (byt chX0_dueOf_0 10 rfl) (byt chX0_dueOf_0 11 rfl) rfl
theorem dX0_dueOf_12 : decode cX0_dueOf 12 = .ok (.idiv, 1) := oq_108 (byt chX0_dueOf_0 12 rfl)
theorem dX0_dueOf_13 : decode cX0_dueOf 13 = .ok (.goto 4, 3) := oq_167 (byt chX0_dueOf_0 13 rfl) (byt chX0_dueOf_0 14 rfl) (byt chX0_dueOf_0 15 rfl) (by decide +kernel)
theorem dX0_dueOf_16 : decode cX0_dueOf 16 = .ok (.iconst 0, 1) := oq_3 (byt chX0_dueOf_1 0 rfl)
theorem dX0_dueOf_17 : decode cX0_dueOf 17 = .ok (.ireturn, 1) := oq_172 (byt chX0_dueOf_1 1 rfl)
abbrev mX0_dueOf : MI := (yX0_dueOf, cX0_dueOf, 2, (some .int), noE)
theorem okX0_dueOf : cok mX0_dueOf 1 := ⟨tw792, tw4, by decide, by decide, by decide, by decide +kernel⟩
def fX0_dueOf (M : Mem) (a0 a1 : Int) : Option Int :=
  if M.2.1 a0 = 0 then if 0 < M.1 a0 0 then (if (M.1 a0 0) ≠ 0 then some (w32 (a1.tdiv (M.1 a0 0))) else none) else (some 0) else none
set_option maxRecDepth 100000 in
set_option maxHeartbeats 4000000 in
theorem kX0_dueOf (d : Nat) (hd : 0 ≤ d) (M : Mem) (a0 a1 : Int) : Ct mX0_dueOf d 0 0 [pA a0, pI a1] M (dI M) (fX0_dueOf M a0 a1) := by
  refine Ct.of 0 (fun _ _ _ => trivial) (by decide +kernel) rfl ?_
  unfold fX0_dueOf
  refine v_aload_n dX0_dueOf_0 rfl ?_
  refine v_if (fun h1 => ?_)
  refine v_get (v := pI (M.1 a0 0)) 0 0 rfl inX0 (by decide) tw127 dX0_dueOf_1 h1 rfl ?_
  refine v_if_le (tgt := 16) dX0_dueOf_4 (by decide) (fun c2 => ?_) (fun c2 => ?_)
  · refine v_iload_n dX0_dueOf_7 rfl ?_
    refine v_aload_n dX0_dueOf_8 rfl ?_
    refine v_get (v := pI (M.1 a0 0)) 0 0 rfl inX0 (by decide) tw127 dX0_dueOf_9 h1 rfl ?_
    refine v_if (fun h3 => ?_)
    refine v_idiv h3 dX0_dueOf_12 ?_
    refine v_goto (tgt := 17) dX0_dueOf_13 (by decide) ?_
    exact v_ireturn dX0_dueOf_17 rfl rfl
  · refine v_iconst dX0_dueOf_16 (by decide) ?_
    exact v_ireturn dX0_dueOf_17 rfl rfl
theorem chX0_oddOf_0 : (cX0_oddOf.data.toList.drop 0).take 16 = [42, 180, 0, 9, 158, 0, 12, 27, 42, 180, 0, 9, 112, 167, 0, 4] := by decide +kernel
theorem chX0_oddOf_1 : (cX0_oddOf.data.toList.drop 16).take 16 = [3, 172] := by decide +kernel
theorem dX0_oddOf_0 : decode cX0_oddOf 0 = .ok (.aload_n 0, 1) := oq_42 (byt chX0_oddOf_0 0 rfl)
theorem dX0_oddOf_1 : decode cX0_oddOf 1 = .ok (.getfield 9, 3) := oq_180 (byt chX0_oddOf_0 1 rfl) (byt chX0_oddOf_0 2 rfl) (byt chX0_oddOf_0 3 rfl) rfl
theorem dX0_oddOf_4 : decode cX0_oddOf 4 = .ok (.ifCond .le 12, 3) := oq_158 (byt chX0_oddOf_0 4 rfl) (byt chX0_oddOf_0 5 rfl) (byt chX0_oddOf_0 6 rfl) (by decide +kernel)
theorem dX0_oddOf_7 : decode cX0_oddOf 7 = .ok (.iload_n 1, 1) := oq_27 (byt chX0_oddOf_0 7 rfl)
theorem dX0_oddOf_8 : decode cX0_oddOf 8 = .ok (.aload_n 0, 1) := oq_42 (byt chX0_oddOf_0 8 rfl)
theorem dX0_oddOf_9 : decode cX0_oddOf 9 = .ok (.getfield 9, 3) := oq_180 (byt chX0_oddOf_0 9 rfl) (byt chX0_oddOf_0 10 rfl) (byt chX0_oddOf_0 11 rfl) rfl
theorem dX0_oddOf_12 : decode cX0_oddOf 12 = .ok (.irem, 1) := oq_112 (byt chX0_oddOf_0 12 rfl)
theorem dX0_oddOf_13 : decode cX0_oddOf 13 = .ok (.goto 4, 3) := oq_167 (byt chX0_oddOf_0 13 rfl) (byt chX0_oddOf_0 14 rfl) (byt chX0_oddOf_0 15 rfl) (by decide +kernel)
theorem dX0_oddOf_16 : decode cX0_oddOf 16 = .ok (.iconst 0, 1) := oq_3 (byt chX0_oddOf_1 0 rfl)
theorem dX0_oddOf_17 : decode cX0_oddOf 17 = .ok (.ireturn, 1) := oq_172 (byt chX0_oddOf_1 1 rfl)
abbrev mX0_oddOf : MI := (yX0_oddOf, cX0_oddOf, 2, (some .int), noE)
theorem okX0_oddOf : cok mX0_oddOf 1 := ⟨tw814, tw4, by decide, by decide, by decide, by decide +kernel⟩
def fX0_oddOf (M : Mem) (a0 a1 : Int) : Option Int :=
  if M.2.1 a0 = 0 then if 0 < M.1 a0 0 then (if (M.1 a0 0) ≠ 0 then some (a1.tmod (M.1 a0 0)) else none) else (some 0) else none
set_option maxRecDepth 100000 in
set_option maxHeartbeats 4000000 in
theorem kX0_oddOf (d : Nat) (hd : 0 ≤ d) (M : Mem) (a0 a1 : Int) : Ct mX0_oddOf d 0 0 [pA a0, pI a1] M (dI M) (fX0_oddOf M a0 a1) := by
  refine Ct.of 0 (fun _ _ _ => trivial) (by decide +kernel) rfl ?_
  unfold fX0_oddOf
  refine v_aload_n dX0_oddOf_0 rfl ?_
  refine v_if (fun h1 => ?_)
  refine v_get (v := pI (M.1 a0 0)) 0 0 rfl inX0 (by decide) tw127 dX0_oddOf_1 h1 rfl ?_
  refine v_if_le (tgt := 16) dX0_oddOf_4 (by decide) (fun c2 => ?_) (fun c2 => ?_)
  · refine v_iload_n dX0_oddOf_7 rfl ?_
    refine v_aload_n dX0_oddOf_8 rfl ?_
    refine v_get (v := pI (M.1 a0 0)) 0 0 rfl inX0 (by decide) tw127 dX0_oddOf_9 h1 rfl ?_
    refine v_if (fun h3 => ?_)
    refine v_irem h3 dX0_oddOf_12 ?_
    refine v_goto (tgt := 17) dX0_oddOf_13 (by decide) ?_
    exact v_ireturn dX0_oddOf_17 rfl rfl
  · refine v_iconst dX0_oddOf_16 (by decide) ?_
    exact v_ireturn dX0_oddOf_17 rfl rfl
theorem chX0_firstQuit_0 : (cX0_firstQuit.data.toList.drop 0).take 16 = [3, 54, 4, 29, 54, 5, 21, 5, 16, 60, 163, 0, 31, 21, 4, 28] := by decide +kernel
theorem chX0_firstQuit_1 : (cX0_firstQuit.data.toList.drop 16).take 16 = [42, 21, 5, 182, 0, 21, 104, 96, 54, 4, 21, 4, 27, 161, 0, 6] := by decide +kernel
theorem chX0_firstQuit_2 : (cX0_firstQuit.data.toList.drop 32).take 16 = [21, 5, 172, 132, 5, 1, 167, 255, 224, 2, 172] := by decide +kernel
theorem dX0_firstQuit_0 : decode cX0_firstQuit 0 = .ok (.iconst 0, 1) := oq_3 (byt chX0_firstQuit_0 0 rfl)
theorem dX0_firstQuit_1 : decode cX0_firstQuit 1 = .ok (.istore 4, 2) := oq_54 (byt chX0_firstQuit_0 1 rfl) (byt chX0_firstQuit_0 2 rfl) rfl
theorem dX0_firstQuit_3 : decode cX0_firstQuit 3 = .ok (.iload_n 3, 1) := oq_29 (byt chX0_firstQuit_0 3 rfl)
theorem dX0_firstQuit_4 : decode cX0_firstQuit 4 = .ok (.istore 5, 2) := oq_54 (byt chX0_firstQuit_0 4 rfl) (byt chX0_firstQuit_0 5 rfl) rfl
theorem dX0_firstQuit_6 : decode cX0_firstQuit 6 = .ok (.iload 5, 2) := oq_21 (byt chX0_firstQuit_0 6 rfl) (byt chX0_firstQuit_0 7 rfl) rfl
theorem dX0_firstQuit_8 : decode cX0_firstQuit 8 = .ok (.bipush 60, 2) := oq_16 (byt chX0_firstQuit_0 8 rfl) (byt chX0_firstQuit_0 9 rfl) rfl
theorem dX0_firstQuit_10 : decode cX0_firstQuit 10 = .ok (.if_icmp .gt 31, 3) := oq_163 (byt chX0_firstQuit_0 10 rfl) (byt chX0_firstQuit_0 11 rfl) (byt chX0_firstQuit_0 12 rfl) (by decide +kernel)
theorem dX0_firstQuit_13 : decode cX0_firstQuit 13 = .ok (.iload 4, 2) := oq_21 (byt chX0_firstQuit_0 13 rfl) (byt chX0_firstQuit_0 14 rfl) rfl
theorem dX0_firstQuit_15 : decode cX0_firstQuit 15 = .ok (.iload_n 2, 1) := oq_28 (byt chX0_firstQuit_0 15 rfl)
theorem dX0_firstQuit_16 : decode cX0_firstQuit 16 = .ok (.aload_n 0, 1) := oq_42 (byt chX0_firstQuit_1 0 rfl)
theorem dX0_firstQuit_17 : decode cX0_firstQuit 17 = .ok (.iload 5, 2) := oq_21 (byt chX0_firstQuit_1 1 rfl) (byt chX0_firstQuit_1 2 rfl) rfl
theorem dX0_firstQuit_19 : decode cX0_firstQuit 19 = .ok (.invokevirtual 21, 3) := oq_182 (byt chX0_firstQuit_1 3 rfl) (byt chX0_firstQuit_1 4 rfl) (byt chX0_firstQuit_1 5 rfl) rfl
theorem dX0_firstQuit_22 : decode cX0_firstQuit 22 = .ok (.imul, 1) := oq_104 (byt chX0_firstQuit_1 6 rfl)
theorem dX0_firstQuit_23 : decode cX0_firstQuit 23 = .ok (.iadd, 1) := oq_96 (byt chX0_firstQuit_1 7 rfl)
theorem dX0_firstQuit_24 : decode cX0_firstQuit 24 = .ok (.istore 4, 2) := oq_54 (byt chX0_firstQuit_1 8 rfl) (byt chX0_firstQuit_1 9 rfl) rfl
theorem dX0_firstQuit_26 : decode cX0_firstQuit 26 = .ok (.iload 4, 2) := oq_21 (byt chX0_firstQuit_1 10 rfl) (byt chX0_firstQuit_1 11 rfl) rfl
theorem dX0_firstQuit_28 : decode cX0_firstQuit 28 = .ok (.iload_n 1, 1) := oq_27 (byt chX0_firstQuit_1 12 rfl)
theorem dX0_firstQuit_29 : decode cX0_firstQuit 29 = .ok (.if_icmp .lt 6, 3) := oq_161 (byt chX0_firstQuit_1 13 rfl) (byt chX0_firstQuit_1 14 rfl) (byt chX0_firstQuit_1 15 rfl) (by decide +kernel)
theorem dX0_firstQuit_32 : decode cX0_firstQuit 32 = .ok (.iload 5, 2) := oq_21 (byt chX0_firstQuit_2 0 rfl) (byt chX0_firstQuit_2 1 rfl) rfl
theorem dX0_firstQuit_34 : decode cX0_firstQuit 34 = .ok (.ireturn, 1) := oq_172 (byt chX0_firstQuit_2 2 rfl)
theorem dX0_firstQuit_35 : decode cX0_firstQuit 35 = .ok (.iinc 5 1, 3) := oq_132 (byt chX0_firstQuit_2 3 rfl) (byt chX0_firstQuit_2 4 rfl) (byt chX0_firstQuit_2 5 rfl) rfl
theorem dX0_firstQuit_38 : decode cX0_firstQuit 38 = .ok (.goto (-32), 3) := oq_167 (byt chX0_firstQuit_2 6 rfl) (byt chX0_firstQuit_2 7 rfl) (byt chX0_firstQuit_2 8 rfl) (by decide +kernel)
theorem dX0_firstQuit_41 : decode cX0_firstQuit 41 = .ok (.iconst (-1), 1) := oq_2 (byt chX0_firstQuit_2 9 rfl)
theorem dX0_firstQuit_42 : decode cX0_firstQuit 42 = .ok (.ireturn, 1) := oq_172 (byt chX0_firstQuit_2 10 rfl)
abbrev mX0_firstQuit : MI := (yX0_firstQuit, cX0_firstQuit, 6, (some .int), noE)
theorem okX0_firstQuit : cok mX0_firstQuit 3 := ⟨tw992, tw4, by decide, by decide, by decide, by decide +kernel⟩
def fX0_firstQuit (M : Mem) (a0 a1 a2 a3 : Int) : Option Int :=
  iterC (fun (rec1 : (Int × Int) → Option Int) (s2 : Int × Int) => if 60 < s2.2 then (some (-1)) else (if M.2.1 a0 = 0 then (fX0_counts M a0 s2.2).bind fun r4 => if w32 (s2.1 + (w32 (a2 * r4))) < a1 then (rec1 (w32 (s2.1 + (w32 (a2 * r4))), w32 (s2.2 + 1))) else (some s2.2) else none)) BIG (0, a3)
set_option maxRecDepth 100000 in
set_option maxHeartbeats 4000000 in
theorem kX0_firstQuit (d : Nat) (hd : 1 ≤ d) (M : Mem) (a0 a1 a2 a3 : Int) : Ct mX0_firstQuit d 0 0 [pA a0, pI a1, pI a2, pI a3] M (dI M) (fX0_firstQuit M a0 a1 a2 a3) := by
  obtain ⟨d, rfl⟩ : ∃ k, d = k + 1 := ⟨d - 1, by omega⟩
  refine Ct.of 2 (fun _ _ _ => trivial) (by decide +kernel) rfl ?_
  unfold fX0_firstQuit
  refine v_iconst dX0_firstQuit_0 (by decide) ?_
  refine v_istore (ls' := [some (pA a0), some (pI a1), some (pI a2), some (pI a3), some (pI 0), none]) dX0_firstQuit_1 (by decide) rfl ?_
  refine v_iload_n dX0_firstQuit_3 rfl ?_
  refine v_istore (ls' := [some (pA a0), some (pI a1), some (pI a2), some (pI a3), some (pI 0), some (pI a3)]) dX0_firstQuit_4 (by decide) rfl ?_
  refine v_drop [some (pA a0), some (pI a1), some (pI a2), none, some (pI 0), some (pI a3)] (ls_s (ls_s (ls_s (ls_n (ls_s (ls_s ls_e)))))) ?_
  refine v_loop (fun (s2 : Int × Int) => [some (pA a0), some (pI a1), some (pI a2), none, some (pI s2.1), some (pI s2.2)]) (fun (s2 : Int × Int) => M) (s0 := (0, a3)) ?_
  intro rec1 hrec1 s2
  refine v_iload dX0_firstQuit_6 rfl ?_
  refine v_bipush dX0_firstQuit_8 (by decide) ?_
  refine v_icmp_gt (tgt := 41) dX0_firstQuit_10 (by decide) (fun c3 => ?_) (fun c3 => ?_)
  · refine v_iconst dX0_firstQuit_41 (by decide) ?_
    exact v_ireturn dX0_firstQuit_42 rfl rfl
  · refine v_iload dX0_firstQuit_13 rfl ?_
    refine v_iload_n dX0_firstQuit_15 rfl ?_
    refine v_aload_n dX0_firstQuit_16 rfl ?_
    refine v_iload dX0_firstQuit_17 rfl ?_
    refine v_if (fun h6 => ?_)
    refine v_cV (mi := mX0_firstQuit) (c0 := 0) (c1 := 0) (As := [pI s2.2]) (st := [pI a2, pI s2.1]) (kX0_counts d (by omega) _ _ _) rfl h6 rfl okX0_counts (Or.inl tw993) tw719 tw720 rfl (Nat.le_of_ble_eq_true rfl) dX0_firstQuit_19 (fun r4 => [pI r4, pI a2, pI s2.1]) (fun r4 => M) (fun _ => rfl) (fun _ => rfl) (fun r4 h5 => ?_) rfl
    refine v_imul dX0_firstQuit_22 ?_
    refine v_iadd dX0_firstQuit_23 ?_
    refine v_istore (ls' := [some (pA a0), some (pI a1), some (pI a2), none, some (pI (w32 (s2.1 + (w32 (a2 * r4))))), some (pI s2.2)]) dX0_firstQuit_24 (by decide) rfl ?_
    refine v_iload dX0_firstQuit_26 rfl ?_
    refine v_iload_n dX0_firstQuit_28 rfl ?_
    refine v_icmp_lt (tgt := 35) dX0_firstQuit_29 (by decide) (fun c7 => ?_) (fun c7 => ?_)
    · refine v_iinc (ls' := [some (pA a0), some (pI a1), some (pI a2), none, some (pI (w32 (s2.1 + (w32 (a2 * r4))))), some (pI (w32 (s2.2 + 1)))]) dX0_firstQuit_35 (by decide) rfl rfl ?_
      refine v_goto (tgt := 6) dX0_firstQuit_38 (by decide) ?_
      exact hrec1 (w32 (s2.1 + (w32 (a2 * r4))), w32 (s2.2 + 1))
    · refine v_iload dX0_firstQuit_32 rfl ?_
      exact v_ireturn dX0_firstQuit_34 rfl rfl
theorem chX0_fewestGifts_0 : (cX0_fewestGifts.data.toList.drop 0).take 16 = [21, 4, 29, 162, 0, 5, 2, 172, 3, 54, 5, 3, 54, 6, 29, 54] := by decide +kernel
theorem chX0_fewestGifts_1 : (cX0_fewestGifts.data.toList.drop 16).take 16 = [7, 21, 7, 21, 4, 163, 0, 34, 42, 21, 7, 182, 0, 21, 5, 160] := by decide +kernel
theorem chX0_fewestGifts_2 : (cX0_fewestGifts.data.toList.drop 32).take 16 = [0, 12, 21, 5, 28, 96, 54, 5, 167, 0, 9, 21, 6, 28, 96, 54] := by decide +kernel
theorem chX0_fewestGifts_3 : (cX0_fewestGifts.data.toList.drop 48).take 16 = [6, 132, 7, 1, 167, 255, 221, 21, 5, 27, 4, 96, 5, 108, 184, 0] := by decide +kernel
theorem chX0_fewestGifts_4 : (cX0_fewestGifts.data.toList.drop 64).take 16 = [25, 54, 7, 3, 27, 5, 21, 7, 104, 100, 184, 0, 31, 54, 8, 21] := by decide +kernel
theorem chX0_fewestGifts_5 : (cX0_fewestGifts.data.toList.drop 80).take 16 = [8, 21, 6, 163, 0, 11, 21, 7, 21, 8, 96, 167, 0, 4, 2, 172] := by decide +kernel
theorem dX0_fewestGifts_0 : decode cX0_fewestGifts 0 = .ok (.iload 4, 2) := oq_21 (byt chX0_fewestGifts_0 0 rfl) (byt chX0_fewestGifts_0 1 rfl) rfl
theorem dX0_fewestGifts_2 : decode cX0_fewestGifts 2 = .ok (.iload_n 3, 1) := oq_29 (byt chX0_fewestGifts_0 2 rfl)
theorem dX0_fewestGifts_3 : decode cX0_fewestGifts 3 = .ok (.if_icmp .ge 5, 3) := oq_162 (byt chX0_fewestGifts_0 3 rfl) (byt chX0_fewestGifts_0 4 rfl) (byt chX0_fewestGifts_0 5 rfl) (by decide +kernel)
theorem dX0_fewestGifts_6 : decode cX0_fewestGifts 6 = .ok (.iconst (-1), 1) := oq_2 (byt chX0_fewestGifts_0 6 rfl)
theorem dX0_fewestGifts_7 : decode cX0_fewestGifts 7 = .ok (.ireturn, 1) := oq_172 (byt chX0_fewestGifts_0 7 rfl)
theorem dX0_fewestGifts_8 : decode cX0_fewestGifts 8 = .ok (.iconst 0, 1) := oq_3 (byt chX0_fewestGifts_0 8 rfl)
theorem dX0_fewestGifts_9 : decode cX0_fewestGifts 9 = .ok (.istore 5, 2) := oq_54 (byt chX0_fewestGifts_0 9 rfl) (byt chX0_fewestGifts_0 10 rfl) rfl
theorem dX0_fewestGifts_11 : decode cX0_fewestGifts 11 = .ok (.iconst 0, 1) := oq_3 (byt chX0_fewestGifts_0 11 rfl)
theorem dX0_fewestGifts_12 : decode cX0_fewestGifts 12 = .ok (.istore 6, 2) := oq_54 (byt chX0_fewestGifts_0 12 rfl) (byt chX0_fewestGifts_0 13 rfl) rfl
theorem dX0_fewestGifts_14 : decode cX0_fewestGifts 14 = .ok (.iload_n 3, 1) := oq_29 (byt chX0_fewestGifts_0 14 rfl)
theorem dX0_fewestGifts_15 : decode cX0_fewestGifts 15 = .ok (.istore 7, 2) := oq_54 (byt chX0_fewestGifts_0 15 rfl) (byt chX0_fewestGifts_1 0 rfl) rfl
theorem dX0_fewestGifts_17 : decode cX0_fewestGifts 17 = .ok (.iload 7, 2) := oq_21 (byt chX0_fewestGifts_1 1 rfl) (byt chX0_fewestGifts_1 2 rfl) rfl
theorem dX0_fewestGifts_19 : decode cX0_fewestGifts 19 = .ok (.iload 4, 2) := oq_21 (byt chX0_fewestGifts_1 3 rfl) (byt chX0_fewestGifts_1 4 rfl) rfl
theorem dX0_fewestGifts_21 : decode cX0_fewestGifts 21 = .ok (.if_icmp .gt 34, 3) := oq_163 (byt chX0_fewestGifts_1 5 rfl) (byt chX0_fewestGifts_1 6 rfl) (byt chX0_fewestGifts_1 7 rfl) (by decide +kernel)
theorem dX0_fewestGifts_24 : decode cX0_fewestGifts 24 = .ok (.aload_n 0, 1) := oq_42 (byt chX0_fewestGifts_1 8 rfl)
theorem dX0_fewestGifts_25 : decode cX0_fewestGifts 25 = .ok (.iload 7, 2) := oq_21 (byt chX0_fewestGifts_1 9 rfl) (byt chX0_fewestGifts_1 10 rfl) rfl
theorem dX0_fewestGifts_27 : decode cX0_fewestGifts 27 = .ok (.invokevirtual 21, 3) := oq_182 (byt chX0_fewestGifts_1 11 rfl) (byt chX0_fewestGifts_1 12 rfl) (byt chX0_fewestGifts_1 13 rfl) rfl
theorem dX0_fewestGifts_30 : decode cX0_fewestGifts 30 = .ok (.iconst 2, 1) := oq_5 (byt chX0_fewestGifts_1 14 rfl)
theorem dX0_fewestGifts_31 : decode cX0_fewestGifts 31 = .ok (.if_icmp .ne 12, 3) := oq_160 (byt chX0_fewestGifts_1 15 rfl) (byt chX0_fewestGifts_2 0 rfl) (byt chX0_fewestGifts_2 1 rfl) (by decide +kernel)
theorem dX0_fewestGifts_34 : decode cX0_fewestGifts 34 = .ok (.iload 5, 2) := oq_21 (byt chX0_fewestGifts_2 2 rfl) (byt chX0_fewestGifts_2 3 rfl) rfl
theorem dX0_fewestGifts_36 : decode cX0_fewestGifts 36 = .ok (.iload_n 2, 1) := oq_28 (byt chX0_fewestGifts_2 4 rfl)
theorem dX0_fewestGifts_37 : decode cX0_fewestGifts 37 = .ok (.iadd, 1) := oq_96 (byt chX0_fewestGifts_2 5 rfl)
theorem dX0_fewestGifts_38 : decode cX0_fewestGifts 38 = .ok (.istore 5, 2) := oq_54 (byt chX0_fewestGifts_2 6 rfl) (byt chX0_fewestGifts_2 7 rfl) rfl
theorem dX0_fewestGifts_40 : decode cX0_fewestGifts 40 = .ok (.goto 9, 3) := oq_167 (byt chX0_fewestGifts_2 8 rfl) (byt chX0_fewestGifts_2 9 rfl) (byt chX0_fewestGifts_2 10 rfl) (by decide +kernel)
theorem dX0_fewestGifts_43 : decode cX0_fewestGifts 43 = .ok (.iload 6, 2) := oq_21 (byt chX0_fewestGifts_2 11 rfl) (byt chX0_fewestGifts_2 12 rfl) rfl
theorem dX0_fewestGifts_45 : decode cX0_fewestGifts 45 = .ok (.iload_n 2, 1) := oq_28 (byt chX0_fewestGifts_2 13 rfl)
theorem dX0_fewestGifts_46 : decode cX0_fewestGifts 46 = .ok (.iadd, 1) := oq_96 (byt chX0_fewestGifts_2 14 rfl)
theorem dX0_fewestGifts_47 : decode cX0_fewestGifts 47 = .ok (.istore 6, 2) := oq_54 (byt chX0_fewestGifts_2 15 rfl) (byt chX0_fewestGifts_3 0 rfl) rfl
theorem dX0_fewestGifts_49 : decode cX0_fewestGifts 49 = .ok (.iinc 7 1, 3) := oq_132 (byt chX0_fewestGifts_3 1 rfl) (byt chX0_fewestGifts_3 2 rfl) (byt chX0_fewestGifts_3 3 rfl) rfl
theorem dX0_fewestGifts_52 : decode cX0_fewestGifts 52 = .ok (.goto (-35), 3) := oq_167 (byt chX0_fewestGifts_3 4 rfl) (byt chX0_fewestGifts_3 5 rfl) (byt chX0_fewestGifts_3 6 rfl) (by decide +kernel)
theorem dX0_fewestGifts_55 : decode cX0_fewestGifts 55 = .ok (.iload 5, 2) := oq_21 (byt chX0_fewestGifts_3 7 rfl) (byt chX0_fewestGifts_3 8 rfl) rfl
theorem dX0_fewestGifts_57 : decode cX0_fewestGifts 57 = .ok (.iload_n 1, 1) := oq_27 (byt chX0_fewestGifts_3 9 rfl)
theorem dX0_fewestGifts_58 : decode cX0_fewestGifts 58 = .ok (.iconst 1, 1) := oq_4 (byt chX0_fewestGifts_3 10 rfl)
theorem dX0_fewestGifts_59 : decode cX0_fewestGifts 59 = .ok (.iadd, 1) := oq_96 (byt chX0_fewestGifts_3 11 rfl)
theorem dX0_fewestGifts_60 : decode cX0_fewestGifts 60 = .ok (.iconst 2, 1) := oq_5 (byt chX0_fewestGifts_3 12 rfl)
theorem dX0_fewestGifts_61 : decode cX0_fewestGifts 61 = .ok (.idiv, 1) := oq_108 (byt chX0_fewestGifts_3 13 rfl)
theorem dX0_fewestGifts_62 : decode cX0_fewestGifts 62 = .ok (.invokestatic 25, 3) := oq_184 (byt chX0_fewestGifts_3 14 rfl) (byt chX0_fewestGifts_3 15 rfl) (byt chX0_fewestGifts_4 0 rfl) rfl
theorem dX0_fewestGifts_65 : decode cX0_fewestGifts 65 = .ok (.istore 7, 2) := oq_54 (byt chX0_fewestGifts_4 1 rfl) (byt chX0_fewestGifts_4 2 rfl) rfl
theorem dX0_fewestGifts_67 : decode cX0_fewestGifts 67 = .ok (.iconst 0, 1) := oq_3 (byt chX0_fewestGifts_4 3 rfl)
theorem dX0_fewestGifts_68 : decode cX0_fewestGifts 68 = .ok (.iload_n 1, 1) := oq_27 (byt chX0_fewestGifts_4 4 rfl)
theorem dX0_fewestGifts_69 : decode cX0_fewestGifts 69 = .ok (.iconst 2, 1) := oq_5 (byt chX0_fewestGifts_4 5 rfl)
theorem dX0_fewestGifts_70 : decode cX0_fewestGifts 70 = .ok (.iload 7, 2) := oq_21 (byt chX0_fewestGifts_4 6 rfl) (byt chX0_fewestGifts_4 7 rfl) rfl
theorem dX0_fewestGifts_72 : decode cX0_fewestGifts 72 = .ok (.imul, 1) := oq_104 (byt chX0_fewestGifts_4 8 rfl)
theorem dX0_fewestGifts_73 : decode cX0_fewestGifts 73 = .ok (.isub, 1) := oq_100 (byt chX0_fewestGifts_4 9 rfl)
theorem dX0_fewestGifts_74 : decode cX0_fewestGifts 74 = .ok (.invokestatic 31, 3) := oq_184 (byt chX0_fewestGifts_4 10 rfl) (byt chX0_fewestGifts_4 11 rfl) (byt chX0_fewestGifts_4 12 rfl) rfl
theorem dX0_fewestGifts_77 : decode cX0_fewestGifts 77 = .ok (.istore 8, 2) := oq_54 (byt chX0_fewestGifts_4 13 rfl) (byt chX0_fewestGifts_4 14 rfl) rfl
theorem dX0_fewestGifts_79 : decode cX0_fewestGifts 79 = .ok (.iload 8, 2) := oq_21 (byt chX0_fewestGifts_4 15 rfl) (byt chX0_fewestGifts_5 0 rfl) rfl
theorem dX0_fewestGifts_81 : decode cX0_fewestGifts 81 = .ok (.iload 6, 2) := oq_21 (byt chX0_fewestGifts_5 1 rfl) (byt chX0_fewestGifts_5 2 rfl) rfl
theorem dX0_fewestGifts_83 : decode cX0_fewestGifts 83 = .ok (.if_icmp .gt 11, 3) := oq_163 (byt chX0_fewestGifts_5 3 rfl) (byt chX0_fewestGifts_5 4 rfl) (byt chX0_fewestGifts_5 5 rfl) (by decide +kernel)
theorem dX0_fewestGifts_86 : decode cX0_fewestGifts 86 = .ok (.iload 7, 2) := oq_21 (byt chX0_fewestGifts_5 6 rfl) (byt chX0_fewestGifts_5 7 rfl) rfl
theorem dX0_fewestGifts_88 : decode cX0_fewestGifts 88 = .ok (.iload 8, 2) := oq_21 (byt chX0_fewestGifts_5 8 rfl) (byt chX0_fewestGifts_5 9 rfl) rfl
theorem dX0_fewestGifts_90 : decode cX0_fewestGifts 90 = .ok (.iadd, 1) := oq_96 (byt chX0_fewestGifts_5 10 rfl)
theorem dX0_fewestGifts_91 : decode cX0_fewestGifts 91 = .ok (.goto 4, 3) := oq_167 (byt chX0_fewestGifts_5 11 rfl) (byt chX0_fewestGifts_5 12 rfl) (byt chX0_fewestGifts_5 13 rfl) (by decide +kernel)
theorem dX0_fewestGifts_94 : decode cX0_fewestGifts 94 = .ok (.iconst (-1), 1) := oq_2 (byt chX0_fewestGifts_5 14 rfl)
theorem dX0_fewestGifts_95 : decode cX0_fewestGifts 95 = .ok (.ireturn, 1) := oq_172 (byt chX0_fewestGifts_5 15 rfl)
abbrev mX0_fewestGifts : MI := (yX0_fewestGifts, cX0_fewestGifts, 9, (some .int), noE)
theorem okX0_fewestGifts : cok mX0_fewestGifts 4 := ⟨tw997, tw4, by decide, by decide, by decide, by decide +kernel⟩
def fX0_fewestGifts (M : Mem) (a0 a1 a2 a3 a4 : Int) : Option Int :=
  if a4 < a3 then (some (-1)) else (iterC (fun (rec2 : (Int × Int × Int) → Option Int) (s3 : Int × Int × Int) => if a4 < s3.2.2 then (if s3.2.1 < imax 0 (w32 (a1 - (w32 (2 * (imin s3.1 (w32 ((w32 (a1 + 1)).tdiv 2))))))) then (some (-1)) else (some (w32 ((imin s3.1 (w32 ((w32 (a1 + 1)).tdiv 2))) + (imax 0 (w32 (a1 - (w32 (2 * (imin s3.1 (w32 ((w32 (a1 + 1)).tdiv 2)))))))))))) else (if M.2.1 a0 = 0 then (fX0_counts M a0 s3.2.2).bind fun r6 => if r6 = 2 then (rec2 (w32 (s3.1 + a2), s3.2.1, w32 (s3.2.2 + 1))) else (rec2 (s3.1, w32 (s3.2.1 + a2), w32 (s3.2.2 + 1))) else none)) BIG (0, 0, a3))
set_option maxRecDepth 100000 in
set_option maxHeartbeats 4000000 in
theorem kX0_fewestGifts (d : Nat) (hd : 1 ≤ d) (M : Mem) (a0 a1 a2 a3 a4 : Int) : Ct mX0_fewestGifts d 0 0 [pA a0, pI a1, pI a2, pI a3, pI a4] M (dI M) (fX0_fewestGifts M a0 a1 a2 a3 a4) := by
  obtain ⟨d, rfl⟩ : ∃ k, d = k + 1 := ⟨d - 1, by omega⟩
  refine Ct.of 4 (fun _ _ _ => trivial) (by decide +kernel) rfl ?_
  unfold fX0_fewestGifts
  refine v_iload dX0_fewestGifts_0 rfl ?_
  refine v_iload_n dX0_fewestGifts_2 rfl ?_
  refine v_icmp_ge (tgt := 8) dX0_fewestGifts_3 (by decide) (fun c1 => ?_) (fun c1 => ?_)
  · refine v_iconst dX0_fewestGifts_6 (by decide) ?_
    exact v_ireturn dX0_fewestGifts_7 rfl rfl
  · refine v_iconst dX0_fewestGifts_8 (by decide) ?_
    refine v_istore (ls' := [some (pA a0), some (pI a1), some (pI a2), some (pI a3), some (pI a4), some (pI 0), none, none, none]) dX0_fewestGifts_9 (by decide) rfl ?_
    refine v_iconst dX0_fewestGifts_11 (by decide) ?_
    refine v_istore (ls' := [some (pA a0), some (pI a1), some (pI a2), some (pI a3), some (pI a4), some (pI 0), some (pI 0), none, none]) dX0_fewestGifts_12 (by decide) rfl ?_
    refine v_iload_n dX0_fewestGifts_14 rfl ?_
    refine v_istore (ls' := [some (pA a0), some (pI a1), some (pI a2), some (pI a3), some (pI a4), some (pI 0), some (pI 0), some (pI a3), none]) dX0_fewestGifts_15 (by decide) rfl ?_
    refine v_drop [some (pA a0), some (pI a1), some (pI a2), none, some (pI a4), some (pI 0), some (pI 0), some (pI a3), none] (ls_s (ls_s (ls_s (ls_n (ls_s (ls_s (ls_s (ls_s (ls_n ls_e))))))))) ?_
    refine v_loop (fun (s3 : Int × Int × Int) => [some (pA a0), some (pI a1), some (pI a2), none, some (pI a4), some (pI s3.1), some (pI s3.2.1), some (pI s3.2.2), none]) (fun (s3 : Int × Int × Int) => M) (s0 := (0, 0, a3)) ?_
    intro rec2 hrec2 s3
    refine v_iload dX0_fewestGifts_17 rfl ?_
    refine v_iload dX0_fewestGifts_19 rfl ?_
    refine v_icmp_gt (tgt := 55) dX0_fewestGifts_21 (by decide) (fun c4 => ?_) (fun c4 => ?_)
    · refine v_iload dX0_fewestGifts_55 rfl ?_
      refine v_iload_n dX0_fewestGifts_57 rfl ?_
      refine v_iconst dX0_fewestGifts_58 (by decide) ?_
      refine v_iadd dX0_fewestGifts_59 ?_
      refine v_iconst dX0_fewestGifts_60 (by decide) ?_
      refine v_idiv (by decide) dX0_fewestGifts_61 ?_
      refine v_mmin (mi := mX0_fewestGifts) tw998 tw469 tw12 tw470 (Nat.le_of_ble_eq_true rfl) dX0_fewestGifts_62 ?_
      refine v_istore (ls' := [some (pA a0), some (pI a1), some (pI a2), none, some (pI a4), some (pI s3.1), some (pI s3.2.1), some (pI (imin s3.1 (w32 ((w32 (a1 + 1)).tdiv 2)))), none]) dX0_fewestGifts_65 (by decide) rfl ?_
      refine v_iconst dX0_fewestGifts_67 (by decide) ?_
      refine v_iload_n dX0_fewestGifts_68 rfl ?_
      refine v_iconst dX0_fewestGifts_69 (by decide) ?_
      refine v_iload dX0_fewestGifts_70 rfl ?_
      refine v_imul dX0_fewestGifts_72 ?_
      refine v_isub dX0_fewestGifts_73 ?_
      refine v_mmax (mi := mX0_fewestGifts) tw999 tw624 tw12 tw625 (Nat.le_of_ble_eq_true rfl) dX0_fewestGifts_74 ?_
      refine v_istore (ls' := [some (pA a0), some (pI a1), some (pI a2), none, some (pI a4), some (pI s3.1), some (pI s3.2.1), some (pI (imin s3.1 (w32 ((w32 (a1 + 1)).tdiv 2)))), some (pI (imax 0 (w32 (a1 - (w32 (2 * (imin s3.1 (w32 ((w32 (a1 + 1)).tdiv 2)))))))))]) dX0_fewestGifts_77 (by decide) rfl ?_
      refine v_iload dX0_fewestGifts_79 rfl ?_
      refine v_iload dX0_fewestGifts_81 rfl ?_
      refine v_icmp_gt (tgt := 94) dX0_fewestGifts_83 (by decide) (fun c5 => ?_) (fun c5 => ?_)
      · refine v_iconst dX0_fewestGifts_94 (by decide) ?_
        exact v_ireturn dX0_fewestGifts_95 rfl rfl
      · refine v_iload dX0_fewestGifts_86 rfl ?_
        refine v_iload dX0_fewestGifts_88 rfl ?_
        refine v_iadd dX0_fewestGifts_90 ?_
        refine v_goto (tgt := 95) dX0_fewestGifts_91 (by decide) ?_
        exact v_ireturn dX0_fewestGifts_95 rfl rfl
    · refine v_aload_n dX0_fewestGifts_24 rfl ?_
      refine v_iload dX0_fewestGifts_25 rfl ?_
      refine v_if (fun h8 => ?_)
      refine v_cV (mi := mX0_fewestGifts) (c0 := 0) (c1 := 0) (As := [pI s3.2.2]) (st := []) (kX0_counts d (by omega) _ _ _) rfl h8 rfl okX0_counts (Or.inl tw993) tw719 tw720 rfl (Nat.le_of_ble_eq_true rfl) dX0_fewestGifts_27 (fun r6 => [pI r6]) (fun r6 => M) (fun _ => rfl) (fun _ => rfl) (fun r6 h7 => ?_) rfl
      refine v_iconst dX0_fewestGifts_30 (by decide) ?_
      refine v_icmp_ne (tgt := 43) dX0_fewestGifts_31 (by decide) (fun c9 => ?_) (fun c9 => ?_)
      · refine v_iload dX0_fewestGifts_34 rfl ?_
        refine v_iload_n dX0_fewestGifts_36 rfl ?_
        refine v_iadd dX0_fewestGifts_37 ?_
        refine v_istore (ls' := [some (pA a0), some (pI a1), some (pI a2), none, some (pI a4), some (pI (w32 (s3.1 + a2))), some (pI s3.2.1), some (pI s3.2.2), none]) dX0_fewestGifts_38 (by decide) rfl ?_
        refine v_goto (tgt := 49) dX0_fewestGifts_40 (by decide) ?_
        refine v_iinc (ls' := [some (pA a0), some (pI a1), some (pI a2), none, some (pI a4), some (pI (w32 (s3.1 + a2))), some (pI s3.2.1), some (pI (w32 (s3.2.2 + 1))), none]) dX0_fewestGifts_49 (by decide) rfl rfl ?_
        refine v_goto (tgt := 17) dX0_fewestGifts_52 (by decide) ?_
        exact hrec2 (w32 (s3.1 + a2), s3.2.1, w32 (s3.2.2 + 1))
      · refine v_iload dX0_fewestGifts_43 rfl ?_
        refine v_iload_n dX0_fewestGifts_45 rfl ?_
        refine v_iadd dX0_fewestGifts_46 ?_
        refine v_istore (ls' := [some (pA a0), some (pI a1), some (pI a2), none, some (pI a4), some (pI s3.1), some (pI (w32 (s3.2.1 + a2))), some (pI s3.2.2), none]) dX0_fewestGifts_47 (by decide) rfl ?_
        refine v_iinc (ls' := [some (pA a0), some (pI a1), some (pI a2), none, some (pI a4), some (pI s3.1), some (pI (w32 (s3.2.1 + a2))), some (pI (w32 (s3.2.2 + 1))), none]) dX0_fewestGifts_49 (by decide) rfl rfl ?_
        refine v_goto (tgt := 17) dX0_fewestGifts_52 (by decide) ?_
        exact hrec2 (s3.1, w32 (s3.2.1 + a2), w32 (s3.2.2 + 1))
theorem chX1_init_0 : (cX1_init.data.toList.drop 0).take 16 = [42, 183, 0, 3, 42, 3, 181, 0, 9, 42, 16, 40, 188, 10, 181, 0] := by decide +kernel
theorem chX1_init_1 : (cX1_init.data.toList.drop 16).take 16 = [15, 42, 16, 40, 188, 10, 181, 0, 19, 42, 16, 40, 188, 10, 181, 0] := by decide +kernel
theorem chX1_init_2 : (cX1_init.data.toList.drop 32).take 16 = [22, 42, 16, 40, 188, 10, 181, 0, 25, 177] := by decide +kernel
theorem dX1_init_0 : decode cX1_init 0 = .ok (.aload_n 0, 1) := oq_42 (byt chX1_init_0 0 rfl)
theorem dX1_init_1 : decode cX1_init 1 = .ok (.invokespecial 3, 3) := oq_183 (byt chX1_init_0 1 rfl) (byt chX1_init_0 2 rfl) (byt chX1_init_0 3 rfl) rfl
theorem dX1_init_4 : decode cX1_init 4 = .ok (.aload_n 0, 1) := oq_42 (byt chX1_init_0 4 rfl)
theorem dX1_init_5 : decode cX1_init 5 = .ok (.iconst 0, 1) := oq_3 (byt chX1_init_0 5 rfl)
theorem dX1_init_6 : decode cX1_init 6 = .ok (.putfield 9, 3) := oq_181 (byt chX1_init_0 6 rfl) (byt chX1_init_0 7 rfl) (byt chX1_init_0 8 rfl) rfl
theorem dX1_init_9 : decode cX1_init 9 = .ok (.aload_n 0, 1) := oq_42 (byt chX1_init_0 9 rfl)
theorem dX1_init_10 : decode cX1_init 10 = .ok (.bipush 40, 2) := oq_16 (byt chX1_init_0 10 rfl) (byt chX1_init_0 11 rfl) rfl
theorem dX1_init_12 : decode cX1_init 12 = .ok (.newarray .int, 2) := by decide +kernel
theorem dX1_init_14 : decode cX1_init 14 = .ok (.putfield 15, 3) := oq_181 (byt chX1_init_0 14 rfl) (byt chX1_init_0 15 rfl) (byt chX1_init_1 0 rfl) rfl
theorem dX1_init_17 : decode cX1_init 17 = .ok (.aload_n 0, 1) := oq_42 (byt chX1_init_1 1 rfl)
theorem dX1_init_18 : decode cX1_init 18 = .ok (.bipush 40, 2) := oq_16 (byt chX1_init_1 2 rfl) (byt chX1_init_1 3 rfl) rfl
theorem dX1_init_20 : decode cX1_init 20 = .ok (.newarray .int, 2) := by decide +kernel
theorem dX1_init_22 : decode cX1_init 22 = .ok (.putfield 19, 3) := oq_181 (byt chX1_init_1 6 rfl) (byt chX1_init_1 7 rfl) (byt chX1_init_1 8 rfl) rfl
theorem dX1_init_25 : decode cX1_init 25 = .ok (.aload_n 0, 1) := oq_42 (byt chX1_init_1 9 rfl)
theorem dX1_init_26 : decode cX1_init 26 = .ok (.bipush 40, 2) := oq_16 (byt chX1_init_1 10 rfl) (byt chX1_init_1 11 rfl) rfl
theorem dX1_init_28 : decode cX1_init 28 = .ok (.newarray .int, 2) := by decide +kernel
theorem dX1_init_30 : decode cX1_init 30 = .ok (.putfield 22, 3) := oq_181 (byt chX1_init_1 14 rfl) (byt chX1_init_1 15 rfl) (byt chX1_init_2 0 rfl) rfl
theorem dX1_init_33 : decode cX1_init 33 = .ok (.aload_n 0, 1) := oq_42 (byt chX1_init_2 1 rfl)
theorem dX1_init_34 : decode cX1_init 34 = .ok (.bipush 40, 2) := oq_16 (byt chX1_init_2 2 rfl) (byt chX1_init_2 3 rfl) rfl
theorem dX1_init_36 : decode cX1_init 36 = .ok (.newarray .int, 2) := by decide +kernel
theorem dX1_init_38 : decode cX1_init 38 = .ok (.putfield 25, 3) := oq_181 (byt chX1_init_2 6 rfl) (byt chX1_init_2 7 rfl) (byt chX1_init_2 8 rfl) rfl
theorem dX1_init_41 : decode cX1_init 41 = .ok (.return_, 1) := oq_177 (byt chX1_init_2 9 rfl)
abbrev mX1_init : MI := (yX1_init, cX1_init, 1, none, noE)
theorem okX1_init : cok mX1_init 0 := ⟨tw146, tw5, by decide, by decide, by decide, by decide +kernel⟩
def fX1_init (M : Mem) (a0 : Int) : Option Mem :=
  if (0 : Int) ≤ a0 then if M.2.1 a0 = 1 then bM (mst M a0 0 0) fun M3 => bM (mnew M3 12 40) fun M5 => if M5.2.1 a0 = 1 then if (-1 : Int) ≤ (M3.2.2.2 : Int) then bM (mst M5 a0 1 (M3.2.2.2 : Int)) fun M9 => bM (mnew M9 12 40) fun M11 => if M11.2.1 a0 = 1 then if (-1 : Int) ≤ (M9.2.2.2 : Int) then bM (mst M11 a0 2 (M9.2.2.2 : Int)) fun M15 => bM (mnew M15 12 40) fun M17 => if M17.2.1 a0 = 1 then if (-1 : Int) ≤ (M15.2.2.2 : Int) then bM (mst M17 a0 3 (M15.2.2.2 : Int)) fun M21 => bM (mnew M21 12 40) fun M23 => if M23.2.1 a0 = 1 then if (-1 : Int) ≤ (M21.2.2.2 : Int) then bM (mst M23 a0 4 (M21.2.2.2 : Int)) fun M27 => some M27 else none else none else none else none else none else none else none else none else none else none
set_option maxRecDepth 100000 in
set_option maxHeartbeats 4000000 in
theorem kX1_init (d : Nat) (hd : 1 ≤ d) (M : Mem) (a0 : Int) : Ct mX1_init d 4 160 [pA a0] M dV (fX1_init M a0) := by
  obtain ⟨d, rfl⟩ : ∃ k, d = k + 1 := ⟨d - 1, by omega⟩
  refine Ct.of 0 (fun _ _ _ => trivial) (by decide +kernel) rfl ?_
  unfold fX1_init
  refine v_aload_n dX1_init_0 rfl ?_
  refine v_if (fun h1 => ?_)
  refine v_objInit (mi := mX1_init) h1 tw147 tw26 tw27 (Nat.le_of_ble_eq_true rfl) dX1_init_1 ?_
  refine v_aload_n dX1_init_4 rfl ?_
  refine v_iconst dX1_init_5 (by decide) ?_
  refine v_if (fun h2 => ?_)
  refine v_put (x := 0) 1 0 rfl inX1 (by decide) tw148 (Or.inl rfl) rfl dX1_init_6 h2 rfl id ?_
  refine v_bM (fun M3 e4 => ?_)
  refine v_aload_n dX1_init_9 rfl ?_
  refine v_bipush dX1_init_10 (by decide) ?_
  refine v_newarray (t := .int) (n := 40) 12 (by decide) (by decide) tw121 dX1_init_12 ?_
  refine v_bM (fun M5 e6 => ?_)
  refine v_if (fun h7 => ?_)
  refine v_if (fun h8 => ?_)
  refine v_put (x := (M3.2.2.2 : Int)) 1 1 rfl inX1 (by decide) tw152 (Or.inr ⟨rfl, rfl, rfl⟩) rfl dX1_init_14 h7 rfl (fun _ => h8) ?_
  refine v_bM (fun M9 e10 => ?_)
  refine v_aload_n dX1_init_17 rfl ?_
  refine v_bipush dX1_init_18 (by decide) ?_
  refine v_newarray (t := .int) (n := 40) 12 (by decide) (by decide) tw121 dX1_init_20 ?_
  refine v_bM (fun M11 e12 => ?_)
  refine v_if (fun h13 => ?_)
  refine v_if (fun h14 => ?_)
  refine v_put (x := (M9.2.2.2 : Int)) 1 2 rfl inX1 (by decide) tw155 (Or.inr ⟨rfl, rfl, rfl⟩) rfl dX1_init_22 h13 rfl (fun _ => h14) ?_
  refine v_bM (fun M15 e16 => ?_)
  refine v_aload_n dX1_init_25 rfl ?_
  refine v_bipush dX1_init_26 (by decide) ?_
  refine v_newarray (t := .int) (n := 40) 12 (by decide) (by decide) tw121 dX1_init_28 ?_
  refine v_bM (fun M17 e18 => ?_)
  refine v_if (fun h19 => ?_)
  refine v_if (fun h20 => ?_)
  refine v_put (x := (M15.2.2.2 : Int)) 1 3 rfl inX1 (by decide) tw158 (Or.inr ⟨rfl, rfl, rfl⟩) rfl dX1_init_30 h19 rfl (fun _ => h20) ?_
  refine v_bM (fun M21 e22 => ?_)
  refine v_aload_n dX1_init_33 rfl ?_
  refine v_bipush dX1_init_34 (by decide) ?_
  refine v_newarray (t := .int) (n := 40) 12 (by decide) (by decide) tw121 dX1_init_36 ?_
  refine v_bM (fun M23 e24 => ?_)
  refine v_if (fun h25 => ?_)
  refine v_if (fun h26 => ?_)
  refine v_put (x := (M21.2.2.2 : Int)) 1 4 rfl inX1 (by decide) tw161 (Or.inr ⟨rfl, rfl, rfl⟩) rfl dX1_init_38 h25 rfl (fun _ => h26) ?_
  refine v_bM (fun M27 e28 => ?_)
  exact v_return dX1_init_41 rfl rfl
theorem chX1_clear_0 : (cX1_clear.data.toList.drop 0).take 16 = [42, 3, 181, 0, 9, 177] := by decide +kernel
theorem dX1_clear_0 : decode cX1_clear 0 = .ok (.aload_n 0, 1) := oq_42 (byt chX1_clear_0 0 rfl)
theorem dX1_clear_1 : decode cX1_clear 1 = .ok (.iconst 0, 1) := oq_3 (byt chX1_clear_0 1 rfl)
theorem dX1_clear_2 : decode cX1_clear 2 = .ok (.putfield 9, 3) := oq_181 (byt chX1_clear_0 2 rfl) (byt chX1_clear_0 3 rfl) (byt chX1_clear_0 4 rfl) rfl
theorem dX1_clear_5 : decode cX1_clear 5 = .ok (.return_, 1) := oq_177 (byt chX1_clear_0 5 rfl)
abbrev mX1_clear : MI := (yX1_clear, cX1_clear, 1, none, noE)
theorem okX1_clear : cok mX1_clear 0 := ⟨tw483, tw5, by decide, by decide, by decide, by decide +kernel⟩
def fX1_clear (M : Mem) (a0 : Int) : Option Mem :=
  if M.2.1 a0 = 1 then bM (mst M a0 0 0) fun M2 => some M2 else none
set_option maxRecDepth 100000 in
set_option maxHeartbeats 4000000 in
theorem kX1_clear (d : Nat) (hd : 0 ≤ d) (M : Mem) (a0 : Int) : Ct mX1_clear d 0 0 [pA a0] M dV (fX1_clear M a0) := by
  refine Ct.of 0 (fun _ _ _ => trivial) (by decide +kernel) rfl ?_
  unfold fX1_clear
  refine v_aload_n dX1_clear_0 rfl ?_
  refine v_iconst dX1_clear_1 (by decide) ?_
  refine v_if (fun h1 => ?_)
  refine v_put (x := 0) 1 0 rfl inX1 (by decide) tw148 (Or.inl rfl) rfl dX1_clear_2 h1 rfl id ?_
  refine v_bM (fun M2 e3 => ?_)
  exact v_return dX1_clear_5 rfl rfl
theorem chX1_add_0 : (cX1_add.data.toList.drop 0).take 16 = [42, 180, 0, 9, 16, 40, 162, 0, 54, 42, 180, 0, 15, 42, 180, 0] := by decide +kernel
theorem chX1_add_1 : (cX1_add.data.toList.drop 16).take 16 = [9, 27, 79, 42, 180, 0, 19, 42, 180, 0, 9, 28, 79, 42, 180, 0] := by decide +kernel
theorem chX1_add_2 : (cX1_add.data.toList.drop 32).take 16 = [22, 42, 180, 0, 9, 29, 79, 42, 180, 0, 25, 42, 180, 0, 9, 21] := by decide +kernel
theorem chX1_add_3 : (cX1_add.data.toList.drop 48).take 16 = [4, 79, 42, 89, 180, 0, 9, 4, 96, 181, 0, 9, 177] := by decide +kernel
theorem dX1_add_0 : decode cX1_add 0 = .ok (.aload_n 0, 1) := oq_42 (byt chX1_add_0 0 rfl)
theorem dX1_add_1 : decode cX1_add 1 = .ok (.getfield 9, 3) := oq_180 (byt chX1_add_0 1 rfl) (byt chX1_add_0 2 rfl) (byt chX1_add_0 3 rfl) rfl
theorem dX1_add_4 : decode cX1_add 4 = .ok (.bipush 40, 2) := oq_16 (byt chX1_add_0 4 rfl) (byt chX1_add_0 5 rfl) rfl
theorem dX1_add_6 : decode cX1_add 6 = .ok (.if_icmp .ge 54, 3) := oq_162 (byt chX1_add_0 6 rfl) (byt chX1_add_0 7 rfl) (byt chX1_add_0 8 rfl) (by decide +kernel)
theorem dX1_add_9 : decode cX1_add 9 = .ok (.aload_n 0, 1) := oq_42 (byt chX1_add_0 9 rfl)
theorem dX1_add_10 : decode cX1_add 10 = .ok (.getfield 15, 3) := oq_180 (byt chX1_add_0 10 rfl) (byt chX1_add_0 11 rfl) (byt chX1_add_0 12 rfl) rfl
theorem dX1_add_13 : decode cX1_add 13 = .ok (.aload_n 0, 1) := oq_42 (byt chX1_add_0 13 rfl)
theorem dX1_add_14 : decode cX1_add 14 = .ok (.getfield 9, 3) := oq_180 (byt chX1_add_0 14 rfl) (byt chX1_add_0 15 rfl) (byt chX1_add_1 0 rfl) rfl
theorem dX1_add_17 : decode cX1_add 17 = .ok (.iload_n 1, 1) := oq_27 (byt chX1_add_1 1 rfl)
theorem dX1_add_18 : decode cX1_add 18 = .ok (.iastore, 1) := oq_79 (byt chX1_add_1 2 rfl)
theorem dX1_add_19 : decode cX1_add 19 = .ok (.aload_n 0, 1) := oq_42 (byt chX1_add_1 3 rfl)
theorem dX1_add_20 : decode cX1_add 20 = .ok (.getfield 19, 3) := oq_180 (byt chX1_add_1 4 rfl) (byt chX1_add_1 5 rfl) (byt chX1_add_1 6 rfl) rfl
theorem dX1_add_23 : decode cX1_add 23 = .ok (.aload_n 0, 1) := oq_42 (byt chX1_add_1 7 rfl)
theorem dX1_add_24 : decode cX1_add 24 = .ok (.getfield 9, 3) := oq_180 (byt chX1_add_1 8 rfl) (byt chX1_add_1 9 rfl) (byt chX1_add_1 10 rfl) rfl
theorem dX1_add_27 : decode cX1_add 27 = .ok (.iload_n 2, 1) := oq_28 (byt chX1_add_1 11 rfl)
theorem dX1_add_28 : decode cX1_add 28 = .ok (.iastore, 1) := oq_79 (byt chX1_add_1 12 rfl)
theorem dX1_add_29 : decode cX1_add 29 = .ok (.aload_n 0, 1) := oq_42 (byt chX1_add_1 13 rfl)
theorem dX1_add_30 : decode cX1_add 30 = .ok (.getfield 22, 3) := oq_180 (byt chX1_add_1 14 rfl) (byt chX1_add_1 15 rfl) (byt chX1_add_2 0 rfl) rfl
theorem dX1_add_33 : decode cX1_add 33 = .ok (.aload_n 0, 1) := oq_42 (byt chX1_add_2 1 rfl)
theorem dX1_add_34 : decode cX1_add 34 = .ok (.getfield 9, 3) := oq_180 (byt chX1_add_2 2 rfl) (byt chX1_add_2 3 rfl) (byt chX1_add_2 4 rfl) rfl
theorem dX1_add_37 : decode cX1_add 37 = .ok (.iload_n 3, 1) := oq_29 (byt chX1_add_2 5 rfl)
theorem dX1_add_38 : decode cX1_add 38 = .ok (.iastore, 1) := oq_79 (byt chX1_add_2 6 rfl)
theorem dX1_add_39 : decode cX1_add 39 = .ok (.aload_n 0, 1) := oq_42 (byt chX1_add_2 7 rfl)
theorem dX1_add_40 : decode cX1_add 40 = .ok (.getfield 25, 3) := oq_180 (byt chX1_add_2 8 rfl) (byt chX1_add_2 9 rfl) (byt chX1_add_2 10 rfl) rfl
theorem dX1_add_43 : decode cX1_add 43 = .ok (.aload_n 0, 1) := oq_42 (byt chX1_add_2 11 rfl)
theorem dX1_add_44 : decode cX1_add 44 = .ok (.getfield 9, 3) := oq_180 (byt chX1_add_2 12 rfl) (byt chX1_add_2 13 rfl) (byt chX1_add_2 14 rfl) rfl
theorem dX1_add_47 : decode cX1_add 47 = .ok (.iload 4, 2) := oq_21 (byt chX1_add_2 15 rfl) (byt chX1_add_3 0 rfl) rfl
theorem dX1_add_49 : decode cX1_add 49 = .ok (.iastore, 1) := oq_79 (byt chX1_add_3 1 rfl)
theorem dX1_add_50 : decode cX1_add 50 = .ok (.aload_n 0, 1) := oq_42 (byt chX1_add_3 2 rfl)
theorem dX1_add_51 : decode cX1_add 51 = .ok (.dup, 1) := oq_89 (byt chX1_add_3 3 rfl)
theorem dX1_add_52 : decode cX1_add 52 = .ok (.getfield 9, 3) := oq_180 (byt chX1_add_3 4 rfl) (byt chX1_add_3 5 rfl) (byt chX1_add_3 6 rfl) rfl
theorem dX1_add_55 : decode cX1_add 55 = .ok (.iconst 1, 1) := oq_4 (byt chX1_add_3 7 rfl)
theorem dX1_add_56 : decode cX1_add 56 = .ok (.iadd, 1) := oq_96 (byt chX1_add_3 8 rfl)
theorem dX1_add_57 : decode cX1_add 57 = .ok (.putfield 9, 3) := oq_181 (byt chX1_add_3 9 rfl) (byt chX1_add_3 10 rfl) (byt chX1_add_3 11 rfl) rfl
theorem dX1_add_60 : decode cX1_add 60 = .ok (.return_, 1) := oq_177 (byt chX1_add_3 12 rfl)
abbrev mX1_add : MI := (yX1_add, cX1_add, 5, none, noE)
theorem okX1_add : cok mX1_add 4 := ⟨tw637, tw5, by decide, by decide, by decide, by decide +kernel⟩
def fX1_add (M : Mem) (a0 a1 a2 a3 a4 : Int) : Option Mem :=
  if M.2.1 a0 = 1 then if M.1 a0 0 < 40 then (if M.2.1 (M.1 a0 1) = 12 ∧ (0 : Int) ≤ (M.1 a0 0) ∧ (M.1 a0 0) < M.2.2.1 (M.1 a0 1) then bM (mst M (M.1 a0 1) (M.1 a0 0) a1) fun M4 => if M4.2.1 (M4.1 a0 2) = 12 ∧ (0 : Int) ≤ (M4.1 a0 0) ∧ (M4.1 a0 0) < M4.2.2.1 (M4.1 a0 2) then bM (mst M4 (M4.1 a0 2) (M4.1 a0 0) a2) fun M7 => if M7.2.1 (M7.1 a0 3) = 12 ∧ (0 : Int) ≤ (M7.1 a0 0) ∧ (M7.1 a0 0) < M7.2.2.1 (M7.1 a0 3) then bM (mst M7 (M7.1 a0 3) (M7.1 a0 0) a3) fun M10 => if M10.2.1 (M10.1 a0 4) = 12 ∧ (0 : Int) ≤ (M10.1 a0 0) ∧ (M10.1 a0 0) < M10.2.2.1 (M10.1 a0 4) then bM (mst M10 (M10.1 a0 4) (M10.1 a0 0) a4) fun M13 => bM (mst M13 a0 0 (w32 ((M13.1 a0 0) + 1))) fun M15 => some M15 else none else none else none else none) else (some M) else none
set_option maxRecDepth 100000 in
set_option maxHeartbeats 4000000 in
theorem kX1_add (d : Nat) (hd : 0 ≤ d) (M : Mem) (a0 a1 a2 a3 a4 : Int) : Ct mX1_add d 0 0 [pA a0, pI a1, pI a2, pI a3, pI a4] M dV (fX1_add M a0 a1 a2 a3 a4) := by
  refine Ct.of 0 (fun _ _ _ => trivial) (by decide +kernel) rfl ?_
  unfold fX1_add
  refine v_aload_n dX1_add_0 rfl ?_
  refine v_if (fun h1 => ?_)
  refine v_get (v := pI (M.1 a0 0)) 1 0 rfl inX1 (by decide) tw148 dX1_add_1 h1 rfl ?_
  refine v_bipush dX1_add_4 (by decide) ?_
  refine v_icmp_ge (tgt := 60) dX1_add_6 (by decide) (fun c2 => ?_) (fun c2 => ?_)
  · refine v_aload_n dX1_add_9 rfl ?_
    refine v_get (v := pA (M.1 a0 1)) 1 1 rfl inX1 (by decide) tw152 dX1_add_10 h1 rfl ?_
    refine v_aload_n dX1_add_13 rfl ?_
    refine v_get (v := pI (M.1 a0 0)) 1 0 rfl inX1 (by decide) tw148 dX1_add_14 h1 rfl ?_
    refine v_iload_n dX1_add_17 rfl ?_
    refine v_if (fun h3 => ?_)
    refine v_iastore h3 dX1_add_18 ?_
    refine v_bM (fun M4 e5 => ?_)
    refine v_aload_n dX1_add_19 rfl ?_
    refine v_get (v := pA (M4.1 a0 2)) 1 2 rfl inX1 (by decide) tw155 dX1_add_20 (by rw [e5]; exact h1) rfl ?_
    refine v_aload_n dX1_add_23 rfl ?_
    refine v_get (v := pI (M4.1 a0 0)) 1 0 rfl inX1 (by decide) tw148 dX1_add_24 (by rw [e5]; exact h1) rfl ?_
    refine v_iload_n dX1_add_27 rfl ?_
    refine v_if (fun h6 => ?_)
    refine v_iastore h6 dX1_add_28 ?_
    refine v_bM (fun M7 e8 => ?_)
    refine v_aload_n dX1_add_29 rfl ?_
    refine v_get (v := pA (M7.1 a0 3)) 1 3 rfl inX1 (by decide) tw158 dX1_add_30 (by rw [e8, e5]; exact h1) rfl ?_
    refine v_aload_n dX1_add_33 rfl ?_
    refine v_get (v := pI (M7.1 a0 0)) 1 0 rfl inX1 (by decide) tw148 dX1_add_34 (by rw [e8, e5]; exact h1) rfl ?_
    refine v_iload_n dX1_add_37 rfl ?_
    refine v_if (fun h9 => ?_)
    refine v_iastore h9 dX1_add_38 ?_
    refine v_bM (fun M10 e11 => ?_)
    refine v_aload_n dX1_add_39 rfl ?_
    refine v_get (v := pA (M10.1 a0 4)) 1 4 rfl inX1 (by decide) tw161 dX1_add_40 (by rw [e11, e8, e5]; exact h1) rfl ?_
    refine v_aload_n dX1_add_43 rfl ?_
    refine v_get (v := pI (M10.1 a0 0)) 1 0 rfl inX1 (by decide) tw148 dX1_add_44 (by rw [e11, e8, e5]; exact h1) rfl ?_
    refine v_iload dX1_add_47 rfl ?_
    refine v_if (fun h12 => ?_)
    refine v_iastore h12 dX1_add_49 ?_
    refine v_bM (fun M13 e14 => ?_)
    refine v_aload_n dX1_add_50 rfl ?_
    refine v_dup dX1_add_51 (by intro z hz; cases hz) ?_
    refine v_get (v := pI (M13.1 a0 0)) 1 0 rfl inX1 (by decide) tw148 dX1_add_52 (by rw [e14, e11, e8, e5]; exact h1) rfl ?_
    refine v_iconst dX1_add_55 (by decide) ?_
    refine v_iadd dX1_add_56 ?_
    refine v_put (x := w32 ((M13.1 a0 0) + 1)) 1 0 rfl inX1 (by decide) tw148 (Or.inl rfl) rfl dX1_add_57 (by rw [e14, e11, e8, e5]; exact h1) rfl id ?_
    refine v_bM (fun M15 e16 => ?_)
    exact v_return dX1_add_60 rfl rfl
  · exact v_return dX1_add_60 rfl rfl
theorem chX10_copyRow_0 : (cX10_copyRow.data.toList.drop 0).take 16 = [42, 3, 43, 3, 42, 190, 43, 190, 184, 1, 89, 184, 1, 94, 177] := by decide +kernel
theorem dX10_copyRow_0 : decode cX10_copyRow 0 = .ok (.aload_n 0, 1) := oq_42 (byt chX10_copyRow_0 0 rfl)
theorem dX10_copyRow_1 : decode cX10_copyRow 1 = .ok (.iconst 0, 1) := oq_3 (byt chX10_copyRow_0 1 rfl)
theorem dX10_copyRow_2 : decode cX10_copyRow 2 = .ok (.aload_n 1, 1) := oq_43 (byt chX10_copyRow_0 2 rfl)
theorem dX10_copyRow_3 : decode cX10_copyRow 3 = .ok (.iconst 0, 1) := oq_3 (byt chX10_copyRow_0 3 rfl)
theorem dX10_copyRow_4 : decode cX10_copyRow 4 = .ok (.aload_n 0, 1) := oq_42 (byt chX10_copyRow_0 4 rfl)
theorem dX10_copyRow_5 : decode cX10_copyRow 5 = .ok (.arraylength, 1) := oq_190 (byt chX10_copyRow_0 5 rfl)
theorem dX10_copyRow_6 : decode cX10_copyRow 6 = .ok (.aload_n 1, 1) := oq_43 (byt chX10_copyRow_0 6 rfl)
theorem dX10_copyRow_7 : decode cX10_copyRow 7 = .ok (.arraylength, 1) := oq_190 (byt chX10_copyRow_0 7 rfl)
theorem dX10_copyRow_8 : decode cX10_copyRow 8 = .ok (.invokestatic 345, 3) := oq_184 (byt chX10_copyRow_0 8 rfl) (byt chX10_copyRow_0 9 rfl) (byt chX10_copyRow_0 10 rfl) rfl
theorem dX10_copyRow_11 : decode cX10_copyRow 11 = .ok (.invokestatic 350, 3) := oq_184 (byt chX10_copyRow_0 11 rfl) (byt chX10_copyRow_0 12 rfl) (byt chX10_copyRow_0 13 rfl) rfl
theorem dX10_copyRow_14 : decode cX10_copyRow 14 = .ok (.return_, 1) := oq_177 (byt chX10_copyRow_0 14 rfl)
abbrev mX10_copyRow : MI := (yX10_copyRow, cX10_copyRow, 2, none, noE)
theorem okX10_copyRow : cok mX10_copyRow 2 := ⟨tw652, tw1, by decide, by decide, by decide, by decide +kernel⟩
def fX10_copyRow (M : Mem) (a0 a1 : Int) : Option Mem :=
  if 11 ≤ M.2.1 a0 then if 11 ≤ M.2.1 a1 then if (M.2.1 a0 = 11 ∨ M.2.1 a0 = 12) ∧ M.2.1 a1 = M.2.1 a0 ∧ (0 : Int) ≤ (imin (M.2.2.1 a0) (M.2.2.1 a1)) ∧ (imin (M.2.2.1 a0) (M.2.2.1 a1)) ≤ M.2.2.1 a0 ∧ (imin (M.2.2.1 a0) (M.2.2.1 a1)) ≤ M.2.2.1 a1 then bM (mcp M a0 a1 (imin (M.2.2.1 a0) (M.2.2.1 a1))) fun M4 => some M4 else none else none else none
set_option maxRecDepth 100000 in
set_option maxHeartbeats 4000000 in
theorem kX10_copyRow (d : Nat) (hd : 1 ≤ d) (M : Mem) (a0 a1 : Int) : Ct mX10_copyRow d 0 0 [pA a0, pA a1] M dV (fX10_copyRow M a0 a1) := by
  obtain ⟨d, rfl⟩ : ∃ k, d = k + 1 := ⟨d - 1, by omega⟩
  refine Ct.of 0 (fun _ _ _ => trivial) (by decide +kernel) rfl ?_
  unfold fX10_copyRow
  refine v_aload_n dX10_copyRow_0 rfl ?_
  refine v_iconst dX10_copyRow_1 (by decide) ?_
  refine v_aload_n dX10_copyRow_2 rfl ?_
  refine v_iconst dX10_copyRow_3 (by decide) ?_
  refine v_aload_n dX10_copyRow_4 rfl ?_
  refine v_if (fun h1 => ?_)
  refine v_alen h1 dX10_copyRow_5 ?_
  refine v_aload_n dX10_copyRow_6 rfl ?_
  refine v_if (fun h2 => ?_)
  refine v_alen h2 dX10_copyRow_7 ?_
  refine v_mmin (mi := mX10_copyRow) tw653 tw469 tw12 tw470 (Nat.le_of_ble_eq_true rfl) dX10_copyRow_8 ?_
  refine v_if (fun h3 => ?_)
  refine v_acopy (mi := mX10_copyRow) h3 tw654 tw655 tw656 tw17 (Nat.le_of_ble_eq_true rfl) dX10_copyRow_11 ?_
  refine v_bM (fun M4 e5 => ?_)
  exact v_return dX10_copyRow_14 rfl rfl
theorem chX1_copy_0 : (cX1_copy.data.toList.drop 0).take 16 = [42, 43, 180, 0, 9, 181, 0, 9, 43, 180, 0, 15, 42, 180, 0, 15] := by decide +kernel
theorem chX1_copy_1 : (cX1_copy.data.toList.drop 16).take 16 = [184, 0, 28, 43, 180, 0, 19, 42, 180, 0, 19, 184, 0, 28, 43, 180] := by decide +kernel
theorem chX1_copy_2 : (cX1_copy.data.toList.drop 32).take 16 = [0, 22, 42, 180, 0, 22, 184, 0, 28, 43, 180, 0, 25, 42, 180, 0] := by decide +kernel
theorem chX1_copy_3 : (cX1_copy.data.toList.drop 48).take 16 = [25, 184, 0, 28, 177] := by decide +kernel
theorem dX1_copy_0 : decode cX1_copy 0 = .ok (.aload_n 0, 1) := oq_42 (byt chX1_copy_0 0 rfl)
theorem dX1_copy_1 : decode cX1_copy 1 = .ok (.aload_n 1, 1) := oq_43 (byt chX1_copy_0 1 rfl)
theorem dX1_copy_2 : decode cX1_copy 2 = .ok (.getfield 9, 3) := oq_180 (byt chX1_copy_0 2 rfl) (byt chX1_copy_0 3 rfl) (byt chX1_copy_0 4 rfl) rfl
theorem dX1_copy_5 : decode cX1_copy 5 = .ok (.putfield 9, 3) := oq_181 (byt chX1_copy_0 5 rfl) (byt chX1_copy_0 6 rfl) (byt chX1_copy_0 7 rfl) rfl
theorem dX1_copy_8 : decode cX1_copy 8 = .ok (.aload_n 1, 1) := oq_43 (byt chX1_copy_0 8 rfl)
theorem dX1_copy_9 : decode cX1_copy 9 = .ok (.getfield 15, 3) := oq_180 (byt chX1_copy_0 9 rfl) (byt chX1_copy_0 10 rfl) (byt chX1_copy_0 11 rfl) rfl
theorem dX1_copy_12 : decode cX1_copy 12 = .ok (.aload_n 0, 1) := oq_42 (byt chX1_copy_0 12 rfl)
theorem dX1_copy_13 : decode cX1_copy 13 = .ok (.getfield 15, 3) := oq_180 (byt chX1_copy_0 13 rfl) (byt chX1_copy_0 14 rfl) (byt chX1_copy_0 15 rfl) rfl
theorem dX1_copy_16 : decode cX1_copy 16 = .ok (.invokestatic 28, 3) := oq_184 (byt chX1_copy_1 0 rfl) (byt chX1_copy_1 1 rfl) (byt chX1_copy_1 2 rfl) rfl
theorem dX1_copy_19 : decode cX1_copy 19 = .ok (.aload_n 1, 1) := oq_43 (byt chX1_copy_1 3 rfl)
theorem dX1_copy_20 : decode cX1_copy 20 = .ok (.getfield 19, 3) := oq_180 (byt chX1_copy_1 4 rfl) (byt chX1_copy_1 5 rfl) (byt chX1_copy_1 6 rfl) rfl
theorem dX1_copy_23 : decode cX1_copy 23 = .ok (.aload_n 0, 1) := oq_42 (byt chX1_copy_1 7 rfl)
theorem dX1_copy_24 : decode cX1_copy 24 = .ok (.getfield 19, 3) := oq_180 (byt chX1_copy_1 8 rfl) (byt chX1_copy_1 9 rfl) (byt chX1_copy_1 10 rfl) rfl
theorem dX1_copy_27 : decode cX1_copy 27 = .ok (.invokestatic 28, 3) := oq_184 (byt chX1_copy_1 11 rfl) (byt chX1_copy_1 12 rfl) (byt chX1_copy_1 13 rfl) rfl
theorem dX1_copy_30 : decode cX1_copy 30 = .ok (.aload_n 1, 1) := oq_43 (byt chX1_copy_1 14 rfl)
theorem dX1_copy_31 : decode cX1_copy 31 = .ok (.getfield 22, 3) := oq_180 (byt chX1_copy_1 15 rfl) (byt chX1_copy_2 0 rfl) (byt chX1_copy_2 1 rfl) rfl
theorem dX1_copy_34 : decode cX1_copy 34 = .ok (.aload_n 0, 1) := oq_42 (byt chX1_copy_2 2 rfl)
theorem dX1_copy_35 : decode cX1_copy 35 = .ok (.getfield 22, 3) := oq_180 (byt chX1_copy_2 3 rfl) (byt chX1_copy_2 4 rfl) (byt chX1_copy_2 5 rfl) rfl
theorem dX1_copy_38 : decode cX1_copy 38 = .ok (.invokestatic 28, 3) := oq_184 (byt chX1_copy_2 6 rfl) (byt chX1_copy_2 7 rfl) (byt chX1_copy_2 8 rfl) rfl
theorem dX1_copy_41 : decode cX1_copy 41 = .ok (.aload_n 1, 1) := oq_43 (byt chX1_copy_2 9 rfl)
theorem dX1_copy_42 : decode cX1_copy 42 = .ok (.getfield 25, 3) := oq_180 (byt chX1_copy_2 10 rfl) (byt chX1_copy_2 11 rfl) (byt chX1_copy_2 12 rfl) rfl
theorem dX1_copy_45 : decode cX1_copy 45 = .ok (.aload_n 0, 1) := oq_42 (byt chX1_copy_2 13 rfl)
theorem dX1_copy_46 : decode cX1_copy 46 = .ok (.getfield 25, 3) := oq_180 (byt chX1_copy_2 14 rfl) (byt chX1_copy_2 15 rfl) (byt chX1_copy_3 0 rfl) rfl
theorem dX1_copy_49 : decode cX1_copy 49 = .ok (.invokestatic 28, 3) := oq_184 (byt chX1_copy_3 1 rfl) (byt chX1_copy_3 2 rfl) (byt chX1_copy_3 3 rfl) rfl
theorem dX1_copy_52 : decode cX1_copy 52 = .ok (.return_, 1) := oq_177 (byt chX1_copy_3 4 rfl)
abbrev mX1_copy : MI := (yX1_copy, cX1_copy, 2, none, noE)
theorem okX1_copy : cok mX1_copy 1 := ⟨tw664, tw5, by decide, by decide, by decide, by decide +kernel⟩
def fX1_copy (M : Mem) (a0 a1 : Int) : Option Mem :=
  if M.2.1 a1 = 1 then if M.2.1 a0 = 1 then bM (mst M a0 0 (M.1 a1 0)) fun M3 => (fX10_copyRow M3 (M3.1 a1 1) (M3.1 a0 1)).bind fun r5 => if r5.2.1 a1 = 1 then if r5.2.1 a0 = 1 then (fX10_copyRow r5 (r5.1 a1 2) (r5.1 a0 2)).bind fun r9 => if r9.2.1 a1 = 1 then if r9.2.1 a0 = 1 then (fX10_copyRow r9 (r9.1 a1 3) (r9.1 a0 3)).bind fun r13 => if r13.2.1 a1 = 1 then if r13.2.1 a0 = 1 then (fX10_copyRow r13 (r13.1 a1 4) (r13.1 a0 4)).bind fun r17 => some r17 else none else none else none else none else none else none else none else none
set_option maxRecDepth 100000 in
set_option maxHeartbeats 4000000 in
theorem kX1_copy (d : Nat) (hd : 2 ≤ d) (M : Mem) (a0 a1 : Int) : Ct mX1_copy d 0 0 [pA a0, pA a1] M dV (fX1_copy M a0 a1) := by
  obtain ⟨d, rfl⟩ : ∃ k, d = k + 1 := ⟨d - 1, by omega⟩
  refine Ct.of 0 (fun _ _ _ => trivial) (by decide +kernel) rfl ?_
  unfold fX1_copy
  refine v_aload_n dX1_copy_0 rfl ?_
  refine v_aload_n dX1_copy_1 rfl ?_
  refine v_if (fun h1 => ?_)
  refine v_get (v := pI (M.1 a1 0)) 1 0 rfl inX1 (by decide) tw148 dX1_copy_2 h1 rfl ?_
  refine v_if (fun h2 => ?_)
  refine v_put (x := M.1 a1 0) 1 0 rfl inX1 (by decide) tw148 (Or.inl rfl) rfl dX1_copy_5 h2 rfl id ?_
  refine v_bM (fun M3 e4 => ?_)
  refine v_aload_n dX1_copy_8 rfl ?_
  refine v_get (v := pA (M3.1 a1 1)) 1 1 rfl inX1 (by decide) tw152 dX1_copy_9 (by rw [e4]; exact h1) rfl ?_
  refine v_aload_n dX1_copy_12 rfl ?_
  refine v_get (v := pA (M3.1 a0 1)) 1 1 rfl inX1 (by decide) tw152 dX1_copy_13 (by rw [e4]; exact h2) rfl ?_
  refine v_cS (mi := mX1_copy) (c0 := 0) (c1 := 0) (As := [pA (M3.1 a1 1), pA (M3.1 a0 1)]) (st := []) (kX10_copyRow d (by omega) _ _ _) okX10_copyRow (Or.inr nw10) tw651 rfl (Nat.le_of_ble_eq_true rfl) dX1_copy_16 (fun r5 => []) (fun r5 => r5) (fun _ => rfl) (fun _ => rfl) (fun r5 h6 => ?_) rfl
  refine v_aload_n dX1_copy_19 rfl ?_
  refine v_if (fun h7 => ?_)
  refine v_get (v := pA (r5.1 a1 2)) 1 2 rfl inX1 (by decide) tw155 dX1_copy_20 h7 rfl ?_
  refine v_aload_n dX1_copy_23 rfl ?_
  refine v_if (fun h8 => ?_)
  refine v_get (v := pA (r5.1 a0 2)) 1 2 rfl inX1 (by decide) tw155 dX1_copy_24 h8 rfl ?_
  refine v_cS (mi := mX1_copy) (c0 := 0) (c1 := 0) (As := [pA (r5.1 a1 2), pA (r5.1 a0 2)]) (st := []) (kX10_copyRow d (by omega) _ _ _) okX10_copyRow (Or.inr nw10) tw651 rfl (Nat.le_of_ble_eq_true rfl) dX1_copy_27 (fun r9 => []) (fun r9 => r9) (fun _ => rfl) (fun _ => rfl) (fun r9 h10 => ?_) rfl
  refine v_aload_n dX1_copy_30 rfl ?_
  refine v_if (fun h11 => ?_)
  refine v_get (v := pA (r9.1 a1 3)) 1 3 rfl inX1 (by decide) tw158 dX1_copy_31 h11 rfl ?_
  refine v_aload_n dX1_copy_34 rfl ?_
  refine v_if (fun h12 => ?_)
  refine v_get (v := pA (r9.1 a0 3)) 1 3 rfl inX1 (by decide) tw158 dX1_copy_35 h12 rfl ?_
  refine v_cS (mi := mX1_copy) (c0 := 0) (c1 := 0) (As := [pA (r9.1 a1 3), pA (r9.1 a0 3)]) (st := []) (kX10_copyRow d (by omega) _ _ _) okX10_copyRow (Or.inr nw10) tw651 rfl (Nat.le_of_ble_eq_true rfl) dX1_copy_38 (fun r13 => []) (fun r13 => r13) (fun _ => rfl) (fun _ => rfl) (fun r13 h14 => ?_) rfl
  refine v_aload_n dX1_copy_41 rfl ?_
  refine v_if (fun h15 => ?_)
  refine v_get (v := pA (r13.1 a1 4)) 1 4 rfl inX1 (by decide) tw161 dX1_copy_42 h15 rfl ?_
  refine v_aload_n dX1_copy_45 rfl ?_
  refine v_if (fun h16 => ?_)
  refine v_get (v := pA (r13.1 a0 4)) 1 4 rfl inX1 (by decide) tw161 dX1_copy_46 h16 rfl ?_
  refine v_cS (mi := mX1_copy) (c0 := 0) (c1 := 0) (As := [pA (r13.1 a1 4), pA (r13.1 a0 4)]) (st := []) (kX10_copyRow d (by omega) _ _ _) okX10_copyRow (Or.inr nw10) tw651 rfl (Nat.le_of_ble_eq_true rfl) dX1_copy_49 (fun r17 => []) (fun r17 => r17) (fun _ => rfl) (fun _ => rfl) (fun r17 h18 => ?_) rfl
  exact v_return dX1_copy_52 rfl rfl
theorem chX10_fillRow_0 : (cX10_fillRow.data.toList.drop 0).take 16 = [3, 61, 28, 42, 190, 162, 0, 13, 42, 28, 27, 79, 132, 2, 1, 167] := by decide +kernel
theorem chX10_fillRow_1 : (cX10_fillRow.data.toList.drop 16).take 16 = [255, 243, 177] := by decide +kernel
theorem dX10_fillRow_0 : decode cX10_fillRow 0 = .ok (.iconst 0, 1) := oq_3 (byt chX10_fillRow_0 0 rfl)
theorem dX10_fillRow_1 : decode cX10_fillRow 1 = .ok (.istore_n 2, 1) := oq_61 (byt chX10_fillRow_0 1 rfl)
theorem dX10_fillRow_2 : decode cX10_fillRow 2 = .ok (.iload_n 2, 1) := oq_28 (byt chX10_fillRow_0 2 rfl)
theorem dX10_fillRow_3 : decode cX10_fillRow 3 = .ok (.aload_n 0, 1) := oq_42 (byt chX10_fillRow_0 3 rfl)
theorem dX10_fillRow_4 : decode cX10_fillRow 4 = .ok (.arraylength, 1) := oq_190 (byt chX10_fillRow_0 4 rfl)
theorem dX10_fillRow_5 : decode cX10_fillRow 5 = .ok (.if_icmp .ge 13, 3) := oq_162 (byt chX10_fillRow_0 5 rfl) (byt chX10_fillRow_0 6 rfl) (byt chX10_fillRow_0 7 rfl) (by decide +kernel)
theorem dX10_fillRow_8 : decode cX10_fillRow 8 = .ok (.aload_n 0, 1) := oq_42 (byt chX10_fillRow_0 8 rfl)
theorem dX10_fillRow_9 : decode cX10_fillRow 9 = .ok (.iload_n 2, 1) := oq_28 (byt chX10_fillRow_0 9 rfl)
theorem dX10_fillRow_10 : decode cX10_fillRow 10 = .ok (.iload_n 1, 1) := oq_27 (byt chX10_fillRow_0 10 rfl)
theorem dX10_fillRow_11 : decode cX10_fillRow 11 = .ok (.iastore, 1) := oq_79 (byt chX10_fillRow_0 11 rfl)
theorem dX10_fillRow_12 : decode cX10_fillRow 12 = .ok (.iinc 2 1, 3) := oq_132 (byt chX10_fillRow_0 12 rfl) (byt chX10_fillRow_0 13 rfl) (byt chX10_fillRow_0 14 rfl) rfl
theorem dX10_fillRow_15 : decode cX10_fillRow 15 = .ok (.goto (-13), 3) := oq_167 (byt chX10_fillRow_0 15 rfl) (byt chX10_fillRow_1 0 rfl) (byt chX10_fillRow_1 1 rfl) (by decide +kernel)
theorem dX10_fillRow_18 : decode cX10_fillRow 18 = .ok (.return_, 1) := oq_177 (byt chX10_fillRow_1 2 rfl)
abbrev mX10_fillRow : MI := (yX10_fillRow, cX10_fillRow, 3, none, noE)
theorem okX10_fillRow : cok mX10_fillRow 2 := ⟨tw53, tw1, by decide, by decide, by decide, by decide +kernel⟩
def fX10_fillRow (M : Mem) (a0 a1 : Int) : Option Mem :=
  iterC (fun (rec1 : (Int × Mem) → Option Mem) (s2 : Int × Mem) => if 11 ≤ s2.2.2.1 a0 then if s2.1 < s2.2.2.2.1 a0 then (if s2.2.2.1 a0 = 12 ∧ (0 : Int) ≤ s2.1 ∧ s2.1 < s2.2.2.2.1 a0 then bM (mst s2.2 a0 s2.1 a1) fun M6 => rec1 (w32 (s2.1 + 1), M6) else none) else (some s2.2) else none) BIG (0, M)
set_option maxRecDepth 100000 in
set_option maxHeartbeats 4000000 in
theorem kX10_fillRow (d : Nat) (hd : 0 ≤ d) (M : Mem) (a0 a1 : Int) : Ct mX10_fillRow d 0 0 [pA a0, pI a1] M dV (fX10_fillRow M a0 a1) := by
  refine Ct.of 1 (fun _ _ _ => trivial) (by decide +kernel) rfl ?_
  unfold fX10_fillRow
  refine v_iconst dX10_fillRow_0 (by decide) ?_
  refine v_istore_n (ls' := [some (pA a0), some (pI a1), some (pI 0)]) dX10_fillRow_1 (by decide) rfl ?_
  refine v_loop (fun (s2 : Int × Mem) => [some (pA a0), some (pI a1), some (pI s2.1)]) (fun (s2 : Int × Mem) => s2.2) (s0 := (0, M)) ?_
  intro rec1 hrec1 s2
  refine v_iload_n dX10_fillRow_2 rfl ?_
  refine v_aload_n dX10_fillRow_3 rfl ?_
  refine v_if (fun h3 => ?_)
  refine v_alen h3 dX10_fillRow_4 ?_
  refine v_icmp_ge (tgt := 18) dX10_fillRow_5 (by decide) (fun c4 => ?_) (fun c4 => ?_)
  · refine v_aload_n dX10_fillRow_8 rfl ?_
    refine v_iload_n dX10_fillRow_9 rfl ?_
    refine v_iload_n dX10_fillRow_10 rfl ?_
    refine v_if (fun h5 => ?_)
    refine v_iastore h5 dX10_fillRow_11 ?_
    refine v_bM (fun M6 e7 => ?_)
    refine v_iinc (ls' := [some (pA a0), some (pI a1), some (pI (w32 (s2.1 + 1)))]) dX10_fillRow_12 (by decide) rfl rfl ?_
    refine v_goto (tgt := 2) dX10_fillRow_15 (by decide) ?_
    exact hrec1 (w32 (s2.1 + 1), M6)
  · exact v_return dX10_fillRow_18 rfl rfl
theorem chX4_clear_0 : (cX4_clear.data.toList.drop 0).take 16 = [42, 3, 181, 0, 9, 42, 180, 0, 22, 2, 184, 0, 28, 177] := by decide +kernel
theorem dX4_clear_0 : decode cX4_clear 0 = .ok (.aload_n 0, 1) := oq_42 (byt chX4_clear_0 0 rfl)
theorem dX4_clear_1 : decode cX4_clear 1 = .ok (.iconst 0, 1) := oq_3 (byt chX4_clear_0 1 rfl)
theorem dX4_clear_2 : decode cX4_clear 2 = .ok (.putfield 9, 3) := oq_181 (byt chX4_clear_0 2 rfl) (byt chX4_clear_0 3 rfl) (byt chX4_clear_0 4 rfl) rfl
theorem dX4_clear_5 : decode cX4_clear 5 = .ok (.aload_n 0, 1) := oq_42 (byt chX4_clear_0 5 rfl)
theorem dX4_clear_6 : decode cX4_clear 6 = .ok (.getfield 22, 3) := oq_180 (byt chX4_clear_0 6 rfl) (byt chX4_clear_0 7 rfl) (byt chX4_clear_0 8 rfl) rfl
theorem dX4_clear_9 : decode cX4_clear 9 = .ok (.iconst (-1), 1) := oq_2 (byt chX4_clear_0 9 rfl)
theorem dX4_clear_10 : decode cX4_clear 10 = .ok (.invokestatic 28, 3) := oq_184 (byt chX4_clear_0 10 rfl) (byt chX4_clear_0 11 rfl) (byt chX4_clear_0 12 rfl) rfl
theorem dX4_clear_13 : decode cX4_clear 13 = .ok (.return_, 1) := oq_177 (byt chX4_clear_0 13 rfl)
abbrev mX4_clear : MI := (yX4_clear, cX4_clear, 1, none, noE)
theorem okX4_clear : cok mX4_clear 0 := ⟨tw183, tw6, by decide, by decide, by decide, by decide +kernel⟩
def fX4_clear (M : Mem) (a0 : Int) : Option Mem :=
  if M.2.1 a0 = 4 then bM (mst M a0 0 0) fun M2 => (fX10_fillRow M2 (M2.1 a0 3) (-1)).bind fun r4 => some r4 else none
set_option maxRecDepth 100000 in
set_option maxHeartbeats 4000000 in
theorem kX4_clear (d : Nat) (hd : 1 ≤ d) (M : Mem) (a0 : Int) : Ct mX4_clear d 0 0 [pA a0] M dV (fX4_clear M a0) := by
  obtain ⟨d, rfl⟩ : ∃ k, d = k + 1 := ⟨d - 1, by omega⟩
  refine Ct.of 0 (fun _ _ _ => trivial) (by decide +kernel) rfl ?_
  unfold fX4_clear
  refine v_aload_n dX4_clear_0 rfl ?_
  refine v_iconst dX4_clear_1 (by decide) ?_
  refine v_if (fun h1 => ?_)
  refine v_put (x := 0) 4 0 rfl inX4 (by decide) tw185 (Or.inl rfl) rfl dX4_clear_2 h1 rfl id ?_
  refine v_bM (fun M2 e3 => ?_)
  refine v_aload_n dX4_clear_5 rfl ?_
  refine v_get (v := pA (M2.1 a0 3)) 4 3 rfl inX4 (by decide) tw192 dX4_clear_6 (by rw [e3]; exact h1) rfl ?_
  refine v_iconst dX4_clear_9 (by decide) ?_
  refine v_cS (mi := mX4_clear) (c0 := 0) (c1 := 0) (As := [pA (M2.1 a0 3), pI (-1)]) (st := []) (kX10_fillRow d (by omega) _ _ _) okX10_fillRow (Or.inr nw3) tw52 rfl (Nat.le_of_ble_eq_true rfl) dX4_clear_10 (fun r4 => []) (fun r4 => r4) (fun _ => rfl) (fun _ => rfl) (fun r4 h5 => ?_) rfl
  exact v_return dX4_clear_13 rfl rfl
theorem chX4_init_0 : (cX4_init.data.toList.drop 0).take 16 = [42, 183, 0, 3, 42, 3, 181, 0, 9, 42, 16, 8, 188, 10, 181, 0] := by decide +kernel
theorem chX4_init_1 : (cX4_init.data.toList.drop 16).take 16 = [15, 42, 16, 8, 188, 10, 181, 0, 19, 42, 16, 30, 188, 10, 181, 0] := by decide +kernel
theorem chX4_init_2 : (cX4_init.data.toList.drop 32).take 16 = [22, 42, 182, 0, 25, 177] := by decide +kernel
theorem dX4_init_0 : decode cX4_init 0 = .ok (.aload_n 0, 1) := oq_42 (byt chX4_init_0 0 rfl)
theorem dX4_init_1 : decode cX4_init 1 = .ok (.invokespecial 3, 3) := oq_183 (byt chX4_init_0 1 rfl) (byt chX4_init_0 2 rfl) (byt chX4_init_0 3 rfl) rfl
theorem dX4_init_4 : decode cX4_init 4 = .ok (.aload_n 0, 1) := oq_42 (byt chX4_init_0 4 rfl)
theorem dX4_init_5 : decode cX4_init 5 = .ok (.iconst 0, 1) := oq_3 (byt chX4_init_0 5 rfl)
theorem dX4_init_6 : decode cX4_init 6 = .ok (.putfield 9, 3) := oq_181 (byt chX4_init_0 6 rfl) (byt chX4_init_0 7 rfl) (byt chX4_init_0 8 rfl) rfl
theorem dX4_init_9 : decode cX4_init 9 = .ok (.aload_n 0, 1) := oq_42 (byt chX4_init_0 9 rfl)
theorem dX4_init_10 : decode cX4_init 10 = .ok (.bipush 8, 2) := oq_16 (byt chX4_init_0 10 rfl) (byt chX4_init_0 11 rfl) rfl
theorem dX4_init_12 : decode cX4_init 12 = .ok (.newarray .int, 2) := by decide +kernel
theorem dX4_init_14 : decode cX4_init 14 = .ok (.putfield 15, 3) := oq_181 (byt chX4_init_0 14 rfl) (byt chX4_init_0 15 rfl) (byt chX4_init_1 0 rfl) rfl
theorem dX4_init_17 : decode cX4_init 17 = .ok (.aload_n 0, 1) := oq_42 (byt chX4_init_1 1 rfl)
theorem dX4_init_18 : decode cX4_init 18 = .ok (.bipush 8, 2) := oq_16 (byt chX4_init_1 2 rfl) (byt chX4_init_1 3 rfl) rfl
theorem dX4_init_20 : decode cX4_init 20 = .ok (.newarray .int, 2) := by decide +kernel
theorem dX4_init_22 : decode cX4_init 22 = .ok (.putfield 19, 3) := oq_181 (byt chX4_init_1 6 rfl) (byt chX4_init_1 7 rfl) (byt chX4_init_1 8 rfl) rfl
theorem dX4_init_25 : decode cX4_init 25 = .ok (.aload_n 0, 1) := oq_42 (byt chX4_init_1 9 rfl)
theorem dX4_init_26 : decode cX4_init 26 = .ok (.bipush 30, 2) := oq_16 (byt chX4_init_1 10 rfl) (byt chX4_init_1 11 rfl) rfl
theorem dX4_init_28 : decode cX4_init 28 = .ok (.newarray .int, 2) := by decide +kernel
theorem dX4_init_30 : decode cX4_init 30 = .ok (.putfield 22, 3) := oq_181 (byt chX4_init_1 14 rfl) (byt chX4_init_1 15 rfl) (byt chX4_init_2 0 rfl) rfl
theorem dX4_init_33 : decode cX4_init 33 = .ok (.aload_n 0, 1) := oq_42 (byt chX4_init_2 1 rfl)
theorem dX4_init_34 : decode cX4_init 34 = .ok (.invokevirtual 25, 3) := oq_182 (byt chX4_init_2 2 rfl) (byt chX4_init_2 3 rfl) (byt chX4_init_2 4 rfl) rfl
theorem dX4_init_37 : decode cX4_init 37 = .ok (.return_, 1) := oq_177 (byt chX4_init_2 5 rfl)
abbrev mX4_init : MI := (yX4_init, cX4_init, 1, none, noE)
theorem okX4_init : cok mX4_init 0 := ⟨tw178, tw6, by decide, by decide, by decide, by decide +kernel⟩
def fX4_init (M : Mem) (a0 : Int) : Option Mem :=
  if (0 : Int) ≤ a0 then if M.2.1 a0 = 4 then bM (mst M a0 0 0) fun M3 => bM (mnew M3 12 8) fun M5 => if M5.2.1 a0 = 4 then if (-1 : Int) ≤ (M3.2.2.2 : Int) then bM (mst M5 a0 1 (M3.2.2.2 : Int)) fun M9 => bM (mnew M9 12 8) fun M11 => if M11.2.1 a0 = 4 then if (-1 : Int) ≤ (M9.2.2.2 : Int) then bM (mst M11 a0 2 (M9.2.2.2 : Int)) fun M15 => bM (mnew M15 12 30) fun M17 => if M17.2.1 a0 = 4 then if (-1 : Int) ≤ (M15.2.2.2 : Int) then bM (mst M17 a0 3 (M15.2.2.2 : Int)) fun M21 => (fX4_clear M21 a0).bind fun r23 => some r23 else none else none else none else none else none else none else none else none
set_option maxRecDepth 100000 in
set_option maxHeartbeats 4000000 in
theorem kX4_init (d : Nat) (hd : 2 ≤ d) (M : Mem) (a0 : Int) : Ct mX4_init d 3 46 [pA a0] M dV (fX4_init M a0) := by
  obtain ⟨d, rfl⟩ : ∃ k, d = k + 1 := ⟨d - 1, by omega⟩
  refine Ct.of 0 (fun _ _ _ => trivial) (by decide +kernel) rfl ?_
  unfold fX4_init
  refine v_aload_n dX4_init_0 rfl ?_
  refine v_if (fun h1 => ?_)
  refine v_objInit (mi := mX4_init) h1 tw179 tw26 tw27 (Nat.le_of_ble_eq_true rfl) dX4_init_1 ?_
  refine v_aload_n dX4_init_4 rfl ?_
  refine v_iconst dX4_init_5 (by decide) ?_
  refine v_if (fun h2 => ?_)
  refine v_put (x := 0) 4 0 rfl inX4 (by decide) tw185 (Or.inl rfl) rfl dX4_init_6 h2 rfl id ?_
  refine v_bM (fun M3 e4 => ?_)
  refine v_aload_n dX4_init_9 rfl ?_
  refine v_bipush dX4_init_10 (by decide) ?_
  refine v_newarray (t := .int) (n := 8) 12 (by decide) (by decide) tw121 dX4_init_12 ?_
  refine v_bM (fun M5 e6 => ?_)
  refine v_if (fun h7 => ?_)
  refine v_if (fun h8 => ?_)
  refine v_put (x := (M3.2.2.2 : Int)) 4 1 rfl inX4 (by decide) tw188 (Or.inr ⟨rfl, rfl, rfl⟩) rfl dX4_init_14 h7 rfl (fun _ => h8) ?_
  refine v_bM (fun M9 e10 => ?_)
  refine v_aload_n dX4_init_17 rfl ?_
  refine v_bipush dX4_init_18 (by decide) ?_
  refine v_newarray (t := .int) (n := 8) 12 (by decide) (by decide) tw121 dX4_init_20 ?_
  refine v_bM (fun M11 e12 => ?_)
  refine v_if (fun h13 => ?_)
  refine v_if (fun h14 => ?_)
  refine v_put (x := (M9.2.2.2 : Int)) 4 2 rfl inX4 (by decide) tw190 (Or.inr ⟨rfl, rfl, rfl⟩) rfl dX4_init_22 h13 rfl (fun _ => h14) ?_
  refine v_bM (fun M15 e16 => ?_)
  refine v_aload_n dX4_init_25 rfl ?_
  refine v_bipush dX4_init_26 (by decide) ?_
  refine v_newarray (t := .int) (n := 30) 12 (by decide) (by decide) tw121 dX4_init_28 ?_
  refine v_bM (fun M17 e18 => ?_)
  refine v_if (fun h19 => ?_)
  refine v_if (fun h20 => ?_)
  refine v_put (x := (M15.2.2.2 : Int)) 4 3 rfl inX4 (by decide) tw192 (Or.inr ⟨rfl, rfl, rfl⟩) rfl dX4_init_30 h19 rfl (fun _ => h20) ?_
  refine v_bM (fun M21 e22 => ?_)
  refine v_aload_n dX4_init_33 rfl ?_
  refine v_cV (mi := mX4_init) (c0 := 0) (c1 := 0) (As := []) (st := []) (kX4_clear d (by omega) _ _) rfl (by rw [e22]; exact h19) rfl okX4_clear (Or.inl tw180) tw181 tw182 rfl (Nat.le_of_ble_eq_true rfl) dX4_init_34 (fun r23 => []) (fun r23 => r23) (fun _ => rfl) (fun _ => rfl) (fun r23 h24 => ?_) rfl
  exact v_return dX4_init_37 rfl rfl
theorem chX4_add_0 : (cX4_add.data.toList.drop 0).take 16 = [42, 180, 0, 9, 16, 8, 162, 0, 33, 42, 180, 0, 15, 42, 180, 0] := by decide +kernel
theorem chX4_add_1 : (cX4_add.data.toList.drop 16).take 16 = [9, 27, 79, 42, 180, 0, 19, 42, 180, 0, 9, 28, 79, 42, 89, 180] := by decide +kernel
theorem chX4_add_2 : (cX4_add.data.toList.drop 32).take 16 = [0, 9, 4, 96, 181, 0, 9, 177] := by decide +kernel
theorem dX4_add_0 : decode cX4_add 0 = .ok (.aload_n 0, 1) := oq_42 (byt chX4_add_0 0 rfl)
theorem dX4_add_1 : decode cX4_add 1 = .ok (.getfield 9, 3) := oq_180 (byt chX4_add_0 1 rfl) (byt chX4_add_0 2 rfl) (byt chX4_add_0 3 rfl) rfl
theorem dX4_add_4 : decode cX4_add 4 = .ok (.bipush 8, 2) := oq_16 (byt chX4_add_0 4 rfl) (byt chX4_add_0 5 rfl) rfl
theorem dX4_add_6 : decode cX4_add 6 = .ok (.if_icmp .ge 33, 3) := oq_162 (byt chX4_add_0 6 rfl) (byt chX4_add_0 7 rfl) (byt chX4_add_0 8 rfl) (by decide +kernel)
theorem dX4_add_9 : decode cX4_add 9 = .ok (.aload_n 0, 1) := oq_42 (byt chX4_add_0 9 rfl)
theorem dX4_add_10 : decode cX4_add 10 = .ok (.getfield 15, 3) := oq_180 (byt chX4_add_0 10 rfl) (byt chX4_add_0 11 rfl) (byt chX4_add_0 12 rfl) rfl
theorem dX4_add_13 : decode cX4_add 13 = .ok (.aload_n 0, 1) := oq_42 (byt chX4_add_0 13 rfl)
theorem dX4_add_14 : decode cX4_add 14 = .ok (.getfield 9, 3) := oq_180 (byt chX4_add_0 14 rfl) (byt chX4_add_0 15 rfl) (byt chX4_add_1 0 rfl) rfl
theorem dX4_add_17 : decode cX4_add 17 = .ok (.iload_n 1, 1) := oq_27 (byt chX4_add_1 1 rfl)
theorem dX4_add_18 : decode cX4_add 18 = .ok (.iastore, 1) := oq_79 (byt chX4_add_1 2 rfl)
theorem dX4_add_19 : decode cX4_add 19 = .ok (.aload_n 0, 1) := oq_42 (byt chX4_add_1 3 rfl)
theorem dX4_add_20 : decode cX4_add 20 = .ok (.getfield 19, 3) := oq_180 (byt chX4_add_1 4 rfl) (byt chX4_add_1 5 rfl) (byt chX4_add_1 6 rfl) rfl
theorem dX4_add_23 : decode cX4_add 23 = .ok (.aload_n 0, 1) := oq_42 (byt chX4_add_1 7 rfl)
theorem dX4_add_24 : decode cX4_add 24 = .ok (.getfield 9, 3) := oq_180 (byt chX4_add_1 8 rfl) (byt chX4_add_1 9 rfl) (byt chX4_add_1 10 rfl) rfl
theorem dX4_add_27 : decode cX4_add 27 = .ok (.iload_n 2, 1) := oq_28 (byt chX4_add_1 11 rfl)
theorem dX4_add_28 : decode cX4_add 28 = .ok (.iastore, 1) := oq_79 (byt chX4_add_1 12 rfl)
theorem dX4_add_29 : decode cX4_add 29 = .ok (.aload_n 0, 1) := oq_42 (byt chX4_add_1 13 rfl)
theorem dX4_add_30 : decode cX4_add 30 = .ok (.dup, 1) := oq_89 (byt chX4_add_1 14 rfl)
theorem dX4_add_31 : decode cX4_add 31 = .ok (.getfield 9, 3) := oq_180 (byt chX4_add_1 15 rfl) (byt chX4_add_2 0 rfl) (byt chX4_add_2 1 rfl) rfl
theorem dX4_add_34 : decode cX4_add 34 = .ok (.iconst 1, 1) := oq_4 (byt chX4_add_2 2 rfl)
theorem dX4_add_35 : decode cX4_add 35 = .ok (.iadd, 1) := oq_96 (byt chX4_add_2 3 rfl)
theorem dX4_add_36 : decode cX4_add 36 = .ok (.putfield 9, 3) := oq_181 (byt chX4_add_2 4 rfl) (byt chX4_add_2 5 rfl) (byt chX4_add_2 6 rfl) rfl
theorem dX4_add_39 : decode cX4_add 39 = .ok (.return_, 1) := oq_177 (byt chX4_add_2 7 rfl)
abbrev mX4_add : MI := (yX4_add, cX4_add, 3, none, noE)
theorem okX4_add : cok mX4_add 2 := ⟨tw641, tw6, by decide, by decide, by decide, by decide +kernel⟩
def fX4_add (M : Mem) (a0 a1 a2 : Int) : Option Mem :=
  if M.2.1 a0 = 4 then if M.1 a0 0 < 8 then (if M.2.1 (M.1 a0 1) = 12 ∧ (0 : Int) ≤ (M.1 a0 0) ∧ (M.1 a0 0) < M.2.2.1 (M.1 a0 1) then bM (mst M (M.1 a0 1) (M.1 a0 0) a1) fun M4 => if M4.2.1 (M4.1 a0 2) = 12 ∧ (0 : Int) ≤ (M4.1 a0 0) ∧ (M4.1 a0 0) < M4.2.2.1 (M4.1 a0 2) then bM (mst M4 (M4.1 a0 2) (M4.1 a0 0) a2) fun M7 => bM (mst M7 a0 0 (w32 ((M7.1 a0 0) + 1))) fun M9 => some M9 else none else none) else (some M) else none
set_option maxRecDepth 100000 in
set_option maxHeartbeats 4000000 in
theorem kX4_add (d : Nat) (hd : 0 ≤ d) (M : Mem) (a0 a1 a2 : Int) : Ct mX4_add d 0 0 [pA a0, pI a1, pI a2] M dV (fX4_add M a0 a1 a2) := by
  refine Ct.of 0 (fun _ _ _ => trivial) (by decide +kernel) rfl ?_
  unfold fX4_add
  refine v_aload_n dX4_add_0 rfl ?_
  refine v_if (fun h1 => ?_)
  refine v_get (v := pI (M.1 a0 0)) 4 0 rfl inX4 (by decide) tw185 dX4_add_1 h1 rfl ?_
  refine v_bipush dX4_add_4 (by decide) ?_
  refine v_icmp_ge (tgt := 39) dX4_add_6 (by decide) (fun c2 => ?_) (fun c2 => ?_)
  · refine v_aload_n dX4_add_9 rfl ?_
    refine v_get (v := pA (M.1 a0 1)) 4 1 rfl inX4 (by decide) tw188 dX4_add_10 h1 rfl ?_
    refine v_aload_n dX4_add_13 rfl ?_
    refine v_get (v := pI (M.1 a0 0)) 4 0 rfl inX4 (by decide) tw185 dX4_add_14 h1 rfl ?_
    refine v_iload_n dX4_add_17 rfl ?_
    refine v_if (fun h3 => ?_)
    refine v_iastore h3 dX4_add_18 ?_
    refine v_bM (fun M4 e5 => ?_)
    refine v_aload_n dX4_add_19 rfl ?_
    refine v_get (v := pA (M4.1 a0 2)) 4 2 rfl inX4 (by decide) tw190 dX4_add_20 (by rw [e5]; exact h1) rfl ?_
    refine v_aload_n dX4_add_23 rfl ?_
    refine v_get (v := pI (M4.1 a0 0)) 4 0 rfl inX4 (by decide) tw185 dX4_add_24 (by rw [e5]; exact h1) rfl ?_
    refine v_iload_n dX4_add_27 rfl ?_
    refine v_if (fun h6 => ?_)
    refine v_iastore h6 dX4_add_28 ?_
    refine v_bM (fun M7 e8 => ?_)
    refine v_aload_n dX4_add_29 rfl ?_
    refine v_dup dX4_add_30 (by intro z hz; cases hz) ?_
    refine v_get (v := pI (M7.1 a0 0)) 4 0 rfl inX4 (by decide) tw185 dX4_add_31 (by rw [e8, e5]; exact h1) rfl ?_
    refine v_iconst dX4_add_34 (by decide) ?_
    refine v_iadd dX4_add_35 ?_
    refine v_put (x := w32 ((M7.1 a0 0) + 1)) 4 0 rfl inX4 (by decide) tw185 (Or.inl rfl) rfl dX4_add_36 (by rw [e8, e5]; exact h1) rfl id ?_
    refine v_bM (fun M9 e10 => ?_)
    exact v_return dX4_add_39 rfl rfl
  · exact v_return dX4_add_39 rfl rfl
theorem chX4_copy_0 : (cX4_copy.data.toList.drop 0).take 16 = [42, 43, 180, 0, 9, 181, 0, 9, 43, 180, 0, 15, 42, 180, 0, 15] := by decide +kernel
theorem chX4_copy_1 : (cX4_copy.data.toList.drop 16).take 16 = [184, 0, 32, 43, 180, 0, 19, 42, 180, 0, 19, 184, 0, 32, 43, 180] := by decide +kernel
theorem chX4_copy_2 : (cX4_copy.data.toList.drop 32).take 16 = [0, 22, 42, 180, 0, 22, 184, 0, 32, 177] := by decide +kernel
theorem dX4_copy_0 : decode cX4_copy 0 = .ok (.aload_n 0, 1) := oq_42 (byt chX4_copy_0 0 rfl)
theorem dX4_copy_1 : decode cX4_copy 1 = .ok (.aload_n 1, 1) := oq_43 (byt chX4_copy_0 1 rfl)
theorem dX4_copy_2 : decode cX4_copy 2 = .ok (.getfield 9, 3) := oq_180 (byt chX4_copy_0 2 rfl) (byt chX4_copy_0 3 rfl) (byt chX4_copy_0 4 rfl) rfl
theorem dX4_copy_5 : decode cX4_copy 5 = .ok (.putfield 9, 3) := oq_181 (byt chX4_copy_0 5 rfl) (byt chX4_copy_0 6 rfl) (byt chX4_copy_0 7 rfl) rfl
theorem dX4_copy_8 : decode cX4_copy 8 = .ok (.aload_n 1, 1) := oq_43 (byt chX4_copy_0 8 rfl)
theorem dX4_copy_9 : decode cX4_copy 9 = .ok (.getfield 15, 3) := oq_180 (byt chX4_copy_0 9 rfl) (byt chX4_copy_0 10 rfl) (byt chX4_copy_0 11 rfl) rfl
theorem dX4_copy_12 : decode cX4_copy 12 = .ok (.aload_n 0, 1) := oq_42 (byt chX4_copy_0 12 rfl)
theorem dX4_copy_13 : decode cX4_copy 13 = .ok (.getfield 15, 3) := oq_180 (byt chX4_copy_0 13 rfl) (byt chX4_copy_0 14 rfl) (byt chX4_copy_0 15 rfl) rfl
theorem dX4_copy_16 : decode cX4_copy 16 = .ok (.invokestatic 32, 3) := oq_184 (byt chX4_copy_1 0 rfl) (byt chX4_copy_1 1 rfl) (byt chX4_copy_1 2 rfl) rfl
theorem dX4_copy_19 : decode cX4_copy 19 = .ok (.aload_n 1, 1) := oq_43 (byt chX4_copy_1 3 rfl)
theorem dX4_copy_20 : decode cX4_copy 20 = .ok (.getfield 19, 3) := oq_180 (byt chX4_copy_1 4 rfl) (byt chX4_copy_1 5 rfl) (byt chX4_copy_1 6 rfl) rfl
theorem dX4_copy_23 : decode cX4_copy 23 = .ok (.aload_n 0, 1) := oq_42 (byt chX4_copy_1 7 rfl)
theorem dX4_copy_24 : decode cX4_copy 24 = .ok (.getfield 19, 3) := oq_180 (byt chX4_copy_1 8 rfl) (byt chX4_copy_1 9 rfl) (byt chX4_copy_1 10 rfl) rfl
theorem dX4_copy_27 : decode cX4_copy 27 = .ok (.invokestatic 32, 3) := oq_184 (byt chX4_copy_1 11 rfl) (byt chX4_copy_1 12 rfl) (byt chX4_copy_1 13 rfl) rfl
theorem dX4_copy_30 : decode cX4_copy 30 = .ok (.aload_n 1, 1) := oq_43 (byt chX4_copy_1 14 rfl)
theorem dX4_copy_31 : decode cX4_copy 31 = .ok (.getfield 22, 3) := oq_180 (byt chX4_copy_1 15 rfl) (byt chX4_copy_2 0 rfl) (byt chX4_copy_2 1 rfl) rfl
theorem dX4_copy_34 : decode cX4_copy 34 = .ok (.aload_n 0, 1) := oq_42 (byt chX4_copy_2 2 rfl)
theorem dX4_copy_35 : decode cX4_copy 35 = .ok (.getfield 22, 3) := oq_180 (byt chX4_copy_2 3 rfl) (byt chX4_copy_2 4 rfl) (byt chX4_copy_2 5 rfl) rfl
theorem dX4_copy_38 : decode cX4_copy 38 = .ok (.invokestatic 32, 3) := oq_184 (byt chX4_copy_2 6 rfl) (byt chX4_copy_2 7 rfl) (byt chX4_copy_2 8 rfl) rfl
theorem dX4_copy_41 : decode cX4_copy 41 = .ok (.return_, 1) := oq_177 (byt chX4_copy_2 9 rfl)
abbrev mX4_copy : MI := (yX4_copy, cX4_copy, 2, none, noE)
theorem okX4_copy : cok mX4_copy 1 := ⟨tw669, tw6, by decide, by decide, by decide, by decide +kernel⟩
def fX4_copy (M : Mem) (a0 a1 : Int) : Option Mem :=
  if M.2.1 a1 = 4 then if M.2.1 a0 = 4 then bM (mst M a0 0 (M.1 a1 0)) fun M3 => (fX10_copyRow M3 (M3.1 a1 1) (M3.1 a0 1)).bind fun r5 => if r5.2.1 a1 = 4 then if r5.2.1 a0 = 4 then (fX10_copyRow r5 (r5.1 a1 2) (r5.1 a0 2)).bind fun r9 => if r9.2.1 a1 = 4 then if r9.2.1 a0 = 4 then (fX10_copyRow r9 (r9.1 a1 3) (r9.1 a0 3)).bind fun r13 => some r13 else none else none else none else none else none else none
set_option maxRecDepth 100000 in
set_option maxHeartbeats 4000000 in
theorem kX4_copy (d : Nat) (hd : 2 ≤ d) (M : Mem) (a0 a1 : Int) : Ct mX4_copy d 0 0 [pA a0, pA a1] M dV (fX4_copy M a0 a1) := by
  obtain ⟨d, rfl⟩ : ∃ k, d = k + 1 := ⟨d - 1, by omega⟩
  refine Ct.of 0 (fun _ _ _ => trivial) (by decide +kernel) rfl ?_
  unfold fX4_copy
  refine v_aload_n dX4_copy_0 rfl ?_
  refine v_aload_n dX4_copy_1 rfl ?_
  refine v_if (fun h1 => ?_)
  refine v_get (v := pI (M.1 a1 0)) 4 0 rfl inX4 (by decide) tw185 dX4_copy_2 h1 rfl ?_
  refine v_if (fun h2 => ?_)
  refine v_put (x := M.1 a1 0) 4 0 rfl inX4 (by decide) tw185 (Or.inl rfl) rfl dX4_copy_5 h2 rfl id ?_
  refine v_bM (fun M3 e4 => ?_)
  refine v_aload_n dX4_copy_8 rfl ?_
  refine v_get (v := pA (M3.1 a1 1)) 4 1 rfl inX4 (by decide) tw188 dX4_copy_9 (by rw [e4]; exact h1) rfl ?_
  refine v_aload_n dX4_copy_12 rfl ?_
  refine v_get (v := pA (M3.1 a0 1)) 4 1 rfl inX4 (by decide) tw188 dX4_copy_13 (by rw [e4]; exact h2) rfl ?_
  refine v_cS (mi := mX4_copy) (c0 := 0) (c1 := 0) (As := [pA (M3.1 a1 1), pA (M3.1 a0 1)]) (st := []) (kX10_copyRow d (by omega) _ _ _) okX10_copyRow (Or.inr nw11) tw651 rfl (Nat.le_of_ble_eq_true rfl) dX4_copy_16 (fun r5 => []) (fun r5 => r5) (fun _ => rfl) (fun _ => rfl) (fun r5 h6 => ?_) rfl
  refine v_aload_n dX4_copy_19 rfl ?_
  refine v_if (fun h7 => ?_)
  refine v_get (v := pA (r5.1 a1 2)) 4 2 rfl inX4 (by decide) tw190 dX4_copy_20 h7 rfl ?_
  refine v_aload_n dX4_copy_23 rfl ?_
  refine v_if (fun h8 => ?_)
  refine v_get (v := pA (r5.1 a0 2)) 4 2 rfl inX4 (by decide) tw190 dX4_copy_24 h8 rfl ?_
  refine v_cS (mi := mX4_copy) (c0 := 0) (c1 := 0) (As := [pA (r5.1 a1 2), pA (r5.1 a0 2)]) (st := []) (kX10_copyRow d (by omega) _ _ _) okX10_copyRow (Or.inr nw11) tw651 rfl (Nat.le_of_ble_eq_true rfl) dX4_copy_27 (fun r9 => []) (fun r9 => r9) (fun _ => rfl) (fun _ => rfl) (fun r9 h10 => ?_) rfl
  refine v_aload_n dX4_copy_30 rfl ?_
  refine v_if (fun h11 => ?_)
  refine v_get (v := pA (r9.1 a1 3)) 4 3 rfl inX4 (by decide) tw192 dX4_copy_31 h11 rfl ?_
  refine v_aload_n dX4_copy_34 rfl ?_
  refine v_if (fun h12 => ?_)
  refine v_get (v := pA (r9.1 a0 3)) 4 3 rfl inX4 (by decide) tw192 dX4_copy_35 h12 rfl ?_
  refine v_cS (mi := mX4_copy) (c0 := 0) (c1 := 0) (As := [pA (r9.1 a1 3), pA (r9.1 a0 3)]) (st := []) (kX10_copyRow d (by omega) _ _ _) okX10_copyRow (Or.inr nw11) tw651 rfl (Nat.le_of_ble_eq_true rfl) dX4_copy_38 (fun r13 => []) (fun r13 => r13) (fun _ => rfl) (fun _ => rfl) (fun r13 h14 => ?_) rfl
  exact v_return dX4_copy_41 rfl rfl
theorem chX4_alike_0 : (cX4_alike.data.toList.drop 0).take 16 = [3, 54, 4, 28, 54, 5, 21, 5, 29, 162, 0, 44, 42, 180, 0, 15] := by decide +kernel
theorem chX4_alike_1 : (cX4_alike.data.toList.drop 16).take 16 = [21, 5, 46, 42, 180, 0, 15, 27, 46, 160, 0, 22, 42, 180, 0, 19] := by decide +kernel
theorem chX4_alike_2 : (cX4_alike.data.toList.drop 32).take 16 = [21, 5, 46, 42, 180, 0, 19, 27, 46, 160, 0, 6, 132, 4, 1, 132] := by decide +kernel
theorem chX4_alike_3 : (cX4_alike.data.toList.drop 48).take 16 = [5, 1, 167, 255, 212, 21, 4, 172] := by decide +kernel
theorem dX4_alike_0 : decode cX4_alike 0 = .ok (.iconst 0, 1) := oq_3 (byt chX4_alike_0 0 rfl)
theorem dX4_alike_1 : decode cX4_alike 1 = .ok (.istore 4, 2) := oq_54 (byt chX4_alike_0 1 rfl) (byt chX4_alike_0 2 rfl) rfl
theorem dX4_alike_3 : decode cX4_alike 3 = .ok (.iload_n 2, 1) := oq_28 (byt chX4_alike_0 3 rfl)
theorem dX4_alike_4 : decode cX4_alike 4 = .ok (.istore 5, 2) := oq_54 (byt chX4_alike_0 4 rfl) (byt chX4_alike_0 5 rfl) rfl
theorem dX4_alike_6 : decode cX4_alike 6 = .ok (.iload 5, 2) := oq_21 (byt chX4_alike_0 6 rfl) (byt chX4_alike_0 7 rfl) rfl
theorem dX4_alike_8 : decode cX4_alike 8 = .ok (.iload_n 3, 1) := oq_29 (byt chX4_alike_0 8 rfl)
theorem dX4_alike_9 : decode cX4_alike 9 = .ok (.if_icmp .ge 44, 3) := oq_162 (byt chX4_alike_0 9 rfl) (byt chX4_alike_0 10 rfl) (byt chX4_alike_0 11 rfl) (by decide +kernel)
theorem dX4_alike_12 : decode cX4_alike 12 = .ok (.aload_n 0, 1) := oq_42 (byt chX4_alike_0 12 rfl)
theorem dX4_alike_13 : decode cX4_alike 13 = .ok (.getfield 15, 3) := oq_180 (byt chX4_alike_0 13 rfl) (byt chX4_alike_0 14 rfl) (byt chX4_alike_0 15 rfl) rfl
theorem dX4_alike_16 : decode cX4_alike 16 = .ok (.iload 5, 2) := oq_21 (byt chX4_alike_1 0 rfl) (byt chX4_alike_1 1 rfl) rfl
theorem dX4_alike_18 : decode cX4_alike 18 = .ok (.iaload, 1) := oq_46 (byt chX4_alike_1 2 rfl)
theorem dX4_alike_19 : decode cX4_alike 19 = .ok (.aload_n 0, 1) := oq_42 (byt chX4_alike_1 3 rfl)
theorem dX4_alike_20 : decode cX4_alike 20 = .ok (.getfield 15, 3) := oq_180 (byt chX4_alike_1 4 rfl) (byt chX4_alike_1 5 rfl) (byt chX4_alike_1 6 rfl) rfl
theorem dX4_alike_23 : decode cX4_alike 23 = .ok (.iload_n 1, 1) := oq_27 (byt chX4_alike_1 7 rfl)
theorem dX4_alike_24 : decode cX4_alike 24 = .ok (.iaload, 1) := oq_46 (byt chX4_alike_1 8 rfl)
theorem dX4_alike_25 : decode cX4_alike 25 = .ok (.if_icmp .ne 22, 3) := oq_160 (byt chX4_alike_1 9 rfl) (byt chX4_alike_1 10 rfl) (byt chX4_alike_1 11 rfl) (by decide +kernel)
theorem dX4_alike_28 : decode cX4_alike 28 = .ok (.aload_n 0, 1) := oq_42 (byt chX4_alike_1 12 rfl)
theorem dX4_alike_29 : decode cX4_alike 29 = .ok (.getfield 19, 3) := oq_180 (byt chX4_alike_1 13 rfl) (byt chX4_alike_1 14 rfl) (byt chX4_alike_1 15 rfl) rfl
theorem dX4_alike_32 : decode cX4_alike 32 = .ok (.iload 5, 2) := oq_21 (byt chX4_alike_2 0 rfl) (byt chX4_alike_2 1 rfl) rfl
theorem dX4_alike_34 : decode cX4_alike 34 = .ok (.iaload, 1) := oq_46 (byt chX4_alike_2 2 rfl)
theorem dX4_alike_35 : decode cX4_alike 35 = .ok (.aload_n 0, 1) := oq_42 (byt chX4_alike_2 3 rfl)
theorem dX4_alike_36 : decode cX4_alike 36 = .ok (.getfield 19, 3) := oq_180 (byt chX4_alike_2 4 rfl) (byt chX4_alike_2 5 rfl) (byt chX4_alike_2 6 rfl) rfl
theorem dX4_alike_39 : decode cX4_alike 39 = .ok (.iload_n 1, 1) := oq_27 (byt chX4_alike_2 7 rfl)
theorem dX4_alike_40 : decode cX4_alike 40 = .ok (.iaload, 1) := oq_46 (byt chX4_alike_2 8 rfl)
theorem dX4_alike_41 : decode cX4_alike 41 = .ok (.if_icmp .ne 6, 3) := oq_160 (byt chX4_alike_2 9 rfl) (byt chX4_alike_2 10 rfl) (byt chX4_alike_2 11 rfl) (by decide +kernel)
theorem dX4_alike_44 : decode cX4_alike 44 = .ok (.iinc 4 1, 3) := oq_132 (byt chX4_alike_2 12 rfl) (byt chX4_alike_2 13 rfl) (byt chX4_alike_2 14 rfl) rfl
theorem dX4_alike_47 : decode cX4_alike 47 = .ok (.iinc 5 1, 3) := oq_132 (byt chX4_alike_2 15 rfl) (byt chX4_alike_3 0 rfl) (byt chX4_alike_3 1 rfl) rfl
theorem dX4_alike_50 : decode cX4_alike 50 = .ok (.goto (-44), 3) := oq_167 (byt chX4_alike_3 2 rfl) (byt chX4_alike_3 3 rfl) (byt chX4_alike_3 4 rfl) (by decide +kernel)
theorem dX4_alike_53 : decode cX4_alike 53 = .ok (.iload 4, 2) := oq_21 (byt chX4_alike_3 5 rfl) (byt chX4_alike_3 6 rfl) rfl
theorem dX4_alike_55 : decode cX4_alike 55 = .ok (.ireturn, 1) := oq_172 (byt chX4_alike_3 7 rfl)
abbrev mX4_alike : MI := (yX4_alike, cX4_alike, 6, (some .int), noE)
theorem okX4_alike : cok mX4_alike 3 := ⟨tw952, tw6, by decide, by decide, by decide, by decide +kernel⟩
def fX4_alike (M : Mem) (a0 a1 a2 a3 : Int) : Option Int :=
  iterC (fun (rec1 : (Int × Int) → Option Int) (s2 : Int × Int) => if s2.2 < a3 then (if M.2.1 a0 = 4 then if M.2.1 (M.1 a0 1) = 12 ∧ (0 : Int) ≤ s2.2 ∧ s2.2 < M.2.2.1 (M.1 a0 1) then if M.2.1 (M.1 a0 1) = 12 ∧ (0 : Int) ≤ a1 ∧ a1 < M.2.2.1 (M.1 a0 1) then if M.1 (M.1 a0 1) s2.2 = M.1 (M.1 a0 1) a1 then (if M.2.1 (M.1 a0 2) = 12 ∧ (0 : Int) ≤ s2.2 ∧ s2.2 < M.2.2.1 (M.1 a0 2) then if M.2.1 (M.1 a0 2) = 12 ∧ (0 : Int) ≤ a1 ∧ a1 < M.2.2.1 (M.1 a0 2) then if M.1 (M.1 a0 2) s2.2 = M.1 (M.1 a0 2) a1 then (rec1 (w32 (s2.1 + 1), w32 (s2.2 + 1))) else (rec1 (s2.1, w32 (s2.2 + 1))) else none else none) else (rec1 (s2.1, w32 (s2.2 + 1))) else none else none else none) else (some s2.1)) BIG (0, a2)
set_option maxRecDepth 100000 in
set_option maxHeartbeats 4000000 in
theorem kX4_alike (d : Nat) (hd : 0 ≤ d) (M : Mem) (a0 a1 a2 a3 : Int) : Ct mX4_alike d 0 0 [pA a0, pI a1, pI a2, pI a3] M (dI M) (fX4_alike M a0 a1 a2 a3) := by
  refine Ct.of 2 (fun _ _ _ => trivial) (by decide +kernel) rfl ?_
  unfold fX4_alike
  refine v_iconst dX4_alike_0 (by decide) ?_
  refine v_istore (ls' := [some (pA a0), some (pI a1), some (pI a2), some (pI a3), some (pI 0), none]) dX4_alike_1 (by decide) rfl ?_
  refine v_iload_n dX4_alike_3 rfl ?_
  refine v_istore (ls' := [some (pA a0), some (pI a1), some (pI a2), some (pI a3), some (pI 0), some (pI a2)]) dX4_alike_4 (by decide) rfl ?_
  refine v_drop [some (pA a0), some (pI a1), none, some (pI a3), some (pI 0), some (pI a2)] (ls_s (ls_s (ls_n (ls_s (ls_s (ls_s ls_e)))))) ?_
  refine v_loop (fun (s2 : Int × Int) => [some (pA a0), some (pI a1), none, some (pI a3), some (pI s2.1), some (pI s2.2)]) (fun (s2 : Int × Int) => M) (s0 := (0, a2)) ?_
  intro rec1 hrec1 s2
  refine v_iload dX4_alike_6 rfl ?_
  refine v_iload_n dX4_alike_8 rfl ?_
  refine v_icmp_ge (tgt := 53) dX4_alike_9 (by decide) (fun c3 => ?_) (fun c3 => ?_)
  · refine v_aload_n dX4_alike_12 rfl ?_
    refine v_if (fun h4 => ?_)
    refine v_get (v := pA (M.1 a0 1)) 4 1 rfl inX4 (by decide) tw188 dX4_alike_13 h4 rfl ?_
    refine v_iload dX4_alike_16 rfl ?_
    refine v_if (fun h5 => ?_)
    refine v_iaload h5 dX4_alike_18 ?_
    refine v_aload_n dX4_alike_19 rfl ?_
    refine v_get (v := pA (M.1 a0 1)) 4 1 rfl inX4 (by decide) tw188 dX4_alike_20 h4 rfl ?_
    refine v_iload_n dX4_alike_23 rfl ?_
    refine v_if (fun h6 => ?_)
    refine v_iaload h6 dX4_alike_24 ?_
    refine v_icmp_ne (tgt := 47) dX4_alike_25 (by decide) (fun c7 => ?_) (fun c7 => ?_)
    · refine v_aload_n dX4_alike_28 rfl ?_
      refine v_get (v := pA (M.1 a0 2)) 4 2 rfl inX4 (by decide) tw190 dX4_alike_29 h4 rfl ?_
      refine v_iload dX4_alike_32 rfl ?_
      refine v_if (fun h8 => ?_)
      refine v_iaload h8 dX4_alike_34 ?_
      refine v_aload_n dX4_alike_35 rfl ?_
      refine v_get (v := pA (M.1 a0 2)) 4 2 rfl inX4 (by decide) tw190 dX4_alike_36 h4 rfl ?_
      refine v_iload_n dX4_alike_39 rfl ?_
      refine v_if (fun h9 => ?_)
      refine v_iaload h9 dX4_alike_40 ?_
      refine v_icmp_ne (tgt := 47) dX4_alike_41 (by decide) (fun c10 => ?_) (fun c10 => ?_)
      · refine v_iinc (ls' := [some (pA a0), some (pI a1), none, some (pI a3), some (pI (w32 (s2.1 + 1))), some (pI s2.2)]) dX4_alike_44 (by decide) rfl rfl ?_
        refine v_iinc (ls' := [some (pA a0), some (pI a1), none, some (pI a3), some (pI (w32 (s2.1 + 1))), some (pI (w32 (s2.2 + 1)))]) dX4_alike_47 (by decide) rfl rfl ?_
        refine v_goto (tgt := 6) dX4_alike_50 (by decide) ?_
        exact hrec1 (w32 (s2.1 + 1), w32 (s2.2 + 1))
      · refine v_iinc (ls' := [some (pA a0), some (pI a1), none, some (pI a3), some (pI s2.1), some (pI (w32 (s2.2 + 1)))]) dX4_alike_47 (by decide) rfl rfl ?_
        refine v_goto (tgt := 6) dX4_alike_50 (by decide) ?_
        exact hrec1 (s2.1, w32 (s2.2 + 1))
    · refine v_iinc (ls' := [some (pA a0), some (pI a1), none, some (pI a3), some (pI s2.1), some (pI (w32 (s2.2 + 1)))]) dX4_alike_47 (by decide) rfl rfl ?_
      refine v_goto (tgt := 6) dX4_alike_50 (by decide) ?_
      exact hrec1 (s2.1, w32 (s2.2 + 1))
  · refine v_iload dX4_alike_53 rfl ?_
    exact v_ireturn dX4_alike_55 rfl rfl
theorem chX10_cell_0 : (cX10_cell.data.toList.drop 0).take 16 = [8, 26, 104, 27, 96, 172] := by decide +kernel
theorem dX10_cell_0 : decode cX10_cell 0 = .ok (.iconst 5, 1) := oq_8 (byt chX10_cell_0 0 rfl)
theorem dX10_cell_1 : decode cX10_cell 1 = .ok (.iload_n 0, 1) := oq_26 (byt chX10_cell_0 1 rfl)
theorem dX10_cell_2 : decode cX10_cell 2 = .ok (.imul, 1) := oq_104 (byt chX10_cell_0 2 rfl)
theorem dX10_cell_3 : decode cX10_cell 3 = .ok (.iload_n 1, 1) := oq_27 (byt chX10_cell_0 3 rfl)
theorem dX10_cell_4 : decode cX10_cell 4 = .ok (.iadd, 1) := oq_96 (byt chX10_cell_0 4 rfl)
theorem dX10_cell_5 : decode cX10_cell 5 = .ok (.ireturn, 1) := oq_172 (byt chX10_cell_0 5 rfl)
abbrev mX10_cell : MI := (yX10_cell, cX10_cell, 2, (some .int), noE)
theorem okX10_cell : cok mX10_cell 2 := ⟨tw622, tw1, by decide, by decide, by decide, by decide +kernel⟩
def fX10_cell (M : Mem) (a0 a1 : Int) : Option Int :=
  some (w32 ((w32 (5 * a0)) + a1))
set_option maxRecDepth 100000 in
set_option maxHeartbeats 4000000 in
theorem kX10_cell (d : Nat) (hd : 0 ≤ d) (M : Mem) (a0 a1 : Int) : Ct mX10_cell d 0 0 [pI a0, pI a1] M (dI M) (fX10_cell M a0 a1) := by
  refine Ct.of 0 (fun _ _ _ => trivial) (by decide +kernel) rfl ?_
  unfold fX10_cell
  refine v_iconst dX10_cell_0 (by decide) ?_
  refine v_iload_n dX10_cell_1 rfl ?_
  refine v_imul dX10_cell_2 ?_
  refine v_iload_n dX10_cell_3 rfl ?_
  refine v_iadd dX10_cell_4 ?_
  exact v_ireturn dX10_cell_5 rfl rfl
theorem chX4_choices_0 : (cX4_choices.data.toList.drop 0).take 16 = [4, 61, 4, 62, 29, 27, 163, 0, 19, 28, 26, 27, 100, 29, 96, 104] := by decide +kernel
theorem chX4_choices_1 : (cX4_choices.data.toList.drop 16).take 16 = [29, 108, 61, 132, 3, 1, 167, 255, 238, 28, 172] := by decide +kernel
theorem dX4_choices_0 : decode cX4_choices 0 = .ok (.iconst 1, 1) := oq_4 (byt chX4_choices_0 0 rfl)
theorem dX4_choices_1 : decode cX4_choices 1 = .ok (.istore_n 2, 1) := oq_61 (byt chX4_choices_0 1 rfl)
theorem dX4_choices_2 : decode cX4_choices 2 = .ok (.iconst 1, 1) := oq_4 (byt chX4_choices_0 2 rfl)
theorem dX4_choices_3 : decode cX4_choices 3 = .ok (.istore_n 3, 1) := oq_62 (byt chX4_choices_0 3 rfl)
theorem dX4_choices_4 : decode cX4_choices 4 = .ok (.iload_n 3, 1) := oq_29 (byt chX4_choices_0 4 rfl)
theorem dX4_choices_5 : decode cX4_choices 5 = .ok (.iload_n 1, 1) := oq_27 (byt chX4_choices_0 5 rfl)
theorem dX4_choices_6 : decode cX4_choices 6 = .ok (.if_icmp .gt 19, 3) := oq_163 (byt chX4_choices_0 6 rfl) (byt chX4_choices_0 7 rfl) (byt chX4_choices_0 8 rfl) (by decide +kernel)
theorem dX4_choices_9 : decode cX4_choices 9 = .ok (.iload_n 2, 1) := oq_28 (byt chX4_choices_0 9 rfl)
theorem dX4_choices_10 : decode cX4_choices 10 = .ok (.iload_n 0, 1) := oq_26 (byt chX4_choices_0 10 rfl)
theorem dX4_choices_11 : decode cX4_choices 11 = .ok (.iload_n 1, 1) := oq_27 (byt chX4_choices_0 11 rfl)
theorem dX4_choices_12 : decode cX4_choices 12 = .ok (.isub, 1) := oq_100 (byt chX4_choices_0 12 rfl)
theorem dX4_choices_13 : decode cX4_choices 13 = .ok (.iload_n 3, 1) := oq_29 (byt chX4_choices_0 13 rfl)
theorem dX4_choices_14 : decode cX4_choices 14 = .ok (.iadd, 1) := oq_96 (byt chX4_choices_0 14 rfl)
theorem dX4_choices_15 : decode cX4_choices 15 = .ok (.imul, 1) := oq_104 (byt chX4_choices_0 15 rfl)
theorem dX4_choices_16 : decode cX4_choices 16 = .ok (.iload_n 3, 1) := oq_29 (byt chX4_choices_1 0 rfl)
theorem dX4_choices_17 : decode cX4_choices 17 = .ok (.idiv, 1) := oq_108 (byt chX4_choices_1 1 rfl)
theorem dX4_choices_18 : decode cX4_choices 18 = .ok (.istore_n 2, 1) := oq_61 (byt chX4_choices_1 2 rfl)
theorem dX4_choices_19 : decode cX4_choices 19 = .ok (.iinc 3 1, 3) := oq_132 (byt chX4_choices_1 3 rfl) (byt chX4_choices_1 4 rfl) (byt chX4_choices_1 5 rfl) rfl
theorem dX4_choices_22 : decode cX4_choices 22 = .ok (.goto (-18), 3) := oq_167 (byt chX4_choices_1 6 rfl) (byt chX4_choices_1 7 rfl) (byt chX4_choices_1 8 rfl) (by decide +kernel)
theorem dX4_choices_25 : decode cX4_choices 25 = .ok (.iload_n 2, 1) := oq_28 (byt chX4_choices_1 9 rfl)
theorem dX4_choices_26 : decode cX4_choices 26 = .ok (.ireturn, 1) := oq_172 (byt chX4_choices_1 10 rfl)
abbrev mX4_choices : MI := (yX4_choices, cX4_choices, 4, (some .int), noE)
theorem okX4_choices : cok mX4_choices 2 := ⟨tw960, tw6, by decide, by decide, by decide, by decide +kernel⟩
def fX4_choices (M : Mem) (a0 a1 : Int) : Option Int :=
  iterC (fun (rec1 : (Int × Int) → Option Int) (s2 : Int × Int) => if a1 < s2.2 then (some s2.1) else (if s2.2 ≠ 0 then rec1 (w32 ((w32 (s2.1 * (w32 ((w32 (a0 - a1)) + s2.2)))).tdiv s2.2), w32 (s2.2 + 1)) else none)) BIG (1, 1)
set_option maxRecDepth 100000 in
set_option maxHeartbeats 4000000 in
theorem kX4_choices (d : Nat) (hd : 0 ≤ d) (M : Mem) (a0 a1 : Int) : Ct mX4_choices d 0 0 [pI a0, pI a1] M (dI M) (fX4_choices M a0 a1) := by
  refine Ct.of 2 (fun _ _ _ => trivial) (by decide +kernel) rfl ?_
  unfold fX4_choices
  refine v_iconst dX4_choices_0 (by decide) ?_
  refine v_istore_n (ls' := [some (pI a0), some (pI a1), some (pI 1), none]) dX4_choices_1 (by decide) rfl ?_
  refine v_iconst dX4_choices_2 (by decide) ?_
  refine v_istore_n (ls' := [some (pI a0), some (pI a1), some (pI 1), some (pI 1)]) dX4_choices_3 (by decide) rfl ?_
  refine v_loop (fun (s2 : Int × Int) => [some (pI a0), some (pI a1), some (pI s2.1), some (pI s2.2)]) (fun (s2 : Int × Int) => M) (s0 := (1, 1)) ?_
  intro rec1 hrec1 s2
  refine v_iload_n dX4_choices_4 rfl ?_
  refine v_iload_n dX4_choices_5 rfl ?_
  refine v_icmp_gt (tgt := 25) dX4_choices_6 (by decide) (fun c3 => ?_) (fun c3 => ?_)
  · refine v_iload_n dX4_choices_25 rfl ?_
    exact v_ireturn dX4_choices_26 rfl rfl
  · refine v_iload_n dX4_choices_9 rfl ?_
    refine v_iload_n dX4_choices_10 rfl ?_
    refine v_iload_n dX4_choices_11 rfl ?_
    refine v_isub dX4_choices_12 ?_
    refine v_iload_n dX4_choices_13 rfl ?_
    refine v_iadd dX4_choices_14 ?_
    refine v_imul dX4_choices_15 ?_
    refine v_iload_n dX4_choices_16 rfl ?_
    refine v_if (fun h4 => ?_)
    refine v_idiv h4 dX4_choices_17 ?_
    refine v_istore_n (ls' := [some (pI a0), some (pI a1), some (pI (w32 ((w32 (s2.1 * (w32 ((w32 (a0 - a1)) + s2.2)))).tdiv s2.2))), some (pI s2.2)]) dX4_choices_18 (by decide) rfl ?_
    refine v_iinc (ls' := [some (pI a0), some (pI a1), some (pI (w32 ((w32 (s2.1 * (w32 ((w32 (a0 - a1)) + s2.2)))).tdiv s2.2))), some (pI (w32 (s2.2 + 1)))]) dX4_choices_19 (by decide) rfl rfl ?_
    refine v_goto (tgt := 4) dX4_choices_22 (by decide) ?_
    exact hrec1 (w32 ((w32 (s2.1 * (w32 ((w32 (a0 - a1)) + s2.2)))).tdiv s2.2), w32 (s2.2 + 1))
theorem chX4_waysOf_0 : (cX4_waysOf.data.toList.drop 0).take 16 = [28, 7, 161, 0, 13, 29, 154, 0, 7, 4, 167, 0, 4, 3, 172, 29] := by decide +kernel
theorem chX4_waysOf_1 : (cX4_waysOf.data.toList.drop 16).take 16 = [42, 180, 0, 48, 16, 30, 28, 104, 27, 96, 46, 184, 0, 53, 54, 4] := by decide +kernel
theorem chX4_waysOf_2 : (cX4_waysOf.data.toList.drop 32).take 16 = [3, 54, 5, 3, 54, 6, 21, 6, 21, 4, 163, 0, 33, 21, 5, 29] := by decide +kernel
theorem chX4_waysOf_3 : (cX4_waysOf.data.toList.drop 48).take 16 = [21, 6, 184, 0, 58, 42, 27, 28, 4, 96, 29, 21, 6, 100, 184, 0] := by decide +kernel
theorem chX4_waysOf_4 : (cX4_waysOf.data.toList.drop 64).take 16 = [44, 104, 96, 54, 5, 132, 6, 1, 167, 255, 222, 21, 5, 172] := by decide +kernel
theorem dX4_waysOf_0 : decode cX4_waysOf 0 = .ok (.iload_n 2, 1) := oq_28 (byt chX4_waysOf_0 0 rfl)
theorem dX4_waysOf_1 : decode cX4_waysOf 1 = .ok (.iconst 4, 1) := oq_7 (byt chX4_waysOf_0 1 rfl)
theorem dX4_waysOf_2 : decode cX4_waysOf 2 = .ok (.if_icmp .lt 13, 3) := oq_161 (byt chX4_waysOf_0 2 rfl) (byt chX4_waysOf_0 3 rfl) (byt chX4_waysOf_0 4 rfl) (by decide +kernel)
theorem dX4_waysOf_5 : decode cX4_waysOf 5 = .ok (.iload_n 3, 1) := oq_29 (byt chX4_waysOf_0 5 rfl)
theorem dX4_waysOf_6 : decode cX4_waysOf 6 = .ok (.ifCond .ne 7, 3) := oq_154 (byt chX4_waysOf_0 6 rfl) (byt chX4_waysOf_0 7 rfl) (byt chX4_waysOf_0 8 rfl) (by decide +kernel)
theorem dX4_waysOf_9 : decode cX4_waysOf 9 = .ok (.iconst 1, 1) := oq_4 (byt chX4_waysOf_0 9 rfl)
theorem dX4_waysOf_10 : decode cX4_waysOf 10 = .ok (.goto 4, 3) := oq_167 (byt chX4_waysOf_0 10 rfl) (byt chX4_waysOf_0 11 rfl) (byt chX4_waysOf_0 12 rfl) (by decide +kernel)
theorem dX4_waysOf_13 : decode cX4_waysOf 13 = .ok (.iconst 0, 1) := oq_3 (byt chX4_waysOf_0 13 rfl)
theorem dX4_waysOf_14 : decode cX4_waysOf 14 = .ok (.ireturn, 1) := oq_172 (byt chX4_waysOf_0 14 rfl)
theorem dX4_waysOf_15 : decode cX4_waysOf 15 = .ok (.iload_n 3, 1) := oq_29 (byt chX4_waysOf_0 15 rfl)
theorem dX4_waysOf_16 : decode cX4_waysOf 16 = .ok (.aload_n 0, 1) := oq_42 (byt chX4_waysOf_1 0 rfl)
theorem dX4_waysOf_17 : decode cX4_waysOf 17 = .ok (.getfield 48, 3) := oq_180 (byt chX4_waysOf_1 1 rfl) (byt chX4_waysOf_1 2 rfl) (byt chX4_waysOf_1 3 rfl) rfl
theorem dX4_waysOf_20 : decode cX4_waysOf 20 = .ok (.bipush 30, 2) := oq_16 (byt chX4_waysOf_1 4 rfl) (byt chX4_waysOf_1 5 rfl) rfl
theorem dX4_waysOf_22 : decode cX4_waysOf 22 = .ok (.iload_n 2, 1) := oq_28 (byt chX4_waysOf_1 6 rfl)
theorem dX4_waysOf_23 : decode cX4_waysOf 23 = .ok (.imul, 1) := oq_104 (byt chX4_waysOf_1 7 rfl)
theorem dX4_waysOf_24 : decode cX4_waysOf 24 = .ok (.iload_n 1, 1) := oq_27 (byt chX4_waysOf_1 8 rfl)
theorem dX4_waysOf_25 : decode cX4_waysOf 25 = .ok (.iadd, 1) := oq_96 (byt chX4_waysOf_1 9 rfl)
theorem dX4_waysOf_26 : decode cX4_waysOf 26 = .ok (.iaload, 1) := oq_46 (byt chX4_waysOf_1 10 rfl)
theorem dX4_waysOf_27 : decode cX4_waysOf 27 = .ok (.invokestatic 53, 3) := oq_184 (byt chX4_waysOf_1 11 rfl) (byt chX4_waysOf_1 12 rfl) (byt chX4_waysOf_1 13 rfl) rfl
theorem dX4_waysOf_30 : decode cX4_waysOf 30 = .ok (.istore 4, 2) := oq_54 (byt chX4_waysOf_1 14 rfl) (byt chX4_waysOf_1 15 rfl) rfl
theorem dX4_waysOf_32 : decode cX4_waysOf 32 = .ok (.iconst 0, 1) := oq_3 (byt chX4_waysOf_2 0 rfl)
theorem dX4_waysOf_33 : decode cX4_waysOf 33 = .ok (.istore 5, 2) := oq_54 (byt chX4_waysOf_2 1 rfl) (byt chX4_waysOf_2 2 rfl) rfl
theorem dX4_waysOf_35 : decode cX4_waysOf 35 = .ok (.iconst 0, 1) := oq_3 (byt chX4_waysOf_2 3 rfl)
theorem dX4_waysOf_36 : decode cX4_waysOf 36 = .ok (.istore 6, 2) := oq_54 (byt chX4_waysOf_2 4 rfl) (byt chX4_waysOf_2 5 rfl) rfl
theorem dX4_waysOf_38 : decode cX4_waysOf 38 = .ok (.iload 6, 2) := oq_21 (byt chX4_waysOf_2 6 rfl) (byt chX4_waysOf_2 7 rfl) rfl
theorem dX4_waysOf_40 : decode cX4_waysOf 40 = .ok (.iload 4, 2) := oq_21 (byt chX4_waysOf_2 8 rfl) (byt chX4_waysOf_2 9 rfl) rfl
theorem dX4_waysOf_42 : decode cX4_waysOf 42 = .ok (.if_icmp .gt 33, 3) := oq_163 (byt chX4_waysOf_2 10 rfl) (byt chX4_waysOf_2 11 rfl) (byt chX4_waysOf_2 12 rfl) (by decide +kernel)
theorem dX4_waysOf_45 : decode cX4_waysOf 45 = .ok (.iload 5, 2) := oq_21 (byt chX4_waysOf_2 13 rfl) (byt chX4_waysOf_2 14 rfl) rfl
theorem dX4_waysOf_47 : decode cX4_waysOf 47 = .ok (.iload_n 3, 1) := oq_29 (byt chX4_waysOf_2 15 rfl)
theorem dX4_waysOf_48 : decode cX4_waysOf 48 = .ok (.iload 6, 2) := oq_21 (byt chX4_waysOf_3 0 rfl) (byt chX4_waysOf_3 1 rfl) rfl
theorem dX4_waysOf_50 : decode cX4_waysOf 50 = .ok (.invokestatic 58, 3) := oq_184 (byt chX4_waysOf_3 2 rfl) (byt chX4_waysOf_3 3 rfl) (byt chX4_waysOf_3 4 rfl) rfl
theorem dX4_waysOf_53 : decode cX4_waysOf 53 = .ok (.aload_n 0, 1) := oq_42 (byt chX4_waysOf_3 5 rfl)
theorem dX4_waysOf_54 : decode cX4_waysOf 54 = .ok (.iload_n 1, 1) := oq_27 (byt chX4_waysOf_3 6 rfl)
theorem dX4_waysOf_55 : decode cX4_waysOf 55 = .ok (.iload_n 2, 1) := oq_28 (byt chX4_waysOf_3 7 rfl)
theorem dX4_waysOf_56 : decode cX4_waysOf 56 = .ok (.iconst 1, 1) := oq_4 (byt chX4_waysOf_3 8 rfl)
theorem dX4_waysOf_57 : decode cX4_waysOf 57 = .ok (.iadd, 1) := oq_96 (byt chX4_waysOf_3 9 rfl)
theorem dX4_waysOf_58 : decode cX4_waysOf 58 = .ok (.iload_n 3, 1) := oq_29 (byt chX4_waysOf_3 10 rfl)
theorem dX4_waysOf_59 : decode cX4_waysOf 59 = .ok (.iload 6, 2) := oq_21 (byt chX4_waysOf_3 11 rfl) (byt chX4_waysOf_3 12 rfl) rfl
theorem dX4_waysOf_61 : decode cX4_waysOf 61 = .ok (.isub, 1) := oq_100 (byt chX4_waysOf_3 13 rfl)
theorem dX4_waysOf_62 : decode cX4_waysOf 62 = .ok (.invokestatic 44, 3) := oq_184 (byt chX4_waysOf_3 14 rfl) (byt chX4_waysOf_3 15 rfl) (byt chX4_waysOf_4 0 rfl) rfl
theorem dX4_waysOf_65 : decode cX4_waysOf 65 = .ok (.imul, 1) := oq_104 (byt chX4_waysOf_4 1 rfl)
theorem dX4_waysOf_66 : decode cX4_waysOf 66 = .ok (.iadd, 1) := oq_96 (byt chX4_waysOf_4 2 rfl)
theorem dX4_waysOf_67 : decode cX4_waysOf 67 = .ok (.istore 5, 2) := oq_54 (byt chX4_waysOf_4 3 rfl) (byt chX4_waysOf_4 4 rfl) rfl
theorem dX4_waysOf_69 : decode cX4_waysOf 69 = .ok (.iinc 6 1, 3) := oq_132 (byt chX4_waysOf_4 5 rfl) (byt chX4_waysOf_4 6 rfl) (byt chX4_waysOf_4 7 rfl) rfl
theorem dX4_waysOf_72 : decode cX4_waysOf 72 = .ok (.goto (-34), 3) := oq_167 (byt chX4_waysOf_4 8 rfl) (byt chX4_waysOf_4 9 rfl) (byt chX4_waysOf_4 10 rfl) (by decide +kernel)
theorem dX4_waysOf_75 : decode cX4_waysOf 75 = .ok (.iload 5, 2) := oq_21 (byt chX4_waysOf_4 11 rfl) (byt chX4_waysOf_4 12 rfl) rfl
theorem dX4_waysOf_77 : decode cX4_waysOf 77 = .ok (.ireturn, 1) := oq_172 (byt chX4_waysOf_4 13 rfl)
abbrev mX4_waysOf : MI := (yX4_waysOf, cX4_waysOf, 7, (some .int), noE)
theorem okX4_waysOf : cok mX4_waysOf 4 := ⟨tw956, tw6, by decide, by decide, by decide, by decide +kernel⟩
def fX4_waysOf : Nat → Mem → Int → Int → Int → Int → Option Int
  | 0, _, _, _, _, _ => none
  | fu + 1, M, a0, a1, a2, a3 => if a2 < 4 then (if M.2.1 a0 = 8 then if M.2.1 (M.1 a0 5) = 12 ∧ (0 : Int) ≤ (w32 ((w32 (30 * a2)) + a1)) ∧ (w32 ((w32 (30 * a2)) + a1)) < M.2.2.1 (M.1 a0 5) then iterC (fun (rec4 : (Int × Int) → Option Int) (s5 : Int × Int) => if imin a3 (M.1 (M.1 a0 5) (w32 ((w32 (30 * a2)) + a1))) < s5.2 then (some s5.1) else ((fX4_choices M a3 s5.2).bind fun r7 => (fX4_waysOf fu M a0 a1 (w32 (a2 + 1)) (w32 (a3 - s5.2))).bind fun r9 => rec4 (w32 (s5.1 + (w32 (r7 * r9))), w32 (s5.2 + 1)))) BIG (0, 0) else none else none) else (if a3 = 0 then (some 1) else (some 0))
set_option maxRecDepth 100000 in
set_option maxHeartbeats 4000000 in
theorem kX4_waysOf : ∀ (fu d : Nat), fu + 2 ≤ d → ∀ (M : Mem) (a0 a1 a2 a3 : Int), Ct mX4_waysOf d 0 0 [pA a0, pI a1, pI a2, pI a3] M (dI M) (fX4_waysOf fu M a0 a1 a2 a3)
  | 0, d, hd, M, a0, a1, a2, a3 => fun r h => by cases h
  | fu + 1, d, hd, M, a0, a1, a2, a3 => by
    obtain ⟨d, rfl⟩ : ∃ k, d = k + 1 := ⟨d - 1, by omega⟩
    refine Ct.of 3 (fun _ _ _ => trivial) (by decide +kernel) rfl ?_
    unfold fX4_waysOf
    refine v_iload_n dX4_waysOf_0 rfl ?_
    refine v_iconst dX4_waysOf_1 (by decide) ?_
    refine v_icmp_lt (tgt := 15) dX4_waysOf_2 (by decide) (fun c1 => ?_) (fun c1 => ?_)
    · refine v_iload_n dX4_waysOf_15 rfl ?_
      refine v_aload_n dX4_waysOf_16 rfl ?_
      refine v_if (fun h2 => ?_)
      refine v_get (v := pA (M.1 a0 5)) 8 5 rfl inX9 (by decide) tw330 dX4_waysOf_17 h2 rfl ?_
      refine v_bipush dX4_waysOf_20 (by decide) ?_
      refine v_iload_n dX4_waysOf_22 rfl ?_
      refine v_imul dX4_waysOf_23 ?_
      refine v_iload_n dX4_waysOf_24 rfl ?_
      refine v_iadd dX4_waysOf_25 ?_
      refine v_if (fun h3 => ?_)
      refine v_iaload h3 dX4_waysOf_26 ?_
      refine v_mmin (mi := mX4_waysOf) tw957 tw469 tw12 tw470 (Nat.le_of_ble_eq_true rfl) dX4_waysOf_27 ?_
      refine v_istore (ls' := [some (pA a0), some (pI a1), some (pI a2), some (pI a3), some (pI (imin a3 (M.1 (M.1 a0 5) (w32 ((w32 (30 * a2)) + a1))))), none, none]) dX4_waysOf_30 (by decide) rfl ?_
      refine v_iconst dX4_waysOf_32 (by decide) ?_
      refine v_istore (ls' := [some (pA a0), some (pI a1), some (pI a2), some (pI a3), some (pI (imin a3 (M.1 (M.1 a0 5) (w32 ((w32 (30 * a2)) + a1))))), some (pI 0), none]) dX4_waysOf_33 (by decide) rfl ?_
      refine v_iconst dX4_waysOf_35 (by decide) ?_
      refine v_istore (ls' := [some (pA a0), some (pI a1), some (pI a2), some (pI a3), some (pI (imin a3 (M.1 (M.1 a0 5) (w32 ((w32 (30 * a2)) + a1))))), some (pI 0), some (pI 0)]) dX4_waysOf_36 (by decide) rfl ?_
      refine v_loop (fun (s5 : Int × Int) => [some (pA a0), some (pI a1), some (pI a2), some (pI a3), some (pI (imin a3 (M.1 (M.1 a0 5) (w32 ((w32 (30 * a2)) + a1))))), some (pI s5.1), some (pI s5.2)]) (fun (s5 : Int × Int) => M) (s0 := (0, 0)) ?_
      intro rec4 hrec4 s5
      refine v_iload dX4_waysOf_38 rfl ?_
      refine v_iload dX4_waysOf_40 rfl ?_
      refine v_icmp_gt (tgt := 75) dX4_waysOf_42 (by decide) (fun c6 => ?_) (fun c6 => ?_)
      · refine v_iload dX4_waysOf_75 rfl ?_
        exact v_ireturn dX4_waysOf_77 rfl rfl
      · refine v_iload dX4_waysOf_45 rfl ?_
        refine v_iload_n dX4_waysOf_47 rfl ?_
        refine v_iload dX4_waysOf_48 rfl ?_
        refine v_cS (mi := mX4_waysOf) (c0 := 0) (c1 := 0) (As := [pI a3, pI s5.2]) (st := [pI s5.1]) (kX4_choices d (by omega) _ _ _) okX4_choices (Or.inl tw958) tw959 rfl (Nat.le_of_ble_eq_true rfl) dX4_waysOf_50 (fun r7 => [pI r7, pI s5.1]) (fun r7 => M) (fun _ => rfl) (fun _ => rfl) (fun r7 h8 => ?_) rfl
        refine v_aload_n dX4_waysOf_53 rfl ?_
        refine v_iload_n dX4_waysOf_54 rfl ?_
        refine v_iload_n dX4_waysOf_55 rfl ?_
        refine v_iconst dX4_waysOf_56 (by decide) ?_
        refine v_iadd dX4_waysOf_57 ?_
        refine v_iload_n dX4_waysOf_58 rfl ?_
        refine v_iload dX4_waysOf_59 rfl ?_
        refine v_isub dX4_waysOf_61 ?_
        refine v_cS (mi := mX4_waysOf) (c0 := 0) (c1 := 0) (As := [pA a0, pI a1, pI (w32 (a2 + 1)), pI (w32 (a3 - s5.2))]) (st := [pI r7, pI s5.1]) (kX4_waysOf fu d (by omega) _ _ _ _ _) okX4_waysOf (Or.inl tw954) tw955 rfl (Nat.le_of_ble_eq_true rfl) dX4_waysOf_62 (fun r9 => [pI r9, pI r7, pI s5.1]) (fun r9 => M) (fun _ => rfl) (fun _ => rfl) (fun r9 h10 => ?_) rfl
        refine v_imul dX4_waysOf_65 ?_
        refine v_iadd dX4_waysOf_66 ?_
        refine v_istore (ls' := [some (pA a0), some (pI a1), some (pI a2), some (pI a3), some (pI (imin a3 (M.1 (M.1 a0 5) (w32 ((w32 (30 * a2)) + a1))))), some (pI (w32 (s5.1 + (w32 (r7 * r9))))), some (pI s5.2)]) dX4_waysOf_67 (by decide) rfl ?_
        refine v_iinc (ls' := [some (pA a0), some (pI a1), some (pI a2), some (pI a3), some (pI (imin a3 (M.1 (M.1 a0 5) (w32 ((w32 (30 * a2)) + a1))))), some (pI (w32 (s5.1 + (w32 (r7 * r9))))), some (pI (w32 (s5.2 + 1)))]) dX4_waysOf_69 (by decide) rfl rfl ?_
        refine v_goto (tgt := 38) dX4_waysOf_72 (by decide) ?_
        exact hrec4 (w32 (s5.1 + (w32 (r7 * r9))), w32 (s5.2 + 1))
    · refine v_iload_n dX4_waysOf_5 rfl ?_
      refine v_if_ne (tgt := 13) dX4_waysOf_6 (by decide) (fun c11 => ?_) (fun c11 => ?_)
      · refine v_iconst dX4_waysOf_9 (by decide) ?_
        refine v_goto (tgt := 14) dX4_waysOf_10 (by decide) ?_
        exact v_ireturn dX4_waysOf_14 rfl rfl
      · refine v_iconst dX4_waysOf_13 (by decide) ?_
        exact v_ireturn dX4_waysOf_14 rfl rfl
theorem chX4_ways_0 : (cX4_ways.data.toList.drop 0).take 16 = [4, 61, 3, 62, 29, 42, 180, 0, 9, 162, 0, 52, 42, 29, 3, 29] := by decide +kernel
theorem chX4_ways_1 : (cX4_ways.data.toList.drop 16).take 16 = [182, 0, 36, 154, 0, 36, 28, 43, 42, 180, 0, 15, 29, 46, 42, 180] := by decide +kernel
theorem chX4_ways_2 : (cX4_ways.data.toList.drop 32).take 16 = [0, 19, 29, 46, 184, 0, 40, 3, 42, 29, 29, 42, 180, 0, 9, 182] := by decide +kernel
theorem chX4_ways_3 : (cX4_ways.data.toList.drop 48).take 16 = [0, 36, 184, 0, 44, 104, 61, 132, 3, 1, 167, 255, 202, 28, 172] := by decide +kernel
theorem dX4_ways_0 : decode cX4_ways 0 = .ok (.iconst 1, 1) := oq_4 (byt chX4_ways_0 0 rfl)
theorem dX4_ways_1 : decode cX4_ways 1 = .ok (.istore_n 2, 1) := oq_61 (byt chX4_ways_0 1 rfl)
theorem dX4_ways_2 : decode cX4_ways 2 = .ok (.iconst 0, 1) := oq_3 (byt chX4_ways_0 2 rfl)
theorem dX4_ways_3 : decode cX4_ways 3 = .ok (.istore_n 3, 1) := oq_62 (byt chX4_ways_0 3 rfl)
theorem dX4_ways_4 : decode cX4_ways 4 = .ok (.iload_n 3, 1) := oq_29 (byt chX4_ways_0 4 rfl)
theorem dX4_ways_5 : decode cX4_ways 5 = .ok (.aload_n 0, 1) := oq_42 (byt chX4_ways_0 5 rfl)
theorem dX4_ways_6 : decode cX4_ways 6 = .ok (.getfield 9, 3) := oq_180 (byt chX4_ways_0 6 rfl) (byt chX4_ways_0 7 rfl) (byt chX4_ways_0 8 rfl) rfl
theorem dX4_ways_9 : decode cX4_ways 9 = .ok (.if_icmp .ge 52, 3) := oq_162 (byt chX4_ways_0 9 rfl) (byt chX4_ways_0 10 rfl) (byt chX4_ways_0 11 rfl) (by decide +kernel)
theorem dX4_ways_12 : decode cX4_ways 12 = .ok (.aload_n 0, 1) := oq_42 (byt chX4_ways_0 12 rfl)
theorem dX4_ways_13 : decode cX4_ways 13 = .ok (.iload_n 3, 1) := oq_29 (byt chX4_ways_0 13 rfl)
theorem dX4_ways_14 : decode cX4_ways 14 = .ok (.iconst 0, 1) := oq_3 (byt chX4_ways_0 14 rfl)
theorem dX4_ways_15 : decode cX4_ways 15 = .ok (.iload_n 3, 1) := oq_29 (byt chX4_ways_0 15 rfl)
theorem dX4_ways_16 : decode cX4_ways 16 = .ok (.invokevirtual 36, 3) := oq_182 (byt chX4_ways_1 0 rfl) (byt chX4_ways_1 1 rfl) (byt chX4_ways_1 2 rfl) rfl
theorem dX4_ways_19 : decode cX4_ways 19 = .ok (.ifCond .ne 36, 3) := oq_154 (byt chX4_ways_1 3 rfl) (byt chX4_ways_1 4 rfl) (byt chX4_ways_1 5 rfl) (by decide +kernel)
theorem dX4_ways_22 : decode cX4_ways 22 = .ok (.iload_n 2, 1) := oq_28 (byt chX4_ways_1 6 rfl)
theorem dX4_ways_23 : decode cX4_ways 23 = .ok (.aload_n 1, 1) := oq_43 (byt chX4_ways_1 7 rfl)
theorem dX4_ways_24 : decode cX4_ways 24 = .ok (.aload_n 0, 1) := oq_42 (byt chX4_ways_1 8 rfl)
theorem dX4_ways_25 : decode cX4_ways 25 = .ok (.getfield 15, 3) := oq_180 (byt chX4_ways_1 9 rfl) (byt chX4_ways_1 10 rfl) (byt chX4_ways_1 11 rfl) rfl
theorem dX4_ways_28 : decode cX4_ways 28 = .ok (.iload_n 3, 1) := oq_29 (byt chX4_ways_1 12 rfl)
theorem dX4_ways_29 : decode cX4_ways 29 = .ok (.iaload, 1) := oq_46 (byt chX4_ways_1 13 rfl)
theorem dX4_ways_30 : decode cX4_ways 30 = .ok (.aload_n 0, 1) := oq_42 (byt chX4_ways_1 14 rfl)
theorem dX4_ways_31 : decode cX4_ways 31 = .ok (.getfield 19, 3) := oq_180 (byt chX4_ways_1 15 rfl) (byt chX4_ways_2 0 rfl) (byt chX4_ways_2 1 rfl) rfl
theorem dX4_ways_34 : decode cX4_ways 34 = .ok (.iload_n 3, 1) := oq_29 (byt chX4_ways_2 2 rfl)
theorem dX4_ways_35 : decode cX4_ways 35 = .ok (.iaload, 1) := oq_46 (byt chX4_ways_2 3 rfl)
theorem dX4_ways_36 : decode cX4_ways 36 = .ok (.invokestatic 40, 3) := oq_184 (byt chX4_ways_2 4 rfl) (byt chX4_ways_2 5 rfl) (byt chX4_ways_2 6 rfl) rfl
theorem dX4_ways_39 : decode cX4_ways 39 = .ok (.iconst 0, 1) := oq_3 (byt chX4_ways_2 7 rfl)
theorem dX4_ways_40 : decode cX4_ways 40 = .ok (.aload_n 0, 1) := oq_42 (byt chX4_ways_2 8 rfl)
theorem dX4_ways_41 : decode cX4_ways 41 = .ok (.iload_n 3, 1) := oq_29 (byt chX4_ways_2 9 rfl)
theorem dX4_ways_42 : decode cX4_ways 42 = .ok (.iload_n 3, 1) := oq_29 (byt chX4_ways_2 10 rfl)
theorem dX4_ways_43 : decode cX4_ways 43 = .ok (.aload_n 0, 1) := oq_42 (byt chX4_ways_2 11 rfl)
theorem dX4_ways_44 : decode cX4_ways 44 = .ok (.getfield 9, 3) := oq_180 (byt chX4_ways_2 12 rfl) (byt chX4_ways_2 13 rfl) (byt chX4_ways_2 14 rfl) rfl
theorem dX4_ways_47 : decode cX4_ways 47 = .ok (.invokevirtual 36, 3) := oq_182 (byt chX4_ways_2 15 rfl) (byt chX4_ways_3 0 rfl) (byt chX4_ways_3 1 rfl) rfl
theorem dX4_ways_50 : decode cX4_ways 50 = .ok (.invokestatic 44, 3) := oq_184 (byt chX4_ways_3 2 rfl) (byt chX4_ways_3 3 rfl) (byt chX4_ways_3 4 rfl) rfl
theorem dX4_ways_53 : decode cX4_ways 53 = .ok (.imul, 1) := oq_104 (byt chX4_ways_3 5 rfl)
theorem dX4_ways_54 : decode cX4_ways 54 = .ok (.istore_n 2, 1) := oq_61 (byt chX4_ways_3 6 rfl)
theorem dX4_ways_55 : decode cX4_ways 55 = .ok (.iinc 3 1, 3) := oq_132 (byt chX4_ways_3 7 rfl) (byt chX4_ways_3 8 rfl) (byt chX4_ways_3 9 rfl) rfl
theorem dX4_ways_58 : decode cX4_ways 58 = .ok (.goto (-54), 3) := oq_167 (byt chX4_ways_3 10 rfl) (byt chX4_ways_3 11 rfl) (byt chX4_ways_3 12 rfl) (by decide +kernel)
theorem dX4_ways_61 : decode cX4_ways 61 = .ok (.iload_n 2, 1) := oq_28 (byt chX4_ways_3 13 rfl)
theorem dX4_ways_62 : decode cX4_ways 62 = .ok (.ireturn, 1) := oq_172 (byt chX4_ways_3 14 rfl)
abbrev mX4_ways : MI := (yX4_ways, cX4_ways, 4, (some .int), noE)
theorem okX4_ways : cok mX4_ways 1 := ⟨tw948, tw6, by decide, by decide, by decide, by decide +kernel⟩
def fX4_ways (M : Mem) (a0 a1 : Int) : Option Int :=
  iterC (fun (rec1 : (Int × Int) → Option Int) (s2 : Int × Int) => if M.2.1 a0 = 4 then if s2.2 < M.1 a0 0 then ((fX4_alike M a0 s2.2 0 s2.2).bind fun r5 => if r5 = 0 then (if M.2.1 (M.1 a0 1) = 12 ∧ (0 : Int) ≤ s2.2 ∧ s2.2 < M.2.2.1 (M.1 a0 1) then if M.2.1 (M.1 a0 2) = 12 ∧ (0 : Int) ≤ s2.2 ∧ s2.2 < M.2.2.1 (M.1 a0 2) then (fX10_cell M (M.1 (M.1 a0 1) s2.2) (M.1 (M.1 a0 2) s2.2)).bind fun r10 => (fX4_alike M a0 s2.2 s2.2 (M.1 a0 0)).bind fun r12 => (fX4_waysOf 20 M a1 r10 0 r12).bind fun r14 => rec1 (w32 (s2.1 * r14), w32 (s2.2 + 1)) else none else none) else (rec1 (s2.1, w32 (s2.2 + 1)))) else (some s2.1) else none) BIG (1, 0)
set_option maxRecDepth 100000 in
set_option maxHeartbeats 4000000 in
theorem kX4_ways (d : Nat) (hd : 23 ≤ d) (M : Mem) (a0 a1 : Int) : Ct mX4_ways d 0 0 [pA a0, pA a1] M (dI M) (fX4_ways M a0 a1) := by
  obtain ⟨d, rfl⟩ : ∃ k, d = k + 1 := ⟨d - 1, by omega⟩
  refine Ct.of 2 (fun _ _ _ => trivial) (by decide +kernel) rfl ?_
  unfold fX4_ways
  refine v_iconst dX4_ways_0 (by decide) ?_
  refine v_istore_n (ls' := [some (pA a0), some (pA a1), some (pI 1), none]) dX4_ways_1 (by decide) rfl ?_
  refine v_iconst dX4_ways_2 (by decide) ?_
  refine v_istore_n (ls' := [some (pA a0), some (pA a1), some (pI 1), some (pI 0)]) dX4_ways_3 (by decide) rfl ?_
  refine v_loop (fun (s2 : Int × Int) => [some (pA a0), some (pA a1), some (pI s2.1), some (pI s2.2)]) (fun (s2 : Int × Int) => M) (s0 := (1, 0)) ?_
  intro rec1 hrec1 s2
  refine v_iload_n dX4_ways_4 rfl ?_
  refine v_aload_n dX4_ways_5 rfl ?_
  refine v_if (fun h3 => ?_)
  refine v_get (v := pI (M.1 a0 0)) 4 0 rfl inX4 (by decide) tw185 dX4_ways_6 h3 rfl ?_
  refine v_icmp_ge (tgt := 61) dX4_ways_9 (by decide) (fun c4 => ?_) (fun c4 => ?_)
  · refine v_aload_n dX4_ways_12 rfl ?_
    refine v_iload_n dX4_ways_13 rfl ?_
    refine v_iconst dX4_ways_14 (by decide) ?_
    refine v_iload_n dX4_ways_15 rfl ?_
    refine v_cV (mi := mX4_ways) (c0 := 0) (c1 := 0) (As := [pI s2.2, pI 0, pI s2.2]) (st := []) (kX4_alike d (by omega) _ _ _ _ _) rfl h3 rfl okX4_alike (Or.inl tw949) tw951 tp19 rfl (Nat.le_of_ble_eq_true rfl) dX4_ways_16 (fun r5 => [pI r5]) (fun r5 => M) (fun _ => rfl) (fun _ => rfl) (fun r5 h6 => ?_) rfl
    refine v_if_ne (tgt := 55) dX4_ways_19 (by decide) (fun c7 => ?_) (fun c7 => ?_)
    · refine v_iload_n dX4_ways_22 rfl ?_
      refine v_aload_n dX4_ways_23 rfl ?_
      refine v_aload_n dX4_ways_24 rfl ?_
      refine v_get (v := pA (M.1 a0 1)) 4 1 rfl inX4 (by decide) tw188 dX4_ways_25 h3 rfl ?_
      refine v_iload_n dX4_ways_28 rfl ?_
      refine v_if (fun h8 => ?_)
      refine v_iaload h8 dX4_ways_29 ?_
      refine v_aload_n dX4_ways_30 rfl ?_
      refine v_get (v := pA (M.1 a0 2)) 4 2 rfl inX4 (by decide) tw190 dX4_ways_31 h3 rfl ?_
      refine v_iload_n dX4_ways_34 rfl ?_
      refine v_if (fun h9 => ?_)
      refine v_iaload h9 dX4_ways_35 ?_
      refine v_cS (mi := mX4_ways) (c0 := 0) (c1 := 0) (As := [pI (M.1 (M.1 a0 1) s2.2), pI (M.1 (M.1 a0 2) s2.2)]) (st := [pA a1, pI s2.1]) (kX10_cell d (by omega) _ _ _) okX10_cell (Or.inr nw21) tw621 rfl (Nat.le_of_ble_eq_true rfl) dX4_ways_36 (fun r10 => [pI r10, pA a1, pI s2.1]) (fun r10 => M) (fun _ => rfl) (fun _ => rfl) (fun r10 h11 => ?_) rfl
      refine v_iconst dX4_ways_39 (by decide) ?_
      refine v_aload_n dX4_ways_40 rfl ?_
      refine v_iload_n dX4_ways_41 rfl ?_
      refine v_iload_n dX4_ways_42 rfl ?_
      refine v_aload_n dX4_ways_43 rfl ?_
      refine v_get (v := pI (M.1 a0 0)) 4 0 rfl inX4 (by decide) tw185 dX4_ways_44 h3 rfl ?_
      refine v_cV (mi := mX4_ways) (c0 := 0) (c1 := 0) (As := [pI s2.2, pI s2.2, pI (M.1 a0 0)]) (st := [pI 0, pI r10, pA a1, pI s2.1]) (kX4_alike d (by omega) _ _ _ _ _) rfl h3 rfl okX4_alike (Or.inl tw949) tw951 tp19 rfl (Nat.le_of_ble_eq_true rfl) dX4_ways_47 (fun r12 => [pI r12, pI 0, pI r10, pA a1, pI s2.1]) (fun r12 => M) (fun _ => rfl) (fun _ => rfl) (fun r12 h13 => ?_) rfl
      refine v_cS (mi := mX4_ways) (c0 := 0) (c1 := 0) (As := [pA a1, pI r10, pI 0, pI r12]) (st := [pI s2.1]) (kX4_waysOf 20 d (by omega) _ _ _ _ _) okX4_waysOf (Or.inl tw954) tw955 rfl (Nat.le_of_ble_eq_true rfl) dX4_ways_50 (fun r14 => [pI r14, pI s2.1]) (fun r14 => M) (fun _ => rfl) (fun _ => rfl) (fun r14 h15 => ?_) rfl
      refine v_imul dX4_ways_53 ?_
      refine v_istore_n (ls' := [some (pA a0), some (pA a1), some (pI (w32 (s2.1 * r14))), some (pI s2.2)]) dX4_ways_54 (by decide) rfl ?_
      refine v_iinc (ls' := [some (pA a0), some (pA a1), some (pI (w32 (s2.1 * r14))), some (pI (w32 (s2.2 + 1)))]) dX4_ways_55 (by decide) rfl rfl ?_
      refine v_goto (tgt := 4) dX4_ways_58 (by decide) ?_
      exact hrec1 (w32 (s2.1 * r14), w32 (s2.2 + 1))
    · refine v_iinc (ls' := [some (pA a0), some (pA a1), some (pI s2.1), some (pI (w32 (s2.2 + 1)))]) dX4_ways_55 (by decide) rfl rfl ?_
      refine v_goto (tgt := 4) dX4_ways_58 (by decide) ?_
      exact hrec1 (s2.1, w32 (s2.2 + 1))
  · refine v_iload_n dX4_ways_61 rfl ?_
    exact v_ireturn dX4_ways_62 rfl rfl
theorem chX10_cell__0 : (cX10_cell_.data.toList.drop 0).take 16 = [16, 30, 26, 104, 8, 27, 104, 96, 28, 96, 172] := by decide +kernel
theorem dX10_cell__0 : decode cX10_cell_ 0 = .ok (.bipush 30, 2) := oq_16 (byt chX10_cell__0 0 rfl) (byt chX10_cell__0 1 rfl) rfl
theorem dX10_cell__2 : decode cX10_cell_ 2 = .ok (.iload_n 0, 1) := oq_26 (byt chX10_cell__0 2 rfl)
theorem dX10_cell__3 : decode cX10_cell_ 3 = .ok (.imul, 1) := oq_104 (byt chX10_cell__0 3 rfl)
theorem dX10_cell__4 : decode cX10_cell_ 4 = .ok (.iconst 5, 1) := oq_8 (byt chX10_cell__0 4 rfl)
theorem dX10_cell__5 : decode cX10_cell_ 5 = .ok (.iload_n 1, 1) := oq_27 (byt chX10_cell__0 5 rfl)
theorem dX10_cell__6 : decode cX10_cell_ 6 = .ok (.imul, 1) := oq_104 (byt chX10_cell__0 6 rfl)
theorem dX10_cell__7 : decode cX10_cell_ 7 = .ok (.iadd, 1) := oq_96 (byt chX10_cell__0 7 rfl)
theorem dX10_cell__8 : decode cX10_cell_ 8 = .ok (.iload_n 2, 1) := oq_28 (byt chX10_cell__0 8 rfl)
theorem dX10_cell__9 : decode cX10_cell_ 9 = .ok (.iadd, 1) := oq_96 (byt chX10_cell__0 9 rfl)
theorem dX10_cell__10 : decode cX10_cell_ 10 = .ok (.ireturn, 1) := oq_172 (byt chX10_cell__0 10 rfl)
abbrev mX10_cell_ : MI := (yX10_cell_, cX10_cell_, 3, (some .int), noE)
theorem okX10_cell_ : cok mX10_cell_ 3 := ⟨tw767, tw1, by decide, by decide, by decide, by decide +kernel⟩
def fX10_cell_ (M : Mem) (a0 a1 a2 : Int) : Option Int :=
  some (w32 ((w32 ((w32 (30 * a0)) + (w32 (5 * a1)))) + a2))
set_option maxRecDepth 100000 in
set_option maxHeartbeats 4000000 in
theorem kX10_cell_ (d : Nat) (hd : 0 ≤ d) (M : Mem) (a0 a1 a2 : Int) : Ct mX10_cell_ d 0 0 [pI a0, pI a1, pI a2] M (dI M) (fX10_cell_ M a0 a1 a2) := by
  refine Ct.of 0 (fun _ _ _ => trivial) (by decide +kernel) rfl ?_
  unfold fX10_cell_
  refine v_bipush dX10_cell__0 (by decide) ?_
  refine v_iload_n dX10_cell__2 rfl ?_
  refine v_imul dX10_cell__3 ?_
  refine v_iconst dX10_cell__4 (by decide) ?_
  refine v_iload_n dX10_cell__5 rfl ?_
  refine v_imul dX10_cell__6 ?_
  refine v_iadd dX10_cell__7 ?_
  refine v_iload_n dX10_cell__8 rfl ?_
  refine v_iadd dX10_cell__9 ?_
  exact v_ireturn dX10_cell__10 rfl rfl
theorem chX4_mayBe_0 : (cX4_mayBe.data.toList.drop 0).take 16 = [42, 43, 182, 0, 61, 154, 0, 5, 3, 172, 3, 62, 3, 54, 4, 21] := by decide +kernel
theorem chX4_mayBe_1 : (cX4_mayBe.data.toList.drop 16).take 16 = [4, 7, 162, 0, 45, 29, 43, 180, 0, 48, 21, 4, 42, 180, 0, 15] := by decide +kernel
theorem chX4_mayBe_2 : (cX4_mayBe.data.toList.drop 32).take 16 = [28, 46, 42, 180, 0, 19, 28, 46, 184, 0, 65, 46, 158, 0, 10, 4] := by decide +kernel
theorem chX4_mayBe_3 : (cX4_mayBe.data.toList.drop 48).take 16 = [21, 4, 120, 167, 0, 4, 3, 128, 62, 132, 4, 1, 167, 255, 211, 29] := by decide +kernel
theorem chX4_mayBe_4 : (cX4_mayBe.data.toList.drop 64).take 16 = [172] := by decide +kernel
theorem dX4_mayBe_0 : decode cX4_mayBe 0 = .ok (.aload_n 0, 1) := oq_42 (byt chX4_mayBe_0 0 rfl)
theorem dX4_mayBe_1 : decode cX4_mayBe 1 = .ok (.aload_n 1, 1) := oq_43 (byt chX4_mayBe_0 1 rfl)
theorem dX4_mayBe_2 : decode cX4_mayBe 2 = .ok (.invokevirtual 61, 3) := oq_182 (byt chX4_mayBe_0 2 rfl) (byt chX4_mayBe_0 3 rfl) (byt chX4_mayBe_0 4 rfl) rfl
theorem dX4_mayBe_5 : decode cX4_mayBe 5 = .ok (.ifCond .ne 5, 3) := oq_154 (byt chX4_mayBe_0 5 rfl) (byt chX4_mayBe_0 6 rfl) (byt chX4_mayBe_0 7 rfl) (by decide +kernel)
theorem dX4_mayBe_8 : decode cX4_mayBe 8 = .ok (.iconst 0, 1) := oq_3 (byt chX4_mayBe_0 8 rfl)
theorem dX4_mayBe_9 : decode cX4_mayBe 9 = .ok (.ireturn, 1) := oq_172 (byt chX4_mayBe_0 9 rfl)
theorem dX4_mayBe_10 : decode cX4_mayBe 10 = .ok (.iconst 0, 1) := oq_3 (byt chX4_mayBe_0 10 rfl)
theorem dX4_mayBe_11 : decode cX4_mayBe 11 = .ok (.istore_n 3, 1) := oq_62 (byt chX4_mayBe_0 11 rfl)
theorem dX4_mayBe_12 : decode cX4_mayBe 12 = .ok (.iconst 0, 1) := oq_3 (byt chX4_mayBe_0 12 rfl)
theorem dX4_mayBe_13 : decode cX4_mayBe 13 = .ok (.istore 4, 2) := oq_54 (byt chX4_mayBe_0 13 rfl) (byt chX4_mayBe_0 14 rfl) rfl
theorem dX4_mayBe_15 : decode cX4_mayBe 15 = .ok (.iload 4, 2) := oq_21 (byt chX4_mayBe_0 15 rfl) (byt chX4_mayBe_1 0 rfl) rfl
theorem dX4_mayBe_17 : decode cX4_mayBe 17 = .ok (.iconst 4, 1) := oq_7 (byt chX4_mayBe_1 1 rfl)
theorem dX4_mayBe_18 : decode cX4_mayBe 18 = .ok (.if_icmp .ge 45, 3) := oq_162 (byt chX4_mayBe_1 2 rfl) (byt chX4_mayBe_1 3 rfl) (byt chX4_mayBe_1 4 rfl) (by decide +kernel)
theorem dX4_mayBe_21 : decode cX4_mayBe 21 = .ok (.iload_n 3, 1) := oq_29 (byt chX4_mayBe_1 5 rfl)
theorem dX4_mayBe_22 : decode cX4_mayBe 22 = .ok (.aload_n 1, 1) := oq_43 (byt chX4_mayBe_1 6 rfl)
theorem dX4_mayBe_23 : decode cX4_mayBe 23 = .ok (.getfield 48, 3) := oq_180 (byt chX4_mayBe_1 7 rfl) (byt chX4_mayBe_1 8 rfl) (byt chX4_mayBe_1 9 rfl) rfl
theorem dX4_mayBe_26 : decode cX4_mayBe 26 = .ok (.iload 4, 2) := oq_21 (byt chX4_mayBe_1 10 rfl) (byt chX4_mayBe_1 11 rfl) rfl
theorem dX4_mayBe_28 : decode cX4_mayBe 28 = .ok (.aload_n 0, 1) := oq_42 (byt chX4_mayBe_1 12 rfl)
theorem dX4_mayBe_29 : decode cX4_mayBe 29 = .ok (.getfield 15, 3) := oq_180 (byt chX4_mayBe_1 13 rfl) (byt chX4_mayBe_1 14 rfl) (byt chX4_mayBe_1 15 rfl) rfl
theorem dX4_mayBe_32 : decode cX4_mayBe 32 = .ok (.iload_n 2, 1) := oq_28 (byt chX4_mayBe_2 0 rfl)
theorem dX4_mayBe_33 : decode cX4_mayBe 33 = .ok (.iaload, 1) := oq_46 (byt chX4_mayBe_2 1 rfl)
theorem dX4_mayBe_34 : decode cX4_mayBe 34 = .ok (.aload_n 0, 1) := oq_42 (byt chX4_mayBe_2 2 rfl)
theorem dX4_mayBe_35 : decode cX4_mayBe 35 = .ok (.getfield 19, 3) := oq_180 (byt chX4_mayBe_2 3 rfl) (byt chX4_mayBe_2 4 rfl) (byt chX4_mayBe_2 5 rfl) rfl
theorem dX4_mayBe_38 : decode cX4_mayBe 38 = .ok (.iload_n 2, 1) := oq_28 (byt chX4_mayBe_2 6 rfl)
theorem dX4_mayBe_39 : decode cX4_mayBe 39 = .ok (.iaload, 1) := oq_46 (byt chX4_mayBe_2 7 rfl)
theorem dX4_mayBe_40 : decode cX4_mayBe 40 = .ok (.invokestatic 65, 3) := oq_184 (byt chX4_mayBe_2 8 rfl) (byt chX4_mayBe_2 9 rfl) (byt chX4_mayBe_2 10 rfl) rfl
theorem dX4_mayBe_43 : decode cX4_mayBe 43 = .ok (.iaload, 1) := oq_46 (byt chX4_mayBe_2 11 rfl)
theorem dX4_mayBe_44 : decode cX4_mayBe 44 = .ok (.ifCond .le 10, 3) := oq_158 (byt chX4_mayBe_2 12 rfl) (byt chX4_mayBe_2 13 rfl) (byt chX4_mayBe_2 14 rfl) (by decide +kernel)
theorem dX4_mayBe_47 : decode cX4_mayBe 47 = .ok (.iconst 1, 1) := oq_4 (byt chX4_mayBe_2 15 rfl)
theorem dX4_mayBe_48 : decode cX4_mayBe 48 = .ok (.iload 4, 2) := oq_21 (byt chX4_mayBe_3 0 rfl) (byt chX4_mayBe_3 1 rfl) rfl
theorem dX4_mayBe_50 : decode cX4_mayBe 50 = .ok (.ishl, 1) := oq_120 (byt chX4_mayBe_3 2 rfl)
theorem dX4_mayBe_51 : decode cX4_mayBe 51 = .ok (.goto 4, 3) := oq_167 (byt chX4_mayBe_3 3 rfl) (byt chX4_mayBe_3 4 rfl) (byt chX4_mayBe_3 5 rfl) (by decide +kernel)
theorem dX4_mayBe_54 : decode cX4_mayBe 54 = .ok (.iconst 0, 1) := oq_3 (byt chX4_mayBe_3 6 rfl)
theorem dX4_mayBe_55 : decode cX4_mayBe 55 = .ok (.ior, 1) := oq_128 (byt chX4_mayBe_3 7 rfl)
theorem dX4_mayBe_56 : decode cX4_mayBe 56 = .ok (.istore_n 3, 1) := oq_62 (byt chX4_mayBe_3 8 rfl)
theorem dX4_mayBe_57 : decode cX4_mayBe 57 = .ok (.iinc 4 1, 3) := oq_132 (byt chX4_mayBe_3 9 rfl) (byt chX4_mayBe_3 10 rfl) (byt chX4_mayBe_3 11 rfl) rfl
theorem dX4_mayBe_60 : decode cX4_mayBe 60 = .ok (.goto (-45), 3) := oq_167 (byt chX4_mayBe_3 12 rfl) (byt chX4_mayBe_3 13 rfl) (byt chX4_mayBe_3 14 rfl) (by decide +kernel)
theorem dX4_mayBe_63 : decode cX4_mayBe 63 = .ok (.iload_n 3, 1) := oq_29 (byt chX4_mayBe_3 15 rfl)
theorem dX4_mayBe_64 : decode cX4_mayBe 64 = .ok (.ireturn, 1) := oq_172 (byt chX4_mayBe_4 0 rfl)
abbrev mX4_mayBe : MI := (yX4_mayBe, cX4_mayBe, 5, (some .int), noE)
theorem okX4_mayBe : cok mX4_mayBe 2 := ⟨tw964, tw6, by decide, by decide, by decide, by decide +kernel⟩
def fX4_mayBe (M : Mem) (a0 a1 a2 : Int) : Option Int :=
  if M.2.1 a0 = 4 then (fX4_ways M a0 a1).bind fun r1 => if r1 = 0 then (some 0) else (iterC (fun (rec5 : (Int × Int) → Option Int) (s6 : Int × Int) => if s6.2 < 4 then (if M.2.1 a1 = 8 then if M.2.1 (M.1 a0 1) = 12 ∧ (0 : Int) ≤ a2 ∧ a2 < M.2.2.1 (M.1 a0 1) then if M.2.1 (M.1 a0 2) = 12 ∧ (0 : Int) ≤ a2 ∧ a2 < M.2.2.1 (M.1 a0 2) then (fX10_cell_ M s6.2 (M.1 (M.1 a0 1) a2) (M.1 (M.1 a0 2) a2)).bind fun r11 => if M.2.1 (M.1 a1 5) = 12 ∧ (0 : Int) ≤ r11 ∧ r11 < M.2.2.1 (M.1 a1 5) then if 0 < M.1 (M.1 a1 5) r11 then (rec5 (bOr s6.1 (bShl 1 s6.2), w32 (s6.2 + 1))) else (rec5 (bOr s6.1 0, w32 (s6.2 + 1))) else none else none else none else none) else (some s6.1)) BIG (0, 0)) else none
set_option maxRecDepth 100000 in
set_option maxHeartbeats 4000000 in
theorem kX4_mayBe (d : Nat) (hd : 24 ≤ d) (M : Mem) (a0 a1 a2 : Int) : Ct mX4_mayBe d 0 0 [pA a0, pA a1, pI a2] M (dI M) (fX4_mayBe M a0 a1 a2) := by
  obtain ⟨d, rfl⟩ : ∃ k, d = k + 1 := ⟨d - 1, by omega⟩
  refine Ct.of 2 (fun _ _ _ => trivial) (by decide +kernel) rfl ?_
  unfold fX4_mayBe
  refine v_aload_n dX4_mayBe_0 rfl ?_
  refine v_aload_n dX4_mayBe_1 rfl ?_
  refine v_if (fun h3 => ?_)
  refine v_cV (mi := mX4_mayBe) (c0 := 0) (c1 := 0) (As := [pA a1]) (st := []) (kX4_ways d (by omega) _ _ _) rfl h3 rfl okX4_ways (Or.inl tw965) tw946 tw947 rfl (Nat.le_of_ble_eq_true rfl) dX4_mayBe_2 (fun r1 => [pI r1]) (fun r1 => M) (fun _ => rfl) (fun _ => rfl) (fun r1 h2 => ?_) rfl
  refine v_if_ne (tgt := 10) dX4_mayBe_5 (by decide) (fun c4 => ?_) (fun c4 => ?_)
  · refine v_iconst dX4_mayBe_8 (by decide) ?_
    exact v_ireturn dX4_mayBe_9 rfl rfl
  · refine v_iconst dX4_mayBe_10 (by decide) ?_
    refine v_istore_n (ls' := [some (pA a0), some (pA a1), some (pI a2), some (pI 0), none]) dX4_mayBe_11 (by decide) rfl ?_
    refine v_iconst dX4_mayBe_12 (by decide) ?_
    refine v_istore (ls' := [some (pA a0), some (pA a1), some (pI a2), some (pI 0), some (pI 0)]) dX4_mayBe_13 (by decide) rfl ?_
    refine v_loop (fun (s6 : Int × Int) => [some (pA a0), some (pA a1), some (pI a2), some (pI s6.1), some (pI s6.2)]) (fun (s6 : Int × Int) => M) (s0 := (0, 0)) ?_
    intro rec5 hrec5 s6
    refine v_iload dX4_mayBe_15 rfl ?_
    refine v_iconst dX4_mayBe_17 (by decide) ?_
    refine v_icmp_ge (tgt := 63) dX4_mayBe_18 (by decide) (fun c7 => ?_) (fun c7 => ?_)
    · refine v_iload_n dX4_mayBe_21 rfl ?_
      refine v_aload_n dX4_mayBe_22 rfl ?_
      refine v_if (fun h8 => ?_)
      refine v_get (v := pA (M.1 a1 5)) 8 5 rfl inX9 (by decide) tw330 dX4_mayBe_23 h8 rfl ?_
      refine v_iload dX4_mayBe_26 rfl ?_
      refine v_aload_n dX4_mayBe_28 rfl ?_
      refine v_get (v := pA (M.1 a0 1)) 4 1 rfl inX4 (by decide) tw188 dX4_mayBe_29 h3 rfl ?_
      refine v_iload_n dX4_mayBe_32 rfl ?_
      refine v_if (fun h9 => ?_)
      refine v_iaload h9 dX4_mayBe_33 ?_
      refine v_aload_n dX4_mayBe_34 rfl ?_
      refine v_get (v := pA (M.1 a0 2)) 4 2 rfl inX4 (by decide) tw190 dX4_mayBe_35 h3 rfl ?_
      refine v_iload_n dX4_mayBe_38 rfl ?_
      refine v_if (fun h10 => ?_)
      refine v_iaload h10 dX4_mayBe_39 ?_
      refine v_cS (mi := mX4_mayBe) (c0 := 0) (c1 := 0) (As := [pI s6.2, pI (M.1 (M.1 a0 1) a2), pI (M.1 (M.1 a0 2) a2)]) (st := [pA (M.1 a1 5), pI s6.1]) (kX10_cell_ d (by omega) _ _ _ _) okX10_cell_ (Or.inr nw22) tw766 rfl (Nat.le_of_ble_eq_true rfl) dX4_mayBe_40 (fun r11 => [pI r11, pA (M.1 a1 5), pI s6.1]) (fun r11 => M) (fun _ => rfl) (fun _ => rfl) (fun r11 h12 => ?_) rfl
      refine v_if (fun h13 => ?_)
      refine v_iaload h13 dX4_mayBe_43 ?_
      refine v_if_le (tgt := 54) dX4_mayBe_44 (by decide) (fun c14 => ?_) (fun c14 => ?_)
      · refine v_iconst dX4_mayBe_47 (by decide) ?_
        refine v_iload dX4_mayBe_48 rfl ?_
        refine v_ishl dX4_mayBe_50 ?_
        refine v_goto (tgt := 55) dX4_mayBe_51 (by decide) ?_
        refine v_ior dX4_mayBe_55 ?_
        refine v_istore_n (ls' := [some (pA a0), some (pA a1), some (pI a2), some (pI (bOr s6.1 (bShl 1 s6.2))), some (pI s6.2)]) dX4_mayBe_56 (by decide) rfl ?_
        refine v_iinc (ls' := [some (pA a0), some (pA a1), some (pI a2), some (pI (bOr s6.1 (bShl 1 s6.2))), some (pI (w32 (s6.2 + 1)))]) dX4_mayBe_57 (by decide) rfl rfl ?_
        refine v_goto (tgt := 15) dX4_mayBe_60 (by decide) ?_
        exact hrec5 (bOr s6.1 (bShl 1 s6.2), w32 (s6.2 + 1))
      · refine v_iconst dX4_mayBe_54 (by decide) ?_
        refine v_ior dX4_mayBe_55 ?_
        refine v_istore_n (ls' := [some (pA a0), some (pA a1), some (pI a2), some (pI (bOr s6.1 0)), some (pI s6.2)]) dX4_mayBe_56 (by decide) rfl ?_
        refine v_iinc (ls' := [some (pA a0), some (pA a1), some (pI a2), some (pI (bOr s6.1 0)), some (pI (w32 (s6.2 + 1)))]) dX4_mayBe_57 (by decide) rfl rfl ?_
        refine v_goto (tgt := 15) dX4_mayBe_60 (by decide) ?_
        exact hrec5 (bOr s6.1 0, w32 (s6.2 + 1))
    · refine v_iload_n dX4_mayBe_63 rfl ?_
      exact v_ireturn dX4_mayBe_64 rfl rfl
theorem chX4_isTold_0 : (cX4_isTold.data.toList.drop 0).take 16 = [3, 62, 29, 43, 180, 0, 75, 162, 0, 25, 42, 180, 0, 22, 29, 28] := by decide +kernel
theorem chX4_isTold_1 : (cX4_isTold.data.toList.drop 16).take 16 = [184, 0, 40, 46, 2, 160, 0, 5, 3, 172, 132, 3, 1, 167, 255, 229] := by decide +kernel
theorem chX4_isTold_2 : (cX4_isTold.data.toList.drop 32).take 16 = [4, 172] := by decide +kernel
theorem dX4_isTold_0 : decode cX4_isTold 0 = .ok (.iconst 0, 1) := oq_3 (byt chX4_isTold_0 0 rfl)
theorem dX4_isTold_1 : decode cX4_isTold 1 = .ok (.istore_n 3, 1) := oq_62 (byt chX4_isTold_0 1 rfl)
theorem dX4_isTold_2 : decode cX4_isTold 2 = .ok (.iload_n 3, 1) := oq_29 (byt chX4_isTold_0 2 rfl)
theorem dX4_isTold_3 : decode cX4_isTold 3 = .ok (.aload_n 1, 1) := oq_43 (byt chX4_isTold_0 3 rfl)
theorem dX4_isTold_4 : decode cX4_isTold 4 = .ok (.getfield 75, 3) := oq_180 (byt chX4_isTold_0 4 rfl) (byt chX4_isTold_0 5 rfl) (byt chX4_isTold_0 6 rfl) rfl
theorem dX4_isTold_7 : decode cX4_isTold 7 = .ok (.if_icmp .ge 25, 3) := oq_162 (byt chX4_isTold_0 7 rfl) (byt chX4_isTold_0 8 rfl) (byt chX4_isTold_0 9 rfl) (by decide +kernel)
theorem dX4_isTold_10 : decode cX4_isTold 10 = .ok (.aload_n 0, 1) := oq_42 (byt chX4_isTold_0 10 rfl)
theorem dX4_isTold_11 : decode cX4_isTold 11 = .ok (.getfield 22, 3) := oq_180 (byt chX4_isTold_0 11 rfl) (byt chX4_isTold_0 12 rfl) (byt chX4_isTold_0 13 rfl) rfl
theorem dX4_isTold_14 : decode cX4_isTold 14 = .ok (.iload_n 3, 1) := oq_29 (byt chX4_isTold_0 14 rfl)
theorem dX4_isTold_15 : decode cX4_isTold 15 = .ok (.iload_n 2, 1) := oq_28 (byt chX4_isTold_0 15 rfl)
theorem dX4_isTold_16 : decode cX4_isTold 16 = .ok (.invokestatic 40, 3) := oq_184 (byt chX4_isTold_1 0 rfl) (byt chX4_isTold_1 1 rfl) (byt chX4_isTold_1 2 rfl) rfl
theorem dX4_isTold_19 : decode cX4_isTold 19 = .ok (.iaload, 1) := oq_46 (byt chX4_isTold_1 3 rfl)
theorem dX4_isTold_20 : decode cX4_isTold 20 = .ok (.iconst (-1), 1) := oq_2 (byt chX4_isTold_1 4 rfl)
theorem dX4_isTold_21 : decode cX4_isTold 21 = .ok (.if_icmp .ne 5, 3) := oq_160 (byt chX4_isTold_1 5 rfl) (byt chX4_isTold_1 6 rfl) (byt chX4_isTold_1 7 rfl) (by decide +kernel)
theorem dX4_isTold_24 : decode cX4_isTold 24 = .ok (.iconst 0, 1) := oq_3 (byt chX4_isTold_1 8 rfl)
theorem dX4_isTold_25 : decode cX4_isTold 25 = .ok (.ireturn, 1) := oq_172 (byt chX4_isTold_1 9 rfl)
theorem dX4_isTold_26 : decode cX4_isTold 26 = .ok (.iinc 3 1, 3) := oq_132 (byt chX4_isTold_1 10 rfl) (byt chX4_isTold_1 11 rfl) (byt chX4_isTold_1 12 rfl) rfl
theorem dX4_isTold_29 : decode cX4_isTold 29 = .ok (.goto (-27), 3) := oq_167 (byt chX4_isTold_1 13 rfl) (byt chX4_isTold_1 14 rfl) (byt chX4_isTold_1 15 rfl) (by decide +kernel)
theorem dX4_isTold_32 : decode cX4_isTold 32 = .ok (.iconst 1, 1) := oq_4 (byt chX4_isTold_2 0 rfl)
theorem dX4_isTold_33 : decode cX4_isTold 33 = .ok (.ireturn, 1) := oq_172 (byt chX4_isTold_2 1 rfl)
abbrev mX4_isTold : MI := (yX4_isTold, cX4_isTold, 4, (some .boolean), noE)
theorem okX4_isTold : cok mX4_isTold 2 := ⟨tw978, tw6, by decide, by decide, by decide, by decide +kernel⟩
def fX4_isTold (M : Mem) (a0 a1 a2 : Int) : Option Int :=
  iterC (fun (rec1 : Int → Option Int) (s2 : Int) => if M.2.1 a1 = 7 then if s2 < M.1 a1 0 then (if M.2.1 a0 = 4 then (fX10_cell M s2 a2).bind fun r6 => if M.2.1 (M.1 a0 3) = 12 ∧ (0 : Int) ≤ r6 ∧ r6 < M.2.2.1 (M.1 a0 3) then if M.1 (M.1 a0 3) r6 = (-1) then (some 0) else (rec1 (w32 (s2 + 1))) else none else none) else (some 1) else none) BIG 0
set_option maxRecDepth 100000 in
set_option maxHeartbeats 4000000 in
theorem kX4_isTold (d : Nat) (hd : 1 ≤ d) (M : Mem) (a0 a1 a2 : Int) : Ct mX4_isTold d 0 0 [pA a0, pA a1, pI a2] M (dI M) (fX4_isTold M a0 a1 a2) := by
  obtain ⟨d, rfl⟩ : ∃ k, d = k + 1 := ⟨d - 1, by omega⟩
  refine Ct.of 1 (fun _ _ _ => trivial) (by decide +kernel) rfl ?_
  unfold fX4_isTold
  refine v_iconst dX4_isTold_0 (by decide) ?_
  refine v_istore_n (ls' := [some (pA a0), some (pA a1), some (pI a2), some (pI 0)]) dX4_isTold_1 (by decide) rfl ?_
  refine v_loop (fun (s2 : Int) => [some (pA a0), some (pA a1), some (pI a2), some (pI s2)]) (fun (s2 : Int) => M) (s0 := 0) ?_
  intro rec1 hrec1 s2
  refine v_iload_n dX4_isTold_2 rfl ?_
  refine v_aload_n dX4_isTold_3 rfl ?_
  refine v_if (fun h3 => ?_)
  refine v_get (v := pI (M.1 a1 0)) 7 0 rfl inX7 (by decide) tw59 dX4_isTold_4 h3 rfl ?_
  refine v_icmp_ge (tgt := 32) dX4_isTold_7 (by decide) (fun c4 => ?_) (fun c4 => ?_)
  · refine v_aload_n dX4_isTold_10 rfl ?_
    refine v_if (fun h5 => ?_)
    refine v_get (v := pA (M.1 a0 3)) 4 3 rfl inX4 (by decide) tw192 dX4_isTold_11 h5 rfl ?_
    refine v_iload_n dX4_isTold_14 rfl ?_
    refine v_iload_n dX4_isTold_15 rfl ?_
    refine v_cS (mi := mX4_isTold) (c0 := 0) (c1 := 0) (As := [pI s2, pI a2]) (st := [pA (M.1 a0 3)]) (kX10_cell d (by omega) _ _ _) okX10_cell (Or.inr nw21) tw621 rfl (Nat.le_of_ble_eq_true rfl) dX4_isTold_16 (fun r6 => [pI r6, pA (M.1 a0 3)]) (fun r6 => M) (fun _ => rfl) (fun _ => rfl) (fun r6 h7 => ?_) rfl
    refine v_if (fun h8 => ?_)
    refine v_iaload h8 dX4_isTold_19 ?_
    refine v_iconst dX4_isTold_20 (by decide) ?_
    refine v_icmp_ne (tgt := 26) dX4_isTold_21 (by decide) (fun c9 => ?_) (fun c9 => ?_)
    · refine v_iconst dX4_isTold_24 (by decide) ?_
      exact v_breturn dX4_isTold_25 rfl (by decide) rfl
    · refine v_iinc (ls' := [some (pA a0), some (pA a1), some (pI a2), some (pI (w32 (s2 + 1)))]) dX4_isTold_26 (by decide) rfl rfl ?_
      refine v_goto (tgt := 2) dX4_isTold_29 (by decide) ?_
      exact hrec1 (w32 (s2 + 1))
  · refine v_iconst dX4_isTold_32 (by decide) ?_
    exact v_breturn dX4_isTold_33 rfl (by decide) rfl
theorem chX4_movedOf_0 : (cX4_movedOf.data.toList.drop 0).take 16 = [3, 54, 4, 3, 54, 5, 3, 54, 6, 3, 54, 7, 21, 7, 43, 180] := by decide +kernel
theorem chX4_movedOf_1 : (cX4_movedOf.data.toList.drop 16).take 16 = [0, 75, 162, 0, 62, 43, 180, 0, 80, 21, 7, 28, 184, 0, 40, 46] := by decide +kernel
theorem chX4_movedOf_2 : (cX4_movedOf.data.toList.drop 32).take 16 = [42, 180, 0, 22, 21, 7, 28, 184, 0, 40, 46, 100, 54, 8, 21, 5] := by decide +kernel
theorem chX4_movedOf_3 : (cX4_movedOf.data.toList.drop 48).take 16 = [3, 21, 8, 184, 0, 83, 96, 54, 5, 21, 6, 21, 8, 96, 54, 6] := by decide +kernel
theorem chX4_movedOf_4 : (cX4_movedOf.data.toList.drop 64).take 16 = [21, 4, 21, 6, 184, 0, 86, 96, 54, 4, 132, 7, 1, 167, 255, 191] := by decide +kernel
theorem chX4_movedOf_5 : (cX4_movedOf.data.toList.drop 80).take 16 = [21, 6, 153, 0, 5, 2, 172, 29, 153, 0, 8, 21, 5, 167, 0, 5] := by decide +kernel
theorem chX4_movedOf_6 : (cX4_movedOf.data.toList.drop 96).take 16 = [21, 4, 172] := by decide +kernel
theorem dX4_movedOf_0 : decode cX4_movedOf 0 = .ok (.iconst 0, 1) := oq_3 (byt chX4_movedOf_0 0 rfl)
theorem dX4_movedOf_1 : decode cX4_movedOf 1 = .ok (.istore 4, 2) := oq_54 (byt chX4_movedOf_0 1 rfl) (byt chX4_movedOf_0 2 rfl) rfl
theorem dX4_movedOf_3 : decode cX4_movedOf 3 = .ok (.iconst 0, 1) := oq_3 (byt chX4_movedOf_0 3 rfl)
theorem dX4_movedOf_4 : decode cX4_movedOf 4 = .ok (.istore 5, 2) := oq_54 (byt chX4_movedOf_0 4 rfl) (byt chX4_movedOf_0 5 rfl) rfl
theorem dX4_movedOf_6 : decode cX4_movedOf 6 = .ok (.iconst 0, 1) := oq_3 (byt chX4_movedOf_0 6 rfl)
theorem dX4_movedOf_7 : decode cX4_movedOf 7 = .ok (.istore 6, 2) := oq_54 (byt chX4_movedOf_0 7 rfl) (byt chX4_movedOf_0 8 rfl) rfl
theorem dX4_movedOf_9 : decode cX4_movedOf 9 = .ok (.iconst 0, 1) := oq_3 (byt chX4_movedOf_0 9 rfl)
theorem dX4_movedOf_10 : decode cX4_movedOf 10 = .ok (.istore 7, 2) := oq_54 (byt chX4_movedOf_0 10 rfl) (byt chX4_movedOf_0 11 rfl) rfl
theorem dX4_movedOf_12 : decode cX4_movedOf 12 = .ok (.iload 7, 2) := oq_21 (byt chX4_movedOf_0 12 rfl) (byt chX4_movedOf_0 13 rfl) rfl
theorem dX4_movedOf_14 : decode cX4_movedOf 14 = .ok (.aload_n 1, 1) := oq_43 (byt chX4_movedOf_0 14 rfl)
theorem dX4_movedOf_15 : decode cX4_movedOf 15 = .ok (.getfield 75, 3) := oq_180 (byt chX4_movedOf_0 15 rfl) (byt chX4_movedOf_1 0 rfl) (byt chX4_movedOf_1 1 rfl) rfl
theorem dX4_movedOf_18 : decode cX4_movedOf 18 = .ok (.if_icmp .ge 62, 3) := oq_162 (byt chX4_movedOf_1 2 rfl) (byt chX4_movedOf_1 3 rfl) (byt chX4_movedOf_1 4 rfl) (by decide +kernel)
theorem dX4_movedOf_21 : decode cX4_movedOf 21 = .ok (.aload_n 1, 1) := oq_43 (byt chX4_movedOf_1 5 rfl)
theorem dX4_movedOf_22 : decode cX4_movedOf 22 = .ok (.getfield 80, 3) := oq_180 (byt chX4_movedOf_1 6 rfl) (byt chX4_movedOf_1 7 rfl) (byt chX4_movedOf_1 8 rfl) rfl
theorem dX4_movedOf_25 : decode cX4_movedOf 25 = .ok (.iload 7, 2) := oq_21 (byt chX4_movedOf_1 9 rfl) (byt chX4_movedOf_1 10 rfl) rfl
theorem dX4_movedOf_27 : decode cX4_movedOf 27 = .ok (.iload_n 2, 1) := oq_28 (byt chX4_movedOf_1 11 rfl)
theorem dX4_movedOf_28 : decode cX4_movedOf 28 = .ok (.invokestatic 40, 3) := oq_184 (byt chX4_movedOf_1 12 rfl) (byt chX4_movedOf_1 13 rfl) (byt chX4_movedOf_1 14 rfl) rfl
theorem dX4_movedOf_31 : decode cX4_movedOf 31 = .ok (.iaload, 1) := oq_46 (byt chX4_movedOf_1 15 rfl)
theorem dX4_movedOf_32 : decode cX4_movedOf 32 = .ok (.aload_n 0, 1) := oq_42 (byt chX4_movedOf_2 0 rfl)
theorem dX4_movedOf_33 : decode cX4_movedOf 33 = .ok (.getfield 22, 3) := oq_180 (byt chX4_movedOf_2 1 rfl) (byt chX4_movedOf_2 2 rfl) (byt chX4_movedOf_2 3 rfl) rfl
theorem dX4_movedOf_36 : decode cX4_movedOf 36 = .ok (.iload 7, 2) := oq_21 (byt chX4_movedOf_2 4 rfl) (byt chX4_movedOf_2 5 rfl) rfl
theorem dX4_movedOf_38 : decode cX4_movedOf 38 = .ok (.iload_n 2, 1) := oq_28 (byt chX4_movedOf_2 6 rfl)
theorem dX4_movedOf_39 : decode cX4_movedOf 39 = .ok (.invokestatic 40, 3) := oq_184 (byt chX4_movedOf_2 7 rfl) (byt chX4_movedOf_2 8 rfl) (byt chX4_movedOf_2 9 rfl) rfl
theorem dX4_movedOf_42 : decode cX4_movedOf 42 = .ok (.iaload, 1) := oq_46 (byt chX4_movedOf_2 10 rfl)
theorem dX4_movedOf_43 : decode cX4_movedOf 43 = .ok (.isub, 1) := oq_100 (byt chX4_movedOf_2 11 rfl)
theorem dX4_movedOf_44 : decode cX4_movedOf 44 = .ok (.istore 8, 2) := oq_54 (byt chX4_movedOf_2 12 rfl) (byt chX4_movedOf_2 13 rfl) rfl
theorem dX4_movedOf_46 : decode cX4_movedOf 46 = .ok (.iload 5, 2) := oq_21 (byt chX4_movedOf_2 14 rfl) (byt chX4_movedOf_2 15 rfl) rfl
theorem dX4_movedOf_48 : decode cX4_movedOf 48 = .ok (.iconst 0, 1) := oq_3 (byt chX4_movedOf_3 0 rfl)
theorem dX4_movedOf_49 : decode cX4_movedOf 49 = .ok (.iload 8, 2) := oq_21 (byt chX4_movedOf_3 1 rfl) (byt chX4_movedOf_3 2 rfl) rfl
theorem dX4_movedOf_51 : decode cX4_movedOf 51 = .ok (.invokestatic 83, 3) := oq_184 (byt chX4_movedOf_3 3 rfl) (byt chX4_movedOf_3 4 rfl) (byt chX4_movedOf_3 5 rfl) rfl
theorem dX4_movedOf_54 : decode cX4_movedOf 54 = .ok (.iadd, 1) := oq_96 (byt chX4_movedOf_3 6 rfl)
theorem dX4_movedOf_55 : decode cX4_movedOf 55 = .ok (.istore 5, 2) := oq_54 (byt chX4_movedOf_3 7 rfl) (byt chX4_movedOf_3 8 rfl) rfl
theorem dX4_movedOf_57 : decode cX4_movedOf 57 = .ok (.iload 6, 2) := oq_21 (byt chX4_movedOf_3 9 rfl) (byt chX4_movedOf_3 10 rfl) rfl
theorem dX4_movedOf_59 : decode cX4_movedOf 59 = .ok (.iload 8, 2) := oq_21 (byt chX4_movedOf_3 11 rfl) (byt chX4_movedOf_3 12 rfl) rfl
theorem dX4_movedOf_61 : decode cX4_movedOf 61 = .ok (.iadd, 1) := oq_96 (byt chX4_movedOf_3 13 rfl)
theorem dX4_movedOf_62 : decode cX4_movedOf 62 = .ok (.istore 6, 2) := oq_54 (byt chX4_movedOf_3 14 rfl) (byt chX4_movedOf_3 15 rfl) rfl
theorem dX4_movedOf_64 : decode cX4_movedOf 64 = .ok (.iload 4, 2) := oq_21 (byt chX4_movedOf_4 0 rfl) (byt chX4_movedOf_4 1 rfl) rfl
theorem dX4_movedOf_66 : decode cX4_movedOf 66 = .ok (.iload 6, 2) := oq_21 (byt chX4_movedOf_4 2 rfl) (byt chX4_movedOf_4 3 rfl) rfl
theorem dX4_movedOf_68 : decode cX4_movedOf 68 = .ok (.invokestatic 86, 3) := oq_184 (byt chX4_movedOf_4 4 rfl) (byt chX4_movedOf_4 5 rfl) (byt chX4_movedOf_4 6 rfl) rfl
theorem dX4_movedOf_71 : decode cX4_movedOf 71 = .ok (.iadd, 1) := oq_96 (byt chX4_movedOf_4 7 rfl)
theorem dX4_movedOf_72 : decode cX4_movedOf 72 = .ok (.istore 4, 2) := oq_54 (byt chX4_movedOf_4 8 rfl) (byt chX4_movedOf_4 9 rfl) rfl
theorem dX4_movedOf_74 : decode cX4_movedOf 74 = .ok (.iinc 7 1, 3) := oq_132 (byt chX4_movedOf_4 10 rfl) (byt chX4_movedOf_4 11 rfl) (byt chX4_movedOf_4 12 rfl) rfl
theorem dX4_movedOf_77 : decode cX4_movedOf 77 = .ok (.goto (-65), 3) := oq_167 (byt chX4_movedOf_4 13 rfl) (byt chX4_movedOf_4 14 rfl) (byt chX4_movedOf_4 15 rfl) (by decide +kernel)
theorem dX4_movedOf_80 : decode cX4_movedOf 80 = .ok (.iload 6, 2) := oq_21 (byt chX4_movedOf_5 0 rfl) (byt chX4_movedOf_5 1 rfl) rfl
theorem dX4_movedOf_82 : decode cX4_movedOf 82 = .ok (.ifCond .eq 5, 3) := oq_153 (byt chX4_movedOf_5 2 rfl) (byt chX4_movedOf_5 3 rfl) (byt chX4_movedOf_5 4 rfl) (by decide +kernel)
theorem dX4_movedOf_85 : decode cX4_movedOf 85 = .ok (.iconst (-1), 1) := oq_2 (byt chX4_movedOf_5 5 rfl)
theorem dX4_movedOf_86 : decode cX4_movedOf 86 = .ok (.ireturn, 1) := oq_172 (byt chX4_movedOf_5 6 rfl)
theorem dX4_movedOf_87 : decode cX4_movedOf 87 = .ok (.iload_n 3, 1) := oq_29 (byt chX4_movedOf_5 7 rfl)
theorem dX4_movedOf_88 : decode cX4_movedOf 88 = .ok (.ifCond .eq 8, 3) := oq_153 (byt chX4_movedOf_5 8 rfl) (byt chX4_movedOf_5 9 rfl) (byt chX4_movedOf_5 10 rfl) (by decide +kernel)
theorem dX4_movedOf_91 : decode cX4_movedOf 91 = .ok (.iload 5, 2) := oq_21 (byt chX4_movedOf_5 11 rfl) (byt chX4_movedOf_5 12 rfl) rfl
theorem dX4_movedOf_93 : decode cX4_movedOf 93 = .ok (.goto 5, 3) := oq_167 (byt chX4_movedOf_5 13 rfl) (byt chX4_movedOf_5 14 rfl) (byt chX4_movedOf_5 15 rfl) (by decide +kernel)
theorem dX4_movedOf_96 : decode cX4_movedOf 96 = .ok (.iload 4, 2) := oq_21 (byt chX4_movedOf_6 0 rfl) (byt chX4_movedOf_6 1 rfl) rfl
theorem dX4_movedOf_98 : decode cX4_movedOf 98 = .ok (.ireturn, 1) := oq_172 (byt chX4_movedOf_6 2 rfl)
abbrev mX4_movedOf : MI := (yX4_movedOf, cX4_movedOf, 9, (some .int), noE)
theorem okX4_movedOf : cok mX4_movedOf 3 := ⟨tw982, tw6, by decide, by decide, by decide, by decide +kernel⟩
def fX4_movedOf (M : Mem) (a0 a1 a2 a3 : Int) : Option Int :=
  iterC (fun (rec1 : (Int × Int × Int × Int) → Option Int) (s2 : Int × Int × Int × Int) => if M.2.1 a1 = 7 then if s2.2.2.2 < M.1 a1 0 then ((fX10_cell M s2.2.2.2 a2).bind fun r5 => if M.2.1 (M.1 a1 2) = 12 ∧ (0 : Int) ≤ r5 ∧ r5 < M.2.2.1 (M.1 a1 2) then if M.2.1 a0 = 4 then (fX10_cell M s2.2.2.2 a2).bind fun r9 => if M.2.1 (M.1 a0 3) = 12 ∧ (0 : Int) ≤ r9 ∧ r9 < M.2.2.1 (M.1 a0 3) then rec1 (w32 (s2.1 + (iabs (w32 (s2.2.2.1 + (w32 ((M.1 (M.1 a1 2) r5) - (M.1 (M.1 a0 3) r9))))))), w32 (s2.2.1 + (imax 0 (w32 ((M.1 (M.1 a1 2) r5) - (M.1 (M.1 a0 3) r9))))), w32 (s2.2.2.1 + (w32 ((M.1 (M.1 a1 2) r5) - (M.1 (M.1 a0 3) r9)))), w32 (s2.2.2.2 + 1)) else none else none else none) else (if s2.2.2.1 = 0 then (if a3 = 0 then (some s2.1) else (some s2.2.1)) else (some (-1))) else none) BIG (0, 0, 0, 0)
set_option maxRecDepth 100000 in
set_option maxHeartbeats 4000000 in
theorem kX4_movedOf (d : Nat) (hd : 1 ≤ d) (M : Mem) (a0 a1 a2 a3 : Int) : Ct mX4_movedOf d 0 0 [pA a0, pA a1, pI a2, pI a3] M (dI M) (fX4_movedOf M a0 a1 a2 a3) := by
  obtain ⟨d, rfl⟩ : ∃ k, d = k + 1 := ⟨d - 1, by omega⟩
  refine Ct.of 5 (fun _ _ _ => trivial) (by decide +kernel) rfl ?_
  unfold fX4_movedOf
  refine v_iconst dX4_movedOf_0 (by decide) ?_
  refine v_istore (ls' := [some (pA a0), some (pA a1), some (pI a2), some (pI a3), some (pI 0), none, none, none, none]) dX4_movedOf_1 (by decide) rfl ?_
  refine v_iconst dX4_movedOf_3 (by decide) ?_
  refine v_istore (ls' := [some (pA a0), some (pA a1), some (pI a2), some (pI a3), some (pI 0), some (pI 0), none, none, none]) dX4_movedOf_4 (by decide) rfl ?_
  refine v_iconst dX4_movedOf_6 (by decide) ?_
  refine v_istore (ls' := [some (pA a0), some (pA a1), some (pI a2), some (pI a3), some (pI 0), some (pI 0), some (pI 0), none, none]) dX4_movedOf_7 (by decide) rfl ?_
  refine v_iconst dX4_movedOf_9 (by decide) ?_
  refine v_istore (ls' := [some (pA a0), some (pA a1), some (pI a2), some (pI a3), some (pI 0), some (pI 0), some (pI 0), some (pI 0), none]) dX4_movedOf_10 (by decide) rfl ?_
  refine v_loop (fun (s2 : Int × Int × Int × Int) => [some (pA a0), some (pA a1), some (pI a2), some (pI a3), some (pI s2.1), some (pI s2.2.1), some (pI s2.2.2.1), some (pI s2.2.2.2), none]) (fun (s2 : Int × Int × Int × Int) => M) (s0 := (0, 0, 0, 0)) ?_
  intro rec1 hrec1 s2
  refine v_iload dX4_movedOf_12 rfl ?_
  refine v_aload_n dX4_movedOf_14 rfl ?_
  refine v_if (fun h3 => ?_)
  refine v_get (v := pI (M.1 a1 0)) 7 0 rfl inX7 (by decide) tw59 dX4_movedOf_15 h3 rfl ?_
  refine v_icmp_ge (tgt := 80) dX4_movedOf_18 (by decide) (fun c4 => ?_) (fun c4 => ?_)
  · refine v_aload_n dX4_movedOf_21 rfl ?_
    refine v_get (v := pA (M.1 a1 2)) 7 2 rfl inX7 (by decide) tw70 dX4_movedOf_22 h3 rfl ?_
    refine v_iload dX4_movedOf_25 rfl ?_
    refine v_iload_n dX4_movedOf_27 rfl ?_
    refine v_cS (mi := mX4_movedOf) (c0 := 0) (c1 := 0) (As := [pI s2.2.2.2, pI a2]) (st := [pA (M.1 a1 2)]) (kX10_cell d (by omega) _ _ _) okX10_cell (Or.inr nw21) tw621 rfl (Nat.le_of_ble_eq_true rfl) dX4_movedOf_28 (fun r5 => [pI r5, pA (M.1 a1 2)]) (fun r5 => M) (fun _ => rfl) (fun _ => rfl) (fun r5 h6 => ?_) rfl
    refine v_if (fun h7 => ?_)
    refine v_iaload h7 dX4_movedOf_31 ?_
    refine v_aload_n dX4_movedOf_32 rfl ?_
    refine v_if (fun h8 => ?_)
    refine v_get (v := pA (M.1 a0 3)) 4 3 rfl inX4 (by decide) tw192 dX4_movedOf_33 h8 rfl ?_
    refine v_iload dX4_movedOf_36 rfl ?_
    refine v_iload_n dX4_movedOf_38 rfl ?_
    refine v_cS (mi := mX4_movedOf) (c0 := 0) (c1 := 0) (As := [pI s2.2.2.2, pI a2]) (st := [pA (M.1 a0 3), pI (M.1 (M.1 a1 2) r5)]) (kX10_cell d (by omega) _ _ _) okX10_cell (Or.inr nw21) tw621 rfl (Nat.le_of_ble_eq_true rfl) dX4_movedOf_39 (fun r9 => [pI r9, pA (M.1 a0 3), pI (M.1 (M.1 a1 2) r5)]) (fun r9 => M) (fun _ => rfl) (fun _ => rfl) (fun r9 h10 => ?_) rfl
    refine v_if (fun h11 => ?_)
    refine v_iaload h11 dX4_movedOf_42 ?_
    refine v_isub dX4_movedOf_43 ?_
    refine v_istore (ls' := [some (pA a0), some (pA a1), some (pI a2), some (pI a3), some (pI s2.1), some (pI s2.2.1), some (pI s2.2.2.1), some (pI s2.2.2.2), some (pI (w32 ((M.1 (M.1 a1 2) r5) - (M.1 (M.1 a0 3) r9))))]) dX4_movedOf_44 (by decide) rfl ?_
    refine v_iload dX4_movedOf_46 rfl ?_
    refine v_iconst dX4_movedOf_48 (by decide) ?_
    refine v_iload dX4_movedOf_49 rfl ?_
    refine v_mmax (mi := mX4_movedOf) tw983 tw624 tw12 tw625 (Nat.le_of_ble_eq_true rfl) dX4_movedOf_51 ?_
    refine v_iadd dX4_movedOf_54 ?_
    refine v_istore (ls' := [some (pA a0), some (pA a1), some (pI a2), some (pI a3), some (pI s2.1), some (pI (w32 (s2.2.1 + (imax 0 (w32 ((M.1 (M.1 a1 2) r5) - (M.1 (M.1 a0 3) r9))))))), some (pI s2.2.2.1), some (pI s2.2.2.2), some (pI (w32 ((M.1 (M.1 a1 2) r5) - (M.1 (M.1 a0 3) r9))))]) dX4_movedOf_55 (by decide) rfl ?_
    refine v_iload dX4_movedOf_57 rfl ?_
    refine v_iload dX4_movedOf_59 rfl ?_
    refine v_iadd dX4_movedOf_61 ?_
    refine v_istore (ls' := [some (pA a0), some (pA a1), some (pI a2), some (pI a3), some (pI s2.1), some (pI (w32 (s2.2.1 + (imax 0 (w32 ((M.1 (M.1 a1 2) r5) - (M.1 (M.1 a0 3) r9))))))), some (pI (w32 (s2.2.2.1 + (w32 ((M.1 (M.1 a1 2) r5) - (M.1 (M.1 a0 3) r9)))))), some (pI s2.2.2.2), some (pI (w32 ((M.1 (M.1 a1 2) r5) - (M.1 (M.1 a0 3) r9))))]) dX4_movedOf_62 (by decide) rfl ?_
    refine v_iload dX4_movedOf_64 rfl ?_
    refine v_iload dX4_movedOf_66 rfl ?_
    refine v_mabs (mi := mX4_movedOf) tw984 tw907 tw12 tw908 (Nat.le_of_ble_eq_true rfl) dX4_movedOf_68 ?_
    refine v_iadd dX4_movedOf_71 ?_
    refine v_istore (ls' := [some (pA a0), some (pA a1), some (pI a2), some (pI a3), some (pI (w32 (s2.1 + (iabs (w32 (s2.2.2.1 + (w32 ((M.1 (M.1 a1 2) r5) - (M.1 (M.1 a0 3) r9))))))))), some (pI (w32 (s2.2.1 + (imax 0 (w32 ((M.1 (M.1 a1 2) r5) - (M.1 (M.1 a0 3) r9))))))), some (pI (w32 (s2.2.2.1 + (w32 ((M.1 (M.1 a1 2) r5) - (M.1 (M.1 a0 3) r9)))))), some (pI s2.2.2.2), some (pI (w32 ((M.1 (M.1 a1 2) r5) - (M.1 (M.1 a0 3) r9))))]) dX4_movedOf_72 (by decide) rfl ?_
    refine v_iinc (ls' := [some (pA a0), some (pA a1), some (pI a2), some (pI a3), some (pI (w32 (s2.1 + (iabs (w32 (s2.2.2.1 + (w32 ((M.1 (M.1 a1 2) r5) - (M.1 (M.1 a0 3) r9))))))))), some (pI (w32 (s2.2.1 + (imax 0 (w32 ((M.1 (M.1 a1 2) r5) - (M.1 (M.1 a0 3) r9))))))), some (pI (w32 (s2.2.2.1 + (w32 ((M.1 (M.1 a1 2) r5) - (M.1 (M.1 a0 3) r9)))))), some (pI (w32 (s2.2.2.2 + 1))), some (pI (w32 ((M.1 (M.1 a1 2) r5) - (M.1 (M.1 a0 3) r9))))]) dX4_movedOf_74 (by decide) rfl rfl ?_
    refine v_goto (tgt := 12) dX4_movedOf_77 (by decide) ?_
    exact v_drop [some (pA a0), some (pA a1), some (pI a2), some (pI a3), some (pI (w32 (s2.1 + (iabs (w32 (s2.2.2.1 + (w32 ((M.1 (M.1 a1 2) r5) - (M.1 (M.1 a0 3) r9))))))))), some (pI (w32 (s2.2.1 + (imax 0 (w32 ((M.1 (M.1 a1 2) r5) - (M.1 (M.1 a0 3) r9))))))), some (pI (w32 (s2.2.2.1 + (w32 ((M.1 (M.1 a1 2) r5) - (M.1 (M.1 a0 3) r9)))))), some (pI (w32 (s2.2.2.2 + 1))), none] (ls_s (ls_s (ls_s (ls_s (ls_s (ls_s (ls_s (ls_s (ls_n ls_e))))))))) (hrec1 (w32 (s2.1 + (iabs (w32 (s2.2.2.1 + (w32 ((M.1 (M.1 a1 2) r5) - (M.1 (M.1 a0 3) r9))))))), w32 (s2.2.1 + (imax 0 (w32 ((M.1 (M.1 a1 2) r5) - (M.1 (M.1 a0 3) r9))))), w32 (s2.2.2.1 + (w32 ((M.1 (M.1 a1 2) r5) - (M.1 (M.1 a0 3) r9)))), w32 (s2.2.2.2 + 1)))
  · refine v_iload dX4_movedOf_80 rfl ?_
    refine v_if_eq (tgt := 87) dX4_movedOf_82 (by decide) (fun c12 => ?_) (fun c12 => ?_)
    · refine v_iload_n dX4_movedOf_87 rfl ?_
      refine v_if_eq (tgt := 96) dX4_movedOf_88 (by decide) (fun c13 => ?_) (fun c13 => ?_)
      · refine v_iload dX4_movedOf_96 rfl ?_
        exact v_ireturn dX4_movedOf_98 rfl rfl
      · refine v_iload dX4_movedOf_91 rfl ?_
        refine v_goto (tgt := 98) dX4_movedOf_93 (by decide) ?_
        exact v_ireturn dX4_movedOf_98 rfl rfl
    · refine v_iconst dX4_movedOf_85 (by decide) ?_
      exact v_ireturn dX4_movedOf_86 rfl rfl
theorem chX4_movedFrom_0 : (cX4_movedFrom.data.toList.drop 0).take 16 = [3, 62, 3, 54, 4, 21, 4, 8, 162, 0, 42, 42, 43, 21, 4, 182] := by decide +kernel
theorem chX4_movedFrom_1 : (cX4_movedFrom.data.toList.drop 16).take 16 = [0, 67, 153, 0, 26, 42, 43, 21, 4, 28, 182, 0, 71, 54, 5, 21] := by decide +kernel
theorem chX4_movedFrom_2 : (cX4_movedFrom.data.toList.drop 32).take 16 = [5, 2, 160, 0, 5, 2, 172, 29, 21, 5, 96, 62, 132, 4, 1, 167] := by decide +kernel
theorem chX4_movedFrom_3 : (cX4_movedFrom.data.toList.drop 48).take 16 = [255, 214, 29, 172] := by decide +kernel
theorem dX4_movedFrom_0 : decode cX4_movedFrom 0 = .ok (.iconst 0, 1) := oq_3 (byt chX4_movedFrom_0 0 rfl)
theorem dX4_movedFrom_1 : decode cX4_movedFrom 1 = .ok (.istore_n 3, 1) := oq_62 (byt chX4_movedFrom_0 1 rfl)
theorem dX4_movedFrom_2 : decode cX4_movedFrom 2 = .ok (.iconst 0, 1) := oq_3 (byt chX4_movedFrom_0 2 rfl)
theorem dX4_movedFrom_3 : decode cX4_movedFrom 3 = .ok (.istore 4, 2) := oq_54 (byt chX4_movedFrom_0 3 rfl) (byt chX4_movedFrom_0 4 rfl) rfl
theorem dX4_movedFrom_5 : decode cX4_movedFrom 5 = .ok (.iload 4, 2) := oq_21 (byt chX4_movedFrom_0 5 rfl) (byt chX4_movedFrom_0 6 rfl) rfl
theorem dX4_movedFrom_7 : decode cX4_movedFrom 7 = .ok (.iconst 5, 1) := oq_8 (byt chX4_movedFrom_0 7 rfl)
theorem dX4_movedFrom_8 : decode cX4_movedFrom 8 = .ok (.if_icmp .ge 42, 3) := oq_162 (byt chX4_movedFrom_0 8 rfl) (byt chX4_movedFrom_0 9 rfl) (byt chX4_movedFrom_0 10 rfl) (by decide +kernel)
theorem dX4_movedFrom_11 : decode cX4_movedFrom 11 = .ok (.aload_n 0, 1) := oq_42 (byt chX4_movedFrom_0 11 rfl)
theorem dX4_movedFrom_12 : decode cX4_movedFrom 12 = .ok (.aload_n 1, 1) := oq_43 (byt chX4_movedFrom_0 12 rfl)
theorem dX4_movedFrom_13 : decode cX4_movedFrom 13 = .ok (.iload 4, 2) := oq_21 (byt chX4_movedFrom_0 13 rfl) (byt chX4_movedFrom_0 14 rfl) rfl
theorem dX4_movedFrom_15 : decode cX4_movedFrom 15 = .ok (.invokevirtual 67, 3) := oq_182 (byt chX4_movedFrom_0 15 rfl) (byt chX4_movedFrom_1 0 rfl) (byt chX4_movedFrom_1 1 rfl) rfl
theorem dX4_movedFrom_18 : decode cX4_movedFrom 18 = .ok (.ifCond .eq 26, 3) := oq_153 (byt chX4_movedFrom_1 2 rfl) (byt chX4_movedFrom_1 3 rfl) (byt chX4_movedFrom_1 4 rfl) (by decide +kernel)
theorem dX4_movedFrom_21 : decode cX4_movedFrom 21 = .ok (.aload_n 0, 1) := oq_42 (byt chX4_movedFrom_1 5 rfl)
theorem dX4_movedFrom_22 : decode cX4_movedFrom 22 = .ok (.aload_n 1, 1) := oq_43 (byt chX4_movedFrom_1 6 rfl)
theorem dX4_movedFrom_23 : decode cX4_movedFrom 23 = .ok (.iload 4, 2) := oq_21 (byt chX4_movedFrom_1 7 rfl) (byt chX4_movedFrom_1 8 rfl) rfl
theorem dX4_movedFrom_25 : decode cX4_movedFrom 25 = .ok (.iload_n 2, 1) := oq_28 (byt chX4_movedFrom_1 9 rfl)
theorem dX4_movedFrom_26 : decode cX4_movedFrom 26 = .ok (.invokevirtual 71, 3) := oq_182 (byt chX4_movedFrom_1 10 rfl) (byt chX4_movedFrom_1 11 rfl) (byt chX4_movedFrom_1 12 rfl) rfl
theorem dX4_movedFrom_29 : decode cX4_movedFrom 29 = .ok (.istore 5, 2) := oq_54 (byt chX4_movedFrom_1 13 rfl) (byt chX4_movedFrom_1 14 rfl) rfl
theorem dX4_movedFrom_31 : decode cX4_movedFrom 31 = .ok (.iload 5, 2) := oq_21 (byt chX4_movedFrom_1 15 rfl) (byt chX4_movedFrom_2 0 rfl) rfl
theorem dX4_movedFrom_33 : decode cX4_movedFrom 33 = .ok (.iconst (-1), 1) := oq_2 (byt chX4_movedFrom_2 1 rfl)
theorem dX4_movedFrom_34 : decode cX4_movedFrom 34 = .ok (.if_icmp .ne 5, 3) := oq_160 (byt chX4_movedFrom_2 2 rfl) (byt chX4_movedFrom_2 3 rfl) (byt chX4_movedFrom_2 4 rfl) (by decide +kernel)
theorem dX4_movedFrom_37 : decode cX4_movedFrom 37 = .ok (.iconst (-1), 1) := oq_2 (byt chX4_movedFrom_2 5 rfl)
theorem dX4_movedFrom_38 : decode cX4_movedFrom 38 = .ok (.ireturn, 1) := oq_172 (byt chX4_movedFrom_2 6 rfl)
theorem dX4_movedFrom_39 : decode cX4_movedFrom 39 = .ok (.iload_n 3, 1) := oq_29 (byt chX4_movedFrom_2 7 rfl)
theorem dX4_movedFrom_40 : decode cX4_movedFrom 40 = .ok (.iload 5, 2) := oq_21 (byt chX4_movedFrom_2 8 rfl) (byt chX4_movedFrom_2 9 rfl) rfl
theorem dX4_movedFrom_42 : decode cX4_movedFrom 42 = .ok (.iadd, 1) := oq_96 (byt chX4_movedFrom_2 10 rfl)
theorem dX4_movedFrom_43 : decode cX4_movedFrom 43 = .ok (.istore_n 3, 1) := oq_62 (byt chX4_movedFrom_2 11 rfl)
theorem dX4_movedFrom_44 : decode cX4_movedFrom 44 = .ok (.iinc 4 1, 3) := oq_132 (byt chX4_movedFrom_2 12 rfl) (byt chX4_movedFrom_2 13 rfl) (byt chX4_movedFrom_2 14 rfl) rfl
theorem dX4_movedFrom_47 : decode cX4_movedFrom 47 = .ok (.goto (-42), 3) := oq_167 (byt chX4_movedFrom_2 15 rfl) (byt chX4_movedFrom_3 0 rfl) (byt chX4_movedFrom_3 1 rfl) (by decide +kernel)
theorem dX4_movedFrom_50 : decode cX4_movedFrom 50 = .ok (.iload_n 3, 1) := oq_29 (byt chX4_movedFrom_3 2 rfl)
theorem dX4_movedFrom_51 : decode cX4_movedFrom 51 = .ok (.ireturn, 1) := oq_172 (byt chX4_movedFrom_3 3 rfl)
abbrev mX4_movedFrom : MI := (yX4_movedFrom, cX4_movedFrom, 6, (some .int), noE)
theorem okX4_movedFrom : cok mX4_movedFrom 2 := ⟨tw974, tw6, by decide, by decide, by decide, by decide +kernel⟩
def fX4_movedFrom (M : Mem) (a0 a1 a2 : Int) : Option Int :=
  iterC (fun (rec1 : (Int × Int) → Option Int) (s2 : Int × Int) => if s2.2 < 5 then (if M.2.1 a0 = 4 then (fX4_isTold M a0 a1 s2.2).bind fun r4 => if r4 = 0 then (rec1 (s2.1, w32 (s2.2 + 1))) else ((fX4_movedOf M a0 a1 s2.2 a2).bind fun r8 => if r8 = (-1) then (some (-1)) else (rec1 (w32 (s2.1 + r8), w32 (s2.2 + 1)))) else none) else (some s2.1)) BIG (0, 0)
set_option maxRecDepth 100000 in
set_option maxHeartbeats 4000000 in
theorem kX4_movedFrom (d : Nat) (hd : 2 ≤ d) (M : Mem) (a0 a1 a2 : Int) : Ct mX4_movedFrom d 0 0 [pA a0, pA a1, pI a2] M (dI M) (fX4_movedFrom M a0 a1 a2) := by
  obtain ⟨d, rfl⟩ : ∃ k, d = k + 1 := ⟨d - 1, by omega⟩
  refine Ct.of 3 (fun _ _ _ => trivial) (by decide +kernel) rfl ?_
  unfold fX4_movedFrom
  refine v_iconst dX4_movedFrom_0 (by decide) ?_
  refine v_istore_n (ls' := [some (pA a0), some (pA a1), some (pI a2), some (pI 0), none, none]) dX4_movedFrom_1 (by decide) rfl ?_
  refine v_iconst dX4_movedFrom_2 (by decide) ?_
  refine v_istore (ls' := [some (pA a0), some (pA a1), some (pI a2), some (pI 0), some (pI 0), none]) dX4_movedFrom_3 (by decide) rfl ?_
  refine v_loop (fun (s2 : Int × Int) => [some (pA a0), some (pA a1), some (pI a2), some (pI s2.1), some (pI s2.2), none]) (fun (s2 : Int × Int) => M) (s0 := (0, 0)) ?_
  intro rec1 hrec1 s2
  refine v_iload dX4_movedFrom_5 rfl ?_
  refine v_iconst dX4_movedFrom_7 (by decide) ?_
  refine v_icmp_ge (tgt := 50) dX4_movedFrom_8 (by decide) (fun c3 => ?_) (fun c3 => ?_)
  · refine v_aload_n dX4_movedFrom_11 rfl ?_
    refine v_aload_n dX4_movedFrom_12 rfl ?_
    refine v_iload dX4_movedFrom_13 rfl ?_
    refine v_if (fun h6 => ?_)
    refine v_cV (mi := mX4_movedFrom) (c0 := 0) (c1 := 0) (As := [pA a1, pI s2.2]) (st := []) (kX4_isTold d (by omega) _ _ _ _) rfl h6 rfl okX4_isTold (Or.inl tw975) tw977 tp20 rfl (Nat.le_of_ble_eq_true rfl) dX4_movedFrom_15 (fun r4 => [pI r4]) (fun r4 => M) (fun _ => rfl) (fun _ => rfl) (fun r4 h5 => ?_) rfl
    refine v_if_eq (tgt := 44) dX4_movedFrom_18 (by decide) (fun c7 => ?_) (fun c7 => ?_)
    · refine v_iinc (ls' := [some (pA a0), some (pA a1), some (pI a2), some (pI s2.1), some (pI (w32 (s2.2 + 1))), none]) dX4_movedFrom_44 (by decide) rfl rfl ?_
      refine v_goto (tgt := 5) dX4_movedFrom_47 (by decide) ?_
      exact hrec1 (s2.1, w32 (s2.2 + 1))
    · refine v_aload_n dX4_movedFrom_21 rfl ?_
      refine v_aload_n dX4_movedFrom_22 rfl ?_
      refine v_iload dX4_movedFrom_23 rfl ?_
      refine v_iload_n dX4_movedFrom_25 rfl ?_
      refine v_cV (mi := mX4_movedFrom) (c0 := 0) (c1 := 0) (As := [pA a1, pI s2.2, pI a2]) (st := []) (kX4_movedOf d (by omega) _ _ _ _ _) rfl h6 rfl okX4_movedOf (Or.inl tw979) tw981 tp21 rfl (Nat.le_of_ble_eq_true rfl) dX4_movedFrom_26 (fun r8 => [pI r8]) (fun r8 => M) (fun _ => rfl) (fun _ => rfl) (fun r8 h9 => ?_) rfl
      refine v_istore (ls' := [some (pA a0), some (pA a1), some (pI a2), some (pI s2.1), some (pI s2.2), some (pI r8)]) dX4_movedFrom_29 (by decide) rfl ?_
      refine v_iload dX4_movedFrom_31 rfl ?_
      refine v_iconst dX4_movedFrom_33 (by decide) ?_
      refine v_icmp_ne (tgt := 39) dX4_movedFrom_34 (by decide) (fun c10 => ?_) (fun c10 => ?_)
      · refine v_iconst dX4_movedFrom_37 (by decide) ?_
        exact v_ireturn dX4_movedFrom_38 rfl rfl
      · refine v_iload_n dX4_movedFrom_39 rfl ?_
        refine v_iload dX4_movedFrom_40 rfl ?_
        refine v_iadd dX4_movedFrom_42 ?_
        refine v_istore_n (ls' := [some (pA a0), some (pA a1), some (pI a2), some (pI (w32 (s2.1 + r8))), some (pI s2.2), some (pI r8)]) dX4_movedFrom_43 (by decide) rfl ?_
        refine v_iinc (ls' := [some (pA a0), some (pA a1), some (pI a2), some (pI (w32 (s2.1 + r8))), some (pI (w32 (s2.2 + 1))), some (pI r8)]) dX4_movedFrom_44 (by decide) rfl rfl ?_
        refine v_goto (tgt := 5) dX4_movedFrom_47 (by decide) ?_
        exact v_drop [some (pA a0), some (pA a1), some (pI a2), some (pI (w32 (s2.1 + r8))), some (pI (w32 (s2.2 + 1))), none] (ls_s (ls_s (ls_s (ls_s (ls_s (ls_n ls_e)))))) (hrec1 (w32 (s2.1 + r8), w32 (s2.2 + 1)))
  · refine v_iload_n dX4_movedFrom_50 rfl ?_
    exact v_ireturn dX4_movedFrom_51 rfl rfl
theorem chX7_clear_0 : (cX7_clear.data.toList.drop 0).take 16 = [42, 6, 181, 0, 39, 42, 3, 181, 0, 43, 42, 180, 0, 9, 3, 184] := by decide +kernel
theorem chX7_clear_1 : (cX7_clear.data.toList.drop 16).take 16 = [0, 46, 42, 180, 0, 15, 3, 184, 0, 46, 42, 180, 0, 18, 3, 184] := by decide +kernel
theorem chX7_clear_2 : (cX7_clear.data.toList.drop 32).take 16 = [0, 46, 3, 60, 27, 16, 6, 162, 0, 16, 42, 180, 0, 21, 27, 27] := by decide +kernel
theorem chX7_clear_3 : (cX7_clear.data.toList.drop 48).take 16 = [79, 132, 1, 1, 167, 255, 240, 42, 180, 0, 24, 4, 184, 0, 46, 42] := by decide +kernel
theorem chX7_clear_4 : (cX7_clear.data.toList.drop 64).take 16 = [180, 0, 27, 4, 184, 0, 46, 42, 180, 0, 30, 3, 184, 0, 46, 42] := by decide +kernel
theorem chX7_clear_5 : (cX7_clear.data.toList.drop 80).take 16 = [180, 0, 33, 2, 184, 0, 46, 177] := by decide +kernel
theorem dX7_clear_0 : decode cX7_clear 0 = .ok (.aload_n 0, 1) := oq_42 (byt chX7_clear_0 0 rfl)
theorem dX7_clear_1 : decode cX7_clear 1 = .ok (.iconst 3, 1) := oq_6 (byt chX7_clear_0 1 rfl)
theorem dX7_clear_2 : decode cX7_clear 2 = .ok (.putfield 39, 3) := oq_181 (byt chX7_clear_0 2 rfl) (byt chX7_clear_0 3 rfl) (byt chX7_clear_0 4 rfl) rfl
theorem dX7_clear_5 : decode cX7_clear 5 = .ok (.aload_n 0, 1) := oq_42 (byt chX7_clear_0 5 rfl)
theorem dX7_clear_6 : decode cX7_clear 6 = .ok (.iconst 0, 1) := oq_3 (byt chX7_clear_0 6 rfl)
theorem dX7_clear_7 : decode cX7_clear 7 = .ok (.putfield 43, 3) := oq_181 (byt chX7_clear_0 7 rfl) (byt chX7_clear_0 8 rfl) (byt chX7_clear_0 9 rfl) rfl
theorem dX7_clear_10 : decode cX7_clear 10 = .ok (.aload_n 0, 1) := oq_42 (byt chX7_clear_0 10 rfl)
theorem dX7_clear_11 : decode cX7_clear 11 = .ok (.getfield 9, 3) := oq_180 (byt chX7_clear_0 11 rfl) (byt chX7_clear_0 12 rfl) (byt chX7_clear_0 13 rfl) rfl
theorem dX7_clear_14 : decode cX7_clear 14 = .ok (.iconst 0, 1) := oq_3 (byt chX7_clear_0 14 rfl)
theorem dX7_clear_15 : decode cX7_clear 15 = .ok (.invokestatic 46, 3) := oq_184 (byt chX7_clear_0 15 rfl) (byt chX7_clear_1 0 rfl) (byt chX7_clear_1 1 rfl) rfl
theorem dX7_clear_18 : decode cX7_clear 18 = .ok (.aload_n 0, 1) := oq_42 (byt chX7_clear_1 2 rfl)
theorem dX7_clear_19 : decode cX7_clear 19 = .ok (.getfield 15, 3) := oq_180 (byt chX7_clear_1 3 rfl) (byt chX7_clear_1 4 rfl) (byt chX7_clear_1 5 rfl) rfl
theorem dX7_clear_22 : decode cX7_clear 22 = .ok (.iconst 0, 1) := oq_3 (byt chX7_clear_1 6 rfl)
theorem dX7_clear_23 : decode cX7_clear 23 = .ok (.invokestatic 46, 3) := oq_184 (byt chX7_clear_1 7 rfl) (byt chX7_clear_1 8 rfl) (byt chX7_clear_1 9 rfl) rfl
theorem dX7_clear_26 : decode cX7_clear 26 = .ok (.aload_n 0, 1) := oq_42 (byt chX7_clear_1 10 rfl)
theorem dX7_clear_27 : decode cX7_clear 27 = .ok (.getfield 18, 3) := oq_180 (byt chX7_clear_1 11 rfl) (byt chX7_clear_1 12 rfl) (byt chX7_clear_1 13 rfl) rfl
theorem dX7_clear_30 : decode cX7_clear 30 = .ok (.iconst 0, 1) := oq_3 (byt chX7_clear_1 14 rfl)
theorem dX7_clear_31 : decode cX7_clear 31 = .ok (.invokestatic 46, 3) := oq_184 (byt chX7_clear_1 15 rfl) (byt chX7_clear_2 0 rfl) (byt chX7_clear_2 1 rfl) rfl
theorem dX7_clear_34 : decode cX7_clear 34 = .ok (.iconst 0, 1) := oq_3 (byt chX7_clear_2 2 rfl)
theorem dX7_clear_35 : decode cX7_clear 35 = .ok (.istore_n 1, 1) := oq_60 (byt chX7_clear_2 3 rfl)
theorem dX7_clear_36 : decode cX7_clear 36 = .ok (.iload_n 1, 1) := oq_27 (byt chX7_clear_2 4 rfl)
theorem dX7_clear_37 : decode cX7_clear 37 = .ok (.bipush 6, 2) := oq_16 (byt chX7_clear_2 5 rfl) (byt chX7_clear_2 6 rfl) rfl
theorem dX7_clear_39 : decode cX7_clear 39 = .ok (.if_icmp .ge 16, 3) := oq_162 (byt chX7_clear_2 7 rfl) (byt chX7_clear_2 8 rfl) (byt chX7_clear_2 9 rfl) (by decide +kernel)
theorem dX7_clear_42 : decode cX7_clear 42 = .ok (.aload_n 0, 1) := oq_42 (byt chX7_clear_2 10 rfl)
theorem dX7_clear_43 : decode cX7_clear 43 = .ok (.getfield 21, 3) := oq_180 (byt chX7_clear_2 11 rfl) (byt chX7_clear_2 12 rfl) (byt chX7_clear_2 13 rfl) rfl
theorem dX7_clear_46 : decode cX7_clear 46 = .ok (.iload_n 1, 1) := oq_27 (byt chX7_clear_2 14 rfl)
theorem dX7_clear_47 : decode cX7_clear 47 = .ok (.iload_n 1, 1) := oq_27 (byt chX7_clear_2 15 rfl)
theorem dX7_clear_48 : decode cX7_clear 48 = .ok (.iastore, 1) := oq_79 (byt chX7_clear_3 0 rfl)
theorem dX7_clear_49 : decode cX7_clear 49 = .ok (.iinc 1 1, 3) := oq_132 (byt chX7_clear_3 1 rfl) (byt chX7_clear_3 2 rfl) (byt chX7_clear_3 3 rfl) rfl
theorem dX7_clear_52 : decode cX7_clear 52 = .ok (.goto (-16), 3) := oq_167 (byt chX7_clear_3 4 rfl) (byt chX7_clear_3 5 rfl) (byt chX7_clear_3 6 rfl) (by decide +kernel)
theorem dX7_clear_55 : decode cX7_clear 55 = .ok (.aload_n 0, 1) := oq_42 (byt chX7_clear_3 7 rfl)
theorem dX7_clear_56 : decode cX7_clear 56 = .ok (.getfield 24, 3) := oq_180 (byt chX7_clear_3 8 rfl) (byt chX7_clear_3 9 rfl) (byt chX7_clear_3 10 rfl) rfl
theorem dX7_clear_59 : decode cX7_clear 59 = .ok (.iconst 1, 1) := oq_4 (byt chX7_clear_3 11 rfl)
theorem dX7_clear_60 : decode cX7_clear 60 = .ok (.invokestatic 46, 3) := oq_184 (byt chX7_clear_3 12 rfl) (byt chX7_clear_3 13 rfl) (byt chX7_clear_3 14 rfl) rfl
theorem dX7_clear_63 : decode cX7_clear 63 = .ok (.aload_n 0, 1) := oq_42 (byt chX7_clear_3 15 rfl)
theorem dX7_clear_64 : decode cX7_clear 64 = .ok (.getfield 27, 3) := oq_180 (byt chX7_clear_4 0 rfl) (byt chX7_clear_4 1 rfl) (byt chX7_clear_4 2 rfl) rfl
theorem dX7_clear_67 : decode cX7_clear 67 = .ok (.iconst 1, 1) := oq_4 (byt chX7_clear_4 3 rfl)
theorem dX7_clear_68 : decode cX7_clear 68 = .ok (.invokestatic 46, 3) := oq_184 (byt chX7_clear_4 4 rfl) (byt chX7_clear_4 5 rfl) (byt chX7_clear_4 6 rfl) rfl
theorem dX7_clear_71 : decode cX7_clear 71 = .ok (.aload_n 0, 1) := oq_42 (byt chX7_clear_4 7 rfl)
theorem dX7_clear_72 : decode cX7_clear 72 = .ok (.getfield 30, 3) := oq_180 (byt chX7_clear_4 8 rfl) (byt chX7_clear_4 9 rfl) (byt chX7_clear_4 10 rfl) rfl
theorem dX7_clear_75 : decode cX7_clear 75 = .ok (.iconst 0, 1) := oq_3 (byt chX7_clear_4 11 rfl)
theorem dX7_clear_76 : decode cX7_clear 76 = .ok (.invokestatic 46, 3) := oq_184 (byt chX7_clear_4 12 rfl) (byt chX7_clear_4 13 rfl) (byt chX7_clear_4 14 rfl) rfl
theorem dX7_clear_79 : decode cX7_clear 79 = .ok (.aload_n 0, 1) := oq_42 (byt chX7_clear_4 15 rfl)
theorem dX7_clear_80 : decode cX7_clear 80 = .ok (.getfield 33, 3) := oq_180 (byt chX7_clear_5 0 rfl) (byt chX7_clear_5 1 rfl) (byt chX7_clear_5 2 rfl) rfl
theorem dX7_clear_83 : decode cX7_clear 83 = .ok (.iconst (-1), 1) := oq_2 (byt chX7_clear_5 3 rfl)
theorem dX7_clear_84 : decode cX7_clear 84 = .ok (.invokestatic 46, 3) := oq_184 (byt chX7_clear_5 4 rfl) (byt chX7_clear_5 5 rfl) (byt chX7_clear_5 6 rfl) rfl
theorem dX7_clear_87 : decode cX7_clear 87 = .ok (.return_, 1) := oq_177 (byt chX7_clear_5 7 rfl)
abbrev mX7_clear : MI := (yX7_clear, cX7_clear, 2, none, noE)
theorem okX7_clear : cok mX7_clear 0 := ⟨tw50, tw3, by decide, by decide, by decide, by decide +kernel⟩
def fX7_clear (M : Mem) (a0 : Int) : Option Mem :=
  if M.2.1 a0 = 7 then bM (mst M a0 0 3) fun M2 => bM (mst M2 a0 1 0) fun M4 => (fX10_fillRow M4 (M4.1 a0 2) 0).bind fun r6 => if r6.2.1 a0 = 7 then (fX10_fillRow r6 (r6.1 a0 3) 0).bind fun r9 => if r9.2.1 a0 = 7 then (fX10_fillRow r9 (r9.1 a0 4) 0).bind fun r12 => iterC (fun (rec14 : (Int × Mem) → Option Mem) (s15 : Int × Mem) => if s15.1 < 6 then (if s15.2.2.1 a0 = 7 then if s15.2.2.1 (s15.2.1 a0 5) = 12 ∧ (0 : Int) ≤ s15.1 ∧ s15.1 < s15.2.2.2.1 (s15.2.1 a0 5) then bM (mst s15.2 (s15.2.1 a0 5) s15.1 s15.1) fun M19 => rec14 (w32 (s15.1 + 1), M19) else none else none) else (if s15.2.2.1 a0 = 7 then (fX10_fillRow s15.2 (s15.2.1 a0 6) 1).bind fun r22 => if r22.2.1 a0 = 7 then (fX10_fillRow r22 (r22.1 a0 7) 1).bind fun r25 => if r25.2.1 a0 = 7 then (fX10_fillRow r25 (r25.1 a0 8) 0).bind fun r28 => if r28.2.1 a0 = 7 then (fX10_fillRow r28 (r28.1 a0 9) (-1)).bind fun r31 => some r31 else none else none else none else none)) BIG (0, r12) else none else none else none
set_option maxRecDepth 100000 in
set_option maxHeartbeats 4000000 in
theorem kX7_clear (d : Nat) (hd : 1 ≤ d) (M : Mem) (a0 : Int) : Ct mX7_clear d 0 0 [pA a0] M dV (fX7_clear M a0) := by
  obtain ⟨d, rfl⟩ : ∃ k, d = k + 1 := ⟨d - 1, by omega⟩
  refine Ct.of 1 (fun _ _ _ => trivial) (by decide +kernel) rfl ?_
  unfold fX7_clear
  refine v_aload_n dX7_clear_0 rfl ?_
  refine v_iconst dX7_clear_1 (by decide) ?_
  refine v_if (fun h1 => ?_)
  refine v_put (x := 3) 7 0 rfl inX7 (by decide) tw54 (Or.inl rfl) rfl dX7_clear_2 h1 rfl id ?_
  refine v_bM (fun M2 e3 => ?_)
  refine v_aload_n dX7_clear_5 rfl ?_
  refine v_iconst dX7_clear_6 (by decide) ?_
  refine v_put (x := 0) 7 1 rfl inX7 (by decide) tw61 (Or.inl rfl) rfl dX7_clear_7 (by rw [e3]; exact h1) rfl id ?_
  refine v_bM (fun M4 e5 => ?_)
  refine v_aload_n dX7_clear_10 rfl ?_
  refine v_get (v := pA (M4.1 a0 2)) 7 2 rfl inX7 (by decide) tw66 dX7_clear_11 (by rw [e5, e3]; exact h1) rfl ?_
  refine v_iconst dX7_clear_14 (by decide) ?_
  refine v_cS (mi := mX7_clear) (c0 := 0) (c1 := 0) (As := [pA (M4.1 a0 2), pI 0]) (st := []) (kX10_fillRow d (by omega) _ _ _) okX10_fillRow (Or.inr nw0) tw52 rfl (Nat.le_of_ble_eq_true rfl) dX7_clear_15 (fun r6 => []) (fun r6 => r6) (fun _ => rfl) (fun _ => rfl) (fun r6 h7 => ?_) rfl
  refine v_aload_n dX7_clear_18 rfl ?_
  refine v_if (fun h8 => ?_)
  refine v_get (v := pA (r6.1 a0 3)) 7 3 rfl inX7 (by decide) tw72 dX7_clear_19 h8 rfl ?_
  refine v_iconst dX7_clear_22 (by decide) ?_
  refine v_cS (mi := mX7_clear) (c0 := 0) (c1 := 0) (As := [pA (r6.1 a0 3), pI 0]) (st := []) (kX10_fillRow d (by omega) _ _ _) okX10_fillRow (Or.inr nw0) tw52 rfl (Nat.le_of_ble_eq_true rfl) dX7_clear_23 (fun r9 => []) (fun r9 => r9) (fun _ => rfl) (fun _ => rfl) (fun r9 h10 => ?_) rfl
  refine v_aload_n dX7_clear_26 rfl ?_
  refine v_if (fun h11 => ?_)
  refine v_get (v := pA (r9.1 a0 4)) 7 4 rfl inX7 (by decide) tw76 dX7_clear_27 h11 rfl ?_
  refine v_iconst dX7_clear_30 (by decide) ?_
  refine v_cS (mi := mX7_clear) (c0 := 0) (c1 := 0) (As := [pA (r9.1 a0 4), pI 0]) (st := []) (kX10_fillRow d (by omega) _ _ _) okX10_fillRow (Or.inr nw0) tw52 rfl (Nat.le_of_ble_eq_true rfl) dX7_clear_31 (fun r12 => []) (fun r12 => r12) (fun _ => rfl) (fun _ => rfl) (fun r12 h13 => ?_) rfl
  refine v_iconst dX7_clear_34 (by decide) ?_
  refine v_istore_n (ls' := [some (pA a0), some (pI 0)]) dX7_clear_35 (by decide) rfl ?_
  refine v_loop (fun (s15 : Int × Mem) => [some (pA a0), some (pI s15.1)]) (fun (s15 : Int × Mem) => s15.2) (s0 := (0, r12)) ?_
  intro rec14 hrec14 s15
  refine v_iload_n dX7_clear_36 rfl ?_
  refine v_bipush dX7_clear_37 (by decide) ?_
  refine v_icmp_ge (tgt := 55) dX7_clear_39 (by decide) (fun c16 => ?_) (fun c16 => ?_)
  · refine v_aload_n dX7_clear_42 rfl ?_
    refine v_if (fun h17 => ?_)
    refine v_get (v := pA (s15.2.1 a0 5)) 7 5 rfl inX7 (by decide) tw81 dX7_clear_43 h17 rfl ?_
    refine v_iload_n dX7_clear_46 rfl ?_
    refine v_iload_n dX7_clear_47 rfl ?_
    refine v_if (fun h18 => ?_)
    refine v_iastore h18 dX7_clear_48 ?_
    refine v_bM (fun M19 e20 => ?_)
    refine v_iinc (ls' := [some (pA a0), some (pI (w32 (s15.1 + 1)))]) dX7_clear_49 (by decide) rfl rfl ?_
    refine v_goto (tgt := 36) dX7_clear_52 (by decide) ?_
    exact hrec14 (w32 (s15.1 + 1), M19)
  · refine v_aload_n dX7_clear_55 rfl ?_
    refine v_if (fun h21 => ?_)
    refine v_get (v := pA (s15.2.1 a0 6)) 7 6 rfl inX7 (by decide) tw84 dX7_clear_56 h21 rfl ?_
    refine v_iconst dX7_clear_59 (by decide) ?_
    refine v_cS (mi := mX7_clear) (c0 := 0) (c1 := 0) (As := [pA (s15.2.1 a0 6), pI 1]) (st := []) (kX10_fillRow d (by omega) _ _ _) okX10_fillRow (Or.inr nw0) tw52 rfl (Nat.le_of_ble_eq_true rfl) dX7_clear_60 (fun r22 => []) (fun r22 => r22) (fun _ => rfl) (fun _ => rfl) (fun r22 h23 => ?_) rfl
    refine v_aload_n dX7_clear_63 rfl ?_
    refine v_if (fun h24 => ?_)
    refine v_get (v := pA (r22.1 a0 7)) 7 7 rfl inX7 (by decide) tw89 dX7_clear_64 h24 rfl ?_
    refine v_iconst dX7_clear_67 (by decide) ?_
    refine v_cS (mi := mX7_clear) (c0 := 0) (c1 := 0) (As := [pA (r22.1 a0 7), pI 1]) (st := []) (kX10_fillRow d (by omega) _ _ _) okX10_fillRow (Or.inr nw0) tw52 rfl (Nat.le_of_ble_eq_true rfl) dX7_clear_68 (fun r25 => []) (fun r25 => r25) (fun _ => rfl) (fun _ => rfl) (fun r25 h26 => ?_) rfl
    refine v_aload_n dX7_clear_71 rfl ?_
    refine v_if (fun h27 => ?_)
    refine v_get (v := pA (r25.1 a0 8)) 7 8 rfl inX7 (by decide) tw93 dX7_clear_72 h27 rfl ?_
    refine v_iconst dX7_clear_75 (by decide) ?_
    refine v_cS (mi := mX7_clear) (c0 := 0) (c1 := 0) (As := [pA (r25.1 a0 8), pI 0]) (st := []) (kX10_fillRow d (by omega) _ _ _) okX10_fillRow (Or.inr nw0) tw52 rfl (Nat.le_of_ble_eq_true rfl) dX7_clear_76 (fun r28 => []) (fun r28 => r28) (fun _ => rfl) (fun _ => rfl) (fun r28 h29 => ?_) rfl
    refine v_aload_n dX7_clear_79 rfl ?_
    refine v_if (fun h30 => ?_)
    refine v_get (v := pA (r28.1 a0 9)) 7 9 rfl inX7 (by decide) tw96 dX7_clear_80 h30 rfl ?_
    refine v_iconst dX7_clear_83 (by decide) ?_
    refine v_cS (mi := mX7_clear) (c0 := 0) (c1 := 0) (As := [pA (r28.1 a0 9), pI (-1)]) (st := []) (kX10_fillRow d (by omega) _ _ _) okX10_fillRow (Or.inr nw0) tw52 rfl (Nat.le_of_ble_eq_true rfl) dX7_clear_84 (fun r31 => []) (fun r31 => r31) (fun _ => rfl) (fun _ => rfl) (fun r31 h32 => ?_) rfl
    exact v_return dX7_clear_87 rfl rfl
theorem chX7_init_0 : (cX7_init.data.toList.drop 0).take 16 = [42, 183, 0, 3, 42, 16, 30, 188, 10, 181, 0, 9, 42, 16, 30, 188] := by decide +kernel
theorem chX7_init_1 : (cX7_init.data.toList.drop 16).take 16 = [10, 181, 0, 15, 42, 16, 6, 188, 10, 181, 0, 18, 42, 16, 6, 188] := by decide +kernel
theorem chX7_init_2 : (cX7_init.data.toList.drop 32).take 16 = [10, 181, 0, 21, 42, 8, 188, 10, 181, 0, 24, 42, 8, 188, 10, 181] := by decide +kernel
theorem chX7_init_3 : (cX7_init.data.toList.drop 48).take 16 = [0, 27, 42, 7, 188, 10, 181, 0, 30, 42, 7, 188, 10, 181, 0, 33] := by decide +kernel
theorem chX7_init_4 : (cX7_init.data.toList.drop 64).take 16 = [42, 182, 0, 36, 177] := by decide +kernel
theorem dX7_init_0 : decode cX7_init 0 = .ok (.aload_n 0, 1) := oq_42 (byt chX7_init_0 0 rfl)
theorem dX7_init_1 : decode cX7_init 1 = .ok (.invokespecial 3, 3) := oq_183 (byt chX7_init_0 1 rfl) (byt chX7_init_0 2 rfl) (byt chX7_init_0 3 rfl) rfl
theorem dX7_init_4 : decode cX7_init 4 = .ok (.aload_n 0, 1) := oq_42 (byt chX7_init_0 4 rfl)
theorem dX7_init_5 : decode cX7_init 5 = .ok (.bipush 30, 2) := oq_16 (byt chX7_init_0 5 rfl) (byt chX7_init_0 6 rfl) rfl
theorem dX7_init_7 : decode cX7_init 7 = .ok (.newarray .int, 2) := by decide +kernel
theorem dX7_init_9 : decode cX7_init 9 = .ok (.putfield 9, 3) := oq_181 (byt chX7_init_0 9 rfl) (byt chX7_init_0 10 rfl) (byt chX7_init_0 11 rfl) rfl
theorem dX7_init_12 : decode cX7_init 12 = .ok (.aload_n 0, 1) := oq_42 (byt chX7_init_0 12 rfl)
theorem dX7_init_13 : decode cX7_init 13 = .ok (.bipush 30, 2) := oq_16 (byt chX7_init_0 13 rfl) (byt chX7_init_0 14 rfl) rfl
theorem dX7_init_15 : decode cX7_init 15 = .ok (.newarray .int, 2) := by decide +kernel
theorem dX7_init_17 : decode cX7_init 17 = .ok (.putfield 15, 3) := oq_181 (byt chX7_init_1 1 rfl) (byt chX7_init_1 2 rfl) (byt chX7_init_1 3 rfl) rfl
theorem dX7_init_20 : decode cX7_init 20 = .ok (.aload_n 0, 1) := oq_42 (byt chX7_init_1 4 rfl)
theorem dX7_init_21 : decode cX7_init 21 = .ok (.bipush 6, 2) := oq_16 (byt chX7_init_1 5 rfl) (byt chX7_init_1 6 rfl) rfl
theorem dX7_init_23 : decode cX7_init 23 = .ok (.newarray .int, 2) := by decide +kernel
theorem dX7_init_25 : decode cX7_init 25 = .ok (.putfield 18, 3) := oq_181 (byt chX7_init_1 9 rfl) (byt chX7_init_1 10 rfl) (byt chX7_init_1 11 rfl) rfl
theorem dX7_init_28 : decode cX7_init 28 = .ok (.aload_n 0, 1) := oq_42 (byt chX7_init_1 12 rfl)
theorem dX7_init_29 : decode cX7_init 29 = .ok (.bipush 6, 2) := oq_16 (byt chX7_init_1 13 rfl) (byt chX7_init_1 14 rfl) rfl
theorem dX7_init_31 : decode cX7_init 31 = .ok (.newarray .int, 2) := by decide +kernel
theorem dX7_init_33 : decode cX7_init 33 = .ok (.putfield 21, 3) := oq_181 (byt chX7_init_2 1 rfl) (byt chX7_init_2 2 rfl) (byt chX7_init_2 3 rfl) rfl
theorem dX7_init_36 : decode cX7_init 36 = .ok (.aload_n 0, 1) := oq_42 (byt chX7_init_2 4 rfl)
theorem dX7_init_37 : decode cX7_init 37 = .ok (.iconst 5, 1) := oq_8 (byt chX7_init_2 5 rfl)
theorem dX7_init_38 : decode cX7_init 38 = .ok (.newarray .int, 2) := by decide +kernel
theorem dX7_init_40 : decode cX7_init 40 = .ok (.putfield 24, 3) := oq_181 (byt chX7_init_2 8 rfl) (byt chX7_init_2 9 rfl) (byt chX7_init_2 10 rfl) rfl
theorem dX7_init_43 : decode cX7_init 43 = .ok (.aload_n 0, 1) := oq_42 (byt chX7_init_2 11 rfl)
theorem dX7_init_44 : decode cX7_init 44 = .ok (.iconst 5, 1) := oq_8 (byt chX7_init_2 12 rfl)
theorem dX7_init_45 : decode cX7_init 45 = .ok (.newarray .int, 2) := by decide +kernel
theorem dX7_init_47 : decode cX7_init 47 = .ok (.putfield 27, 3) := oq_181 (byt chX7_init_2 15 rfl) (byt chX7_init_3 0 rfl) (byt chX7_init_3 1 rfl) rfl
theorem dX7_init_50 : decode cX7_init 50 = .ok (.aload_n 0, 1) := oq_42 (byt chX7_init_3 2 rfl)
theorem dX7_init_51 : decode cX7_init 51 = .ok (.iconst 4, 1) := oq_7 (byt chX7_init_3 3 rfl)
theorem dX7_init_52 : decode cX7_init 52 = .ok (.newarray .int, 2) := by decide +kernel
theorem dX7_init_54 : decode cX7_init 54 = .ok (.putfield 30, 3) := oq_181 (byt chX7_init_3 6 rfl) (byt chX7_init_3 7 rfl) (byt chX7_init_3 8 rfl) rfl
theorem dX7_init_57 : decode cX7_init 57 = .ok (.aload_n 0, 1) := oq_42 (byt chX7_init_3 9 rfl)
theorem dX7_init_58 : decode cX7_init 58 = .ok (.iconst 4, 1) := oq_7 (byt chX7_init_3 10 rfl)
theorem dX7_init_59 : decode cX7_init 59 = .ok (.newarray .int, 2) := by decide +kernel
theorem dX7_init_61 : decode cX7_init 61 = .ok (.putfield 33, 3) := oq_181 (byt chX7_init_3 13 rfl) (byt chX7_init_3 14 rfl) (byt chX7_init_3 15 rfl) rfl
theorem dX7_init_64 : decode cX7_init 64 = .ok (.aload_n 0, 1) := oq_42 (byt chX7_init_4 0 rfl)
theorem dX7_init_65 : decode cX7_init 65 = .ok (.invokevirtual 36, 3) := oq_182 (byt chX7_init_4 1 rfl) (byt chX7_init_4 2 rfl) (byt chX7_init_4 3 rfl) rfl
theorem dX7_init_68 : decode cX7_init 68 = .ok (.return_, 1) := oq_177 (byt chX7_init_4 4 rfl)
abbrev mX7_init : MI := (yX7_init, cX7_init, 1, none, noE)
theorem okX7_init : cok mX7_init 0 := ⟨tw45, tw3, by decide, by decide, by decide, by decide +kernel⟩
def fX7_init (M : Mem) (a0 : Int) : Option Mem :=
  if (0 : Int) ≤ a0 then bM (mnew M 12 30) fun M2 => if M2.2.1 a0 = 7 then if (-1 : Int) ≤ (M.2.2.2 : Int) then bM (mst M2 a0 2 (M.2.2.2 : Int)) fun M6 => bM (mnew M6 12 30) fun M8 => if M8.2.1 a0 = 7 then if (-1 : Int) ≤ (M6.2.2.2 : Int) then bM (mst M8 a0 3 (M6.2.2.2 : Int)) fun M12 => bM (mnew M12 12 6) fun M14 => if M14.2.1 a0 = 7 then if (-1 : Int) ≤ (M12.2.2.2 : Int) then bM (mst M14 a0 4 (M12.2.2.2 : Int)) fun M18 => bM (mnew M18 12 6) fun M20 => if M20.2.1 a0 = 7 then if (-1 : Int) ≤ (M18.2.2.2 : Int) then bM (mst M20 a0 5 (M18.2.2.2 : Int)) fun M24 => bM (mnew M24 12 5) fun M26 => if M26.2.1 a0 = 7 then if (-1 : Int) ≤ (M24.2.2.2 : Int) then bM (mst M26 a0 6 (M24.2.2.2 : Int)) fun M30 => bM (mnew M30 12 5) fun M32 => if M32.2.1 a0 = 7 then if (-1 : Int) ≤ (M30.2.2.2 : Int) then bM (mst M32 a0 7 (M30.2.2.2 : Int)) fun M36 => bM (mnew M36 12 4) fun M38 => if M38.2.1 a0 = 7 then if (-1 : Int) ≤ (M36.2.2.2 : Int) then bM (mst M38 a0 8 (M36.2.2.2 : Int)) fun M42 => bM (mnew M42 12 4) fun M44 => if M44.2.1 a0 = 7 then if (-1 : Int) ≤ (M42.2.2.2 : Int) then bM (mst M44 a0 9 (M42.2.2.2 : Int)) fun M48 => (fX7_clear M48 a0).bind fun r50 => some r50 else none else none else none else none else none else none else none else none else none else none else none else none else none else none else none else none else none
set_option maxRecDepth 100000 in
set_option maxHeartbeats 4000000 in
theorem kX7_init (d : Nat) (hd : 2 ≤ d) (M : Mem) (a0 : Int) : Ct mX7_init d 8 90 [pA a0] M dV (fX7_init M a0) := by
  obtain ⟨d, rfl⟩ : ∃ k, d = k + 1 := ⟨d - 1, by omega⟩
  refine Ct.of 0 (fun _ _ _ => trivial) (by decide +kernel) rfl ?_
  unfold fX7_init
  refine v_aload_n dX7_init_0 rfl ?_
  refine v_if (fun h1 => ?_)
  refine v_objInit (mi := mX7_init) h1 tw46 tw26 tw27 (Nat.le_of_ble_eq_true rfl) dX7_init_1 ?_
  refine v_aload_n dX7_init_4 rfl ?_
  refine v_bipush dX7_init_5 (by decide) ?_
  refine v_newarray (t := .int) (n := 30) 12 (by decide) (by decide) tw121 dX7_init_7 ?_
  refine v_bM (fun M2 e3 => ?_)
  refine v_if (fun h4 => ?_)
  refine v_if (fun h5 => ?_)
  refine v_put (x := (M.2.2.2 : Int)) 7 2 rfl inX7 (by decide) tw66 (Or.inr ⟨rfl, rfl, rfl⟩) rfl dX7_init_9 h4 rfl (fun _ => h5) ?_
  refine v_bM (fun M6 e7 => ?_)
  refine v_aload_n dX7_init_12 rfl ?_
  refine v_bipush dX7_init_13 (by decide) ?_
  refine v_newarray (t := .int) (n := 30) 12 (by decide) (by decide) tw121 dX7_init_15 ?_
  refine v_bM (fun M8 e9 => ?_)
  refine v_if (fun h10 => ?_)
  refine v_if (fun h11 => ?_)
  refine v_put (x := (M6.2.2.2 : Int)) 7 3 rfl inX7 (by decide) tw72 (Or.inr ⟨rfl, rfl, rfl⟩) rfl dX7_init_17 h10 rfl (fun _ => h11) ?_
  refine v_bM (fun M12 e13 => ?_)
  refine v_aload_n dX7_init_20 rfl ?_
  refine v_bipush dX7_init_21 (by decide) ?_
  refine v_newarray (t := .int) (n := 6) 12 (by decide) (by decide) tw121 dX7_init_23 ?_
  refine v_bM (fun M14 e15 => ?_)
  refine v_if (fun h16 => ?_)
  refine v_if (fun h17 => ?_)
  refine v_put (x := (M12.2.2.2 : Int)) 7 4 rfl inX7 (by decide) tw76 (Or.inr ⟨rfl, rfl, rfl⟩) rfl dX7_init_25 h16 rfl (fun _ => h17) ?_
  refine v_bM (fun M18 e19 => ?_)
  refine v_aload_n dX7_init_28 rfl ?_
  refine v_bipush dX7_init_29 (by decide) ?_
  refine v_newarray (t := .int) (n := 6) 12 (by decide) (by decide) tw121 dX7_init_31 ?_
  refine v_bM (fun M20 e21 => ?_)
  refine v_if (fun h22 => ?_)
  refine v_if (fun h23 => ?_)
  refine v_put (x := (M18.2.2.2 : Int)) 7 5 rfl inX7 (by decide) tw81 (Or.inr ⟨rfl, rfl, rfl⟩) rfl dX7_init_33 h22 rfl (fun _ => h23) ?_
  refine v_bM (fun M24 e25 => ?_)
  refine v_aload_n dX7_init_36 rfl ?_
  refine v_iconst dX7_init_37 (by decide) ?_
  refine v_newarray (t := .int) (n := 5) 12 (by decide) (by decide) tw121 dX7_init_38 ?_
  refine v_bM (fun M26 e27 => ?_)
  refine v_if (fun h28 => ?_)
  refine v_if (fun h29 => ?_)
  refine v_put (x := (M24.2.2.2 : Int)) 7 6 rfl inX7 (by decide) tw84 (Or.inr ⟨rfl, rfl, rfl⟩) rfl dX7_init_40 h28 rfl (fun _ => h29) ?_
  refine v_bM (fun M30 e31 => ?_)
  refine v_aload_n dX7_init_43 rfl ?_
  refine v_iconst dX7_init_44 (by decide) ?_
  refine v_newarray (t := .int) (n := 5) 12 (by decide) (by decide) tw121 dX7_init_45 ?_
  refine v_bM (fun M32 e33 => ?_)
  refine v_if (fun h34 => ?_)
  refine v_if (fun h35 => ?_)
  refine v_put (x := (M30.2.2.2 : Int)) 7 7 rfl inX7 (by decide) tw89 (Or.inr ⟨rfl, rfl, rfl⟩) rfl dX7_init_47 h34 rfl (fun _ => h35) ?_
  refine v_bM (fun M36 e37 => ?_)
  refine v_aload_n dX7_init_50 rfl ?_
  refine v_iconst dX7_init_51 (by decide) ?_
  refine v_newarray (t := .int) (n := 4) 12 (by decide) (by decide) tw121 dX7_init_52 ?_
  refine v_bM (fun M38 e39 => ?_)
  refine v_if (fun h40 => ?_)
  refine v_if (fun h41 => ?_)
  refine v_put (x := (M36.2.2.2 : Int)) 7 8 rfl inX7 (by decide) tw93 (Or.inr ⟨rfl, rfl, rfl⟩) rfl dX7_init_54 h40 rfl (fun _ => h41) ?_
  refine v_bM (fun M42 e43 => ?_)
  refine v_aload_n dX7_init_57 rfl ?_
  refine v_iconst dX7_init_58 (by decide) ?_
  refine v_newarray (t := .int) (n := 4) 12 (by decide) (by decide) tw121 dX7_init_59 ?_
  refine v_bM (fun M44 e45 => ?_)
  refine v_if (fun h46 => ?_)
  refine v_if (fun h47 => ?_)
  refine v_put (x := (M42.2.2.2 : Int)) 7 9 rfl inX7 (by decide) tw96 (Or.inr ⟨rfl, rfl, rfl⟩) rfl dX7_init_61 h46 rfl (fun _ => h47) ?_
  refine v_bM (fun M48 e49 => ?_)
  refine v_aload_n dX7_init_64 rfl ?_
  refine v_cV (mi := mX7_init) (c0 := 0) (c1 := 0) (As := []) (st := []) (kX7_clear d (by omega) _ _) rfl (by rw [e49]; exact h46) rfl okX7_clear (Or.inl tw47) tw48 tw49 rfl (Nat.le_of_ble_eq_true rfl) dX7_init_65 (fun r50 => []) (fun r50 => r50) (fun _ => rfl) (fun _ => rfl) (fun r50 h51 => ?_) rfl
  exact v_return dX7_init_68 rfl rfl
theorem chX7_copy_0 : (cX7_copy.data.toList.drop 0).take 16 = [42, 43, 180, 0, 39, 181, 0, 39, 42, 43, 180, 0, 43, 181, 0, 43] := by decide +kernel
theorem chX7_copy_1 : (cX7_copy.data.toList.drop 16).take 16 = [43, 180, 0, 9, 42, 180, 0, 9, 184, 0, 50, 43, 180, 0, 15, 42] := by decide +kernel
theorem chX7_copy_2 : (cX7_copy.data.toList.drop 32).take 16 = [180, 0, 15, 184, 0, 50, 43, 180, 0, 18, 42, 180, 0, 18, 184, 0] := by decide +kernel
theorem chX7_copy_3 : (cX7_copy.data.toList.drop 48).take 16 = [50, 43, 180, 0, 21, 42, 180, 0, 21, 184, 0, 50, 43, 180, 0, 24] := by decide +kernel
theorem chX7_copy_4 : (cX7_copy.data.toList.drop 64).take 16 = [42, 180, 0, 24, 184, 0, 50, 43, 180, 0, 27, 42, 180, 0, 27, 184] := by decide +kernel
theorem chX7_copy_5 : (cX7_copy.data.toList.drop 80).take 16 = [0, 50, 43, 180, 0, 30, 42, 180, 0, 30, 184, 0, 50, 43, 180, 0] := by decide +kernel
theorem chX7_copy_6 : (cX7_copy.data.toList.drop 96).take 16 = [33, 42, 180, 0, 33, 184, 0, 50, 177] := by decide +kernel
theorem dX7_copy_0 : decode cX7_copy 0 = .ok (.aload_n 0, 1) := oq_42 (byt chX7_copy_0 0 rfl)
theorem dX7_copy_1 : decode cX7_copy 1 = .ok (.aload_n 1, 1) := oq_43 (byt chX7_copy_0 1 rfl)
theorem dX7_copy_2 : decode cX7_copy 2 = .ok (.getfield 39, 3) := oq_180 (byt chX7_copy_0 2 rfl) (byt chX7_copy_0 3 rfl) (byt chX7_copy_0 4 rfl) rfl
theorem dX7_copy_5 : decode cX7_copy 5 = .ok (.putfield 39, 3) := oq_181 (byt chX7_copy_0 5 rfl) (byt chX7_copy_0 6 rfl) (byt chX7_copy_0 7 rfl) rfl
theorem dX7_copy_8 : decode cX7_copy 8 = .ok (.aload_n 0, 1) := oq_42 (byt chX7_copy_0 8 rfl)
theorem dX7_copy_9 : decode cX7_copy 9 = .ok (.aload_n 1, 1) := oq_43 (byt chX7_copy_0 9 rfl)
theorem dX7_copy_10 : decode cX7_copy 10 = .ok (.getfield 43, 3) := oq_180 (byt chX7_copy_0 10 rfl) (byt chX7_copy_0 11 rfl) (byt chX7_copy_0 12 rfl) rfl
theorem dX7_copy_13 : decode cX7_copy 13 = .ok (.putfield 43, 3) := oq_181 (byt chX7_copy_0 13 rfl) (byt chX7_copy_0 14 rfl) (byt chX7_copy_0 15 rfl) rfl
theorem dX7_copy_16 : decode cX7_copy 16 = .ok (.aload_n 1, 1) := oq_43 (byt chX7_copy_1 0 rfl)
theorem dX7_copy_17 : decode cX7_copy 17 = .ok (.getfield 9, 3) := oq_180 (byt chX7_copy_1 1 rfl) (byt chX7_copy_1 2 rfl) (byt chX7_copy_1 3 rfl) rfl
theorem dX7_copy_20 : decode cX7_copy 20 = .ok (.aload_n 0, 1) := oq_42 (byt chX7_copy_1 4 rfl)
theorem dX7_copy_21 : decode cX7_copy 21 = .ok (.getfield 9, 3) := oq_180 (byt chX7_copy_1 5 rfl) (byt chX7_copy_1 6 rfl) (byt chX7_copy_1 7 rfl) rfl
theorem dX7_copy_24 : decode cX7_copy 24 = .ok (.invokestatic 50, 3) := oq_184 (byt chX7_copy_1 8 rfl) (byt chX7_copy_1 9 rfl) (byt chX7_copy_1 10 rfl) rfl
theorem dX7_copy_27 : decode cX7_copy 27 = .ok (.aload_n 1, 1) := oq_43 (byt chX7_copy_1 11 rfl)
theorem dX7_copy_28 : decode cX7_copy 28 = .ok (.getfield 15, 3) := oq_180 (byt chX7_copy_1 12 rfl) (byt chX7_copy_1 13 rfl) (byt chX7_copy_1 14 rfl) rfl
theorem dX7_copy_31 : decode cX7_copy 31 = .ok (.aload_n 0, 1) := oq_42 (byt chX7_copy_1 15 rfl)
theorem dX7_copy_32 : decode cX7_copy 32 = .ok (.getfield 15, 3) := oq_180 (byt chX7_copy_2 0 rfl) (byt chX7_copy_2 1 rfl) (byt chX7_copy_2 2 rfl) rfl
theorem dX7_copy_35 : decode cX7_copy 35 = .ok (.invokestatic 50, 3) := oq_184 (byt chX7_copy_2 3 rfl) (byt chX7_copy_2 4 rfl) (byt chX7_copy_2 5 rfl) rfl
theorem dX7_copy_38 : decode cX7_copy 38 = .ok (.aload_n 1, 1) := oq_43 (byt chX7_copy_2 6 rfl)
theorem dX7_copy_39 : decode cX7_copy 39 = .ok (.getfield 18, 3) := oq_180 (byt chX7_copy_2 7 rfl) (byt chX7_copy_2 8 rfl) (byt chX7_copy_2 9 rfl) rfl
theorem dX7_copy_42 : decode cX7_copy 42 = .ok (.aload_n 0, 1) := oq_42 (byt chX7_copy_2 10 rfl)
theorem dX7_copy_43 : decode cX7_copy 43 = .ok (.getfield 18, 3) := oq_180 (byt chX7_copy_2 11 rfl) (byt chX7_copy_2 12 rfl) (byt chX7_copy_2 13 rfl) rfl
theorem dX7_copy_46 : decode cX7_copy 46 = .ok (.invokestatic 50, 3) := oq_184 (byt chX7_copy_2 14 rfl) (byt chX7_copy_2 15 rfl) (byt chX7_copy_3 0 rfl) rfl
theorem dX7_copy_49 : decode cX7_copy 49 = .ok (.aload_n 1, 1) := oq_43 (byt chX7_copy_3 1 rfl)
theorem dX7_copy_50 : decode cX7_copy 50 = .ok (.getfield 21, 3) := oq_180 (byt chX7_copy_3 2 rfl) (byt chX7_copy_3 3 rfl) (byt chX7_copy_3 4 rfl) rfl
theorem dX7_copy_53 : decode cX7_copy 53 = .ok (.aload_n 0, 1) := oq_42 (byt chX7_copy_3 5 rfl)
theorem dX7_copy_54 : decode cX7_copy 54 = .ok (.getfield 21, 3) := oq_180 (byt chX7_copy_3 6 rfl) (byt chX7_copy_3 7 rfl) (byt chX7_copy_3 8 rfl) rfl
theorem dX7_copy_57 : decode cX7_copy 57 = .ok (.invokestatic 50, 3) := oq_184 (byt chX7_copy_3 9 rfl) (byt chX7_copy_3 10 rfl) (byt chX7_copy_3 11 rfl) rfl
theorem dX7_copy_60 : decode cX7_copy 60 = .ok (.aload_n 1, 1) := oq_43 (byt chX7_copy_3 12 rfl)
theorem dX7_copy_61 : decode cX7_copy 61 = .ok (.getfield 24, 3) := oq_180 (byt chX7_copy_3 13 rfl) (byt chX7_copy_3 14 rfl) (byt chX7_copy_3 15 rfl) rfl
theorem dX7_copy_64 : decode cX7_copy 64 = .ok (.aload_n 0, 1) := oq_42 (byt chX7_copy_4 0 rfl)
theorem dX7_copy_65 : decode cX7_copy 65 = .ok (.getfield 24, 3) := oq_180 (byt chX7_copy_4 1 rfl) (byt chX7_copy_4 2 rfl) (byt chX7_copy_4 3 rfl) rfl
theorem dX7_copy_68 : decode cX7_copy 68 = .ok (.invokestatic 50, 3) := oq_184 (byt chX7_copy_4 4 rfl) (byt chX7_copy_4 5 rfl) (byt chX7_copy_4 6 rfl) rfl
theorem dX7_copy_71 : decode cX7_copy 71 = .ok (.aload_n 1, 1) := oq_43 (byt chX7_copy_4 7 rfl)
theorem dX7_copy_72 : decode cX7_copy 72 = .ok (.getfield 27, 3) := oq_180 (byt chX7_copy_4 8 rfl) (byt chX7_copy_4 9 rfl) (byt chX7_copy_4 10 rfl) rfl
theorem dX7_copy_75 : decode cX7_copy 75 = .ok (.aload_n 0, 1) := oq_42 (byt chX7_copy_4 11 rfl)
theorem dX7_copy_76 : decode cX7_copy 76 = .ok (.getfield 27, 3) := oq_180 (byt chX7_copy_4 12 rfl) (byt chX7_copy_4 13 rfl) (byt chX7_copy_4 14 rfl) rfl
theorem dX7_copy_79 : decode cX7_copy 79 = .ok (.invokestatic 50, 3) := oq_184 (byt chX7_copy_4 15 rfl) (byt chX7_copy_5 0 rfl) (byt chX7_copy_5 1 rfl) rfl
theorem dX7_copy_82 : decode cX7_copy 82 = .ok (.aload_n 1, 1) := oq_43 (byt chX7_copy_5 2 rfl)
theorem dX7_copy_83 : decode cX7_copy 83 = .ok (.getfield 30, 3) := oq_180 (byt chX7_copy_5 3 rfl) (byt chX7_copy_5 4 rfl) (byt chX7_copy_5 5 rfl) rfl
theorem dX7_copy_86 : decode cX7_copy 86 = .ok (.aload_n 0, 1) := oq_42 (byt chX7_copy_5 6 rfl)
theorem dX7_copy_87 : decode cX7_copy 87 = .ok (.getfield 30, 3) := oq_180 (byt chX7_copy_5 7 rfl) (byt chX7_copy_5 8 rfl) (byt chX7_copy_5 9 rfl) rfl
theorem dX7_copy_90 : decode cX7_copy 90 = .ok (.invokestatic 50, 3) := oq_184 (byt chX7_copy_5 10 rfl) (byt chX7_copy_5 11 rfl) (byt chX7_copy_5 12 rfl) rfl
theorem dX7_copy_93 : decode cX7_copy 93 = .ok (.aload_n 1, 1) := oq_43 (byt chX7_copy_5 13 rfl)
theorem dX7_copy_94 : decode cX7_copy 94 = .ok (.getfield 33, 3) := oq_180 (byt chX7_copy_5 14 rfl) (byt chX7_copy_5 15 rfl) (byt chX7_copy_6 0 rfl) rfl
theorem dX7_copy_97 : decode cX7_copy 97 = .ok (.aload_n 0, 1) := oq_42 (byt chX7_copy_6 1 rfl)
theorem dX7_copy_98 : decode cX7_copy 98 = .ok (.getfield 33, 3) := oq_180 (byt chX7_copy_6 2 rfl) (byt chX7_copy_6 3 rfl) (byt chX7_copy_6 4 rfl) rfl
theorem dX7_copy_101 : decode cX7_copy 101 = .ok (.invokestatic 50, 3) := oq_184 (byt chX7_copy_6 5 rfl) (byt chX7_copy_6 6 rfl) (byt chX7_copy_6 7 rfl) rfl
theorem dX7_copy_104 : decode cX7_copy 104 = .ok (.return_, 1) := oq_177 (byt chX7_copy_6 8 rfl)
abbrev mX7_copy : MI := (yX7_copy, cX7_copy, 2, none, noE)
theorem okX7_copy : cok mX7_copy 1 := ⟨tw649, tw3, by decide, by decide, by decide, by decide +kernel⟩
def fX7_copy (M : Mem) (a0 a1 : Int) : Option Mem :=
  if M.2.1 a1 = 7 then if M.2.1 a0 = 7 then bM (mst M a0 0 (M.1 a1 0)) fun M3 => bM (mst M3 a0 1 (M3.1 a1 1)) fun M5 => (fX10_copyRow M5 (M5.1 a1 2) (M5.1 a0 2)).bind fun r7 => if r7.2.1 a1 = 7 then if r7.2.1 a0 = 7 then (fX10_copyRow r7 (r7.1 a1 3) (r7.1 a0 3)).bind fun r11 => if r11.2.1 a1 = 7 then if r11.2.1 a0 = 7 then (fX10_copyRow r11 (r11.1 a1 4) (r11.1 a0 4)).bind fun r15 => if r15.2.1 a1 = 7 then if r15.2.1 a0 = 7 then (fX10_copyRow r15 (r15.1 a1 5) (r15.1 a0 5)).bind fun r19 => if r19.2.1 a1 = 7 then if r19.2.1 a0 = 7 then (fX10_copyRow r19 (r19.1 a1 6) (r19.1 a0 6)).bind fun r23 => if r23.2.1 a1 = 7 then if r23.2.1 a0 = 7 then (fX10_copyRow r23 (r23.1 a1 7) (r23.1 a0 7)).bind fun r27 => if r27.2.1 a1 = 7 then if r27.2.1 a0 = 7 then (fX10_copyRow r27 (r27.1 a1 8) (r27.1 a0 8)).bind fun r31 => if r31.2.1 a1 = 7 then if r31.2.1 a0 = 7 then (fX10_copyRow r31 (r31.1 a1 9) (r31.1 a0 9)).bind fun r35 => some r35 else none else none else none else none else none else none else none else none else none else none else none else none else none else none else none else none
set_option maxRecDepth 100000 in
set_option maxHeartbeats 4000000 in
theorem kX7_copy (d : Nat) (hd : 2 ≤ d) (M : Mem) (a0 a1 : Int) : Ct mX7_copy d 0 0 [pA a0, pA a1] M dV (fX7_copy M a0 a1) := by
  obtain ⟨d, rfl⟩ : ∃ k, d = k + 1 := ⟨d - 1, by omega⟩
  refine Ct.of 0 (fun _ _ _ => trivial) (by decide +kernel) rfl ?_
  unfold fX7_copy
  refine v_aload_n dX7_copy_0 rfl ?_
  refine v_aload_n dX7_copy_1 rfl ?_
  refine v_if (fun h1 => ?_)
  refine v_get (v := pI (M.1 a1 0)) 7 0 rfl inX7 (by decide) tw54 dX7_copy_2 h1 rfl ?_
  refine v_if (fun h2 => ?_)
  refine v_put (x := M.1 a1 0) 7 0 rfl inX7 (by decide) tw54 (Or.inl rfl) rfl dX7_copy_5 h2 rfl id ?_
  refine v_bM (fun M3 e4 => ?_)
  refine v_aload_n dX7_copy_8 rfl ?_
  refine v_aload_n dX7_copy_9 rfl ?_
  refine v_get (v := pI (M3.1 a1 1)) 7 1 rfl inX7 (by decide) tw61 dX7_copy_10 (by rw [e4]; exact h1) rfl ?_
  refine v_put (x := M3.1 a1 1) 7 1 rfl inX7 (by decide) tw61 (Or.inl rfl) rfl dX7_copy_13 (by rw [e4]; exact h2) rfl id ?_
  refine v_bM (fun M5 e6 => ?_)
  refine v_aload_n dX7_copy_16 rfl ?_
  refine v_get (v := pA (M5.1 a1 2)) 7 2 rfl inX7 (by decide) tw66 dX7_copy_17 (by rw [e6, e4]; exact h1) rfl ?_
  refine v_aload_n dX7_copy_20 rfl ?_
  refine v_get (v := pA (M5.1 a0 2)) 7 2 rfl inX7 (by decide) tw66 dX7_copy_21 (by rw [e6, e4]; exact h2) rfl ?_
  refine v_cS (mi := mX7_copy) (c0 := 0) (c1 := 0) (As := [pA (M5.1 a1 2), pA (M5.1 a0 2)]) (st := []) (kX10_copyRow d (by omega) _ _ _) okX10_copyRow (Or.inr nw9) tw651 rfl (Nat.le_of_ble_eq_true rfl) dX7_copy_24 (fun r7 => []) (fun r7 => r7) (fun _ => rfl) (fun _ => rfl) (fun r7 h8 => ?_) rfl
  refine v_aload_n dX7_copy_27 rfl ?_
  refine v_if (fun h9 => ?_)
  refine v_get (v := pA (r7.1 a1 3)) 7 3 rfl inX7 (by decide) tw72 dX7_copy_28 h9 rfl ?_
  refine v_aload_n dX7_copy_31 rfl ?_
  refine v_if (fun h10 => ?_)
  refine v_get (v := pA (r7.1 a0 3)) 7 3 rfl inX7 (by decide) tw72 dX7_copy_32 h10 rfl ?_
  refine v_cS (mi := mX7_copy) (c0 := 0) (c1 := 0) (As := [pA (r7.1 a1 3), pA (r7.1 a0 3)]) (st := []) (kX10_copyRow d (by omega) _ _ _) okX10_copyRow (Or.inr nw9) tw651 rfl (Nat.le_of_ble_eq_true rfl) dX7_copy_35 (fun r11 => []) (fun r11 => r11) (fun _ => rfl) (fun _ => rfl) (fun r11 h12 => ?_) rfl
  refine v_aload_n dX7_copy_38 rfl ?_
  refine v_if (fun h13 => ?_)
  refine v_get (v := pA (r11.1 a1 4)) 7 4 rfl inX7 (by decide) tw76 dX7_copy_39 h13 rfl ?_
  refine v_aload_n dX7_copy_42 rfl ?_
  refine v_if (fun h14 => ?_)
  refine v_get (v := pA (r11.1 a0 4)) 7 4 rfl inX7 (by decide) tw76 dX7_copy_43 h14 rfl ?_
  refine v_cS (mi := mX7_copy) (c0 := 0) (c1 := 0) (As := [pA (r11.1 a1 4), pA (r11.1 a0 4)]) (st := []) (kX10_copyRow d (by omega) _ _ _) okX10_copyRow (Or.inr nw9) tw651 rfl (Nat.le_of_ble_eq_true rfl) dX7_copy_46 (fun r15 => []) (fun r15 => r15) (fun _ => rfl) (fun _ => rfl) (fun r15 h16 => ?_) rfl
  refine v_aload_n dX7_copy_49 rfl ?_
  refine v_if (fun h17 => ?_)
  refine v_get (v := pA (r15.1 a1 5)) 7 5 rfl inX7 (by decide) tw81 dX7_copy_50 h17 rfl ?_
  refine v_aload_n dX7_copy_53 rfl ?_
  refine v_if (fun h18 => ?_)
  refine v_get (v := pA (r15.1 a0 5)) 7 5 rfl inX7 (by decide) tw81 dX7_copy_54 h18 rfl ?_
  refine v_cS (mi := mX7_copy) (c0 := 0) (c1 := 0) (As := [pA (r15.1 a1 5), pA (r15.1 a0 5)]) (st := []) (kX10_copyRow d (by omega) _ _ _) okX10_copyRow (Or.inr nw9) tw651 rfl (Nat.le_of_ble_eq_true rfl) dX7_copy_57 (fun r19 => []) (fun r19 => r19) (fun _ => rfl) (fun _ => rfl) (fun r19 h20 => ?_) rfl
  refine v_aload_n dX7_copy_60 rfl ?_
  refine v_if (fun h21 => ?_)
  refine v_get (v := pA (r19.1 a1 6)) 7 6 rfl inX7 (by decide) tw84 dX7_copy_61 h21 rfl ?_
  refine v_aload_n dX7_copy_64 rfl ?_
  refine v_if (fun h22 => ?_)
  refine v_get (v := pA (r19.1 a0 6)) 7 6 rfl inX7 (by decide) tw84 dX7_copy_65 h22 rfl ?_
  refine v_cS (mi := mX7_copy) (c0 := 0) (c1 := 0) (As := [pA (r19.1 a1 6), pA (r19.1 a0 6)]) (st := []) (kX10_copyRow d (by omega) _ _ _) okX10_copyRow (Or.inr nw9) tw651 rfl (Nat.le_of_ble_eq_true rfl) dX7_copy_68 (fun r23 => []) (fun r23 => r23) (fun _ => rfl) (fun _ => rfl) (fun r23 h24 => ?_) rfl
  refine v_aload_n dX7_copy_71 rfl ?_
  refine v_if (fun h25 => ?_)
  refine v_get (v := pA (r23.1 a1 7)) 7 7 rfl inX7 (by decide) tw89 dX7_copy_72 h25 rfl ?_
  refine v_aload_n dX7_copy_75 rfl ?_
  refine v_if (fun h26 => ?_)
  refine v_get (v := pA (r23.1 a0 7)) 7 7 rfl inX7 (by decide) tw89 dX7_copy_76 h26 rfl ?_
  refine v_cS (mi := mX7_copy) (c0 := 0) (c1 := 0) (As := [pA (r23.1 a1 7), pA (r23.1 a0 7)]) (st := []) (kX10_copyRow d (by omega) _ _ _) okX10_copyRow (Or.inr nw9) tw651 rfl (Nat.le_of_ble_eq_true rfl) dX7_copy_79 (fun r27 => []) (fun r27 => r27) (fun _ => rfl) (fun _ => rfl) (fun r27 h28 => ?_) rfl
  refine v_aload_n dX7_copy_82 rfl ?_
  refine v_if (fun h29 => ?_)
  refine v_get (v := pA (r27.1 a1 8)) 7 8 rfl inX7 (by decide) tw93 dX7_copy_83 h29 rfl ?_
  refine v_aload_n dX7_copy_86 rfl ?_
  refine v_if (fun h30 => ?_)
  refine v_get (v := pA (r27.1 a0 8)) 7 8 rfl inX7 (by decide) tw93 dX7_copy_87 h30 rfl ?_
  refine v_cS (mi := mX7_copy) (c0 := 0) (c1 := 0) (As := [pA (r27.1 a1 8), pA (r27.1 a0 8)]) (st := []) (kX10_copyRow d (by omega) _ _ _) okX10_copyRow (Or.inr nw9) tw651 rfl (Nat.le_of_ble_eq_true rfl) dX7_copy_90 (fun r31 => []) (fun r31 => r31) (fun _ => rfl) (fun _ => rfl) (fun r31 h32 => ?_) rfl
  refine v_aload_n dX7_copy_93 rfl ?_
  refine v_if (fun h33 => ?_)
  refine v_get (v := pA (r31.1 a1 9)) 7 9 rfl inX7 (by decide) tw96 dX7_copy_94 h33 rfl ?_
  refine v_aload_n dX7_copy_97 rfl ?_
  refine v_if (fun h34 => ?_)
  refine v_get (v := pA (r31.1 a0 9)) 7 9 rfl inX7 (by decide) tw96 dX7_copy_98 h34 rfl ?_
  refine v_cS (mi := mX7_copy) (c0 := 0) (c1 := 0) (As := [pA (r31.1 a1 9), pA (r31.1 a0 9)]) (st := []) (kX10_copyRow d (by omega) _ _ _) okX10_copyRow (Or.inr nw9) tw651 rfl (Nat.le_of_ble_eq_true rfl) dX7_copy_101 (fun r35 => []) (fun r35 => r35) (fun _ => rfl) (fun _ => rfl) (fun r35 h36 => ?_) rfl
  exact v_return dX7_copy_104 rfl rfl
theorem chX7_isHouse_0 : (cX7_isHouse.data.toList.drop 0).take 16 = [27, 155, 0, 21, 27, 42, 180, 0, 39, 162, 0, 13, 27, 16, 6, 162] := by decide +kernel
theorem chX7_isHouse_1 : (cX7_isHouse.data.toList.drop 16).take 16 = [0, 7, 4, 167, 0, 4, 3, 172] := by decide +kernel
theorem dX7_isHouse_0 : decode cX7_isHouse 0 = .ok (.iload_n 1, 1) := oq_27 (byt chX7_isHouse_0 0 rfl)
theorem dX7_isHouse_1 : decode cX7_isHouse 1 = .ok (.ifCond .lt 21, 3) := oq_155 (byt chX7_isHouse_0 1 rfl) (byt chX7_isHouse_0 2 rfl) (byt chX7_isHouse_0 3 rfl) (by decide +kernel)
theorem dX7_isHouse_4 : decode cX7_isHouse 4 = .ok (.iload_n 1, 1) := oq_27 (byt chX7_isHouse_0 4 rfl)
theorem dX7_isHouse_5 : decode cX7_isHouse 5 = .ok (.aload_n 0, 1) := oq_42 (byt chX7_isHouse_0 5 rfl)
theorem dX7_isHouse_6 : decode cX7_isHouse 6 = .ok (.getfield 39, 3) := oq_180 (byt chX7_isHouse_0 6 rfl) (byt chX7_isHouse_0 7 rfl) (byt chX7_isHouse_0 8 rfl) rfl
theorem dX7_isHouse_9 : decode cX7_isHouse 9 = .ok (.if_icmp .ge 13, 3) := oq_162 (byt chX7_isHouse_0 9 rfl) (byt chX7_isHouse_0 10 rfl) (byt chX7_isHouse_0 11 rfl) (by decide +kernel)
theorem dX7_isHouse_12 : decode cX7_isHouse 12 = .ok (.iload_n 1, 1) := oq_27 (byt chX7_isHouse_0 12 rfl)
theorem dX7_isHouse_13 : decode cX7_isHouse 13 = .ok (.bipush 6, 2) := oq_16 (byt chX7_isHouse_0 13 rfl) (byt chX7_isHouse_0 14 rfl) rfl
theorem dX7_isHouse_15 : decode cX7_isHouse 15 = .ok (.if_icmp .ge 7, 3) := oq_162 (byt chX7_isHouse_0 15 rfl) (byt chX7_isHouse_1 0 rfl) (byt chX7_isHouse_1 1 rfl) (by decide +kernel)
theorem dX7_isHouse_18 : decode cX7_isHouse 18 = .ok (.iconst 1, 1) := oq_4 (byt chX7_isHouse_1 2 rfl)
theorem dX7_isHouse_19 : decode cX7_isHouse 19 = .ok (.goto 4, 3) := oq_167 (byt chX7_isHouse_1 3 rfl) (byt chX7_isHouse_1 4 rfl) (byt chX7_isHouse_1 5 rfl) (by decide +kernel)
theorem dX7_isHouse_22 : decode cX7_isHouse 22 = .ok (.iconst 0, 1) := oq_3 (byt chX7_isHouse_1 6 rfl)
theorem dX7_isHouse_23 : decode cX7_isHouse 23 = .ok (.ireturn, 1) := oq_172 (byt chX7_isHouse_1 7 rfl)
abbrev mX7_isHouse : MI := (yX7_isHouse, cX7_isHouse, 2, (some .boolean), noE)
theorem okX7_isHouse : cok mX7_isHouse 1 := ⟨tw687, tw3, by decide, by decide, by decide, by decide +kernel⟩
def fX7_isHouse (M : Mem) (a0 a1 : Int) : Option Int :=
  if a1 < 0 then (some 0) else (if M.2.1 a0 = 7 then if a1 < M.1 a0 0 then (if a1 < 6 then (some 1) else (some 0)) else (some 0) else none)
set_option maxRecDepth 100000 in
set_option maxHeartbeats 4000000 in
theorem kX7_isHouse (d : Nat) (hd : 0 ≤ d) (M : Mem) (a0 a1 : Int) : Ct mX7_isHouse d 0 0 [pA a0, pI a1] M (dI M) (fX7_isHouse M a0 a1) := by
  refine Ct.of 0 (fun _ _ _ => trivial) (by decide +kernel) rfl ?_
  unfold fX7_isHouse
  refine v_iload_n dX7_isHouse_0 rfl ?_
  refine v_if_lt (tgt := 22) dX7_isHouse_1 (by decide) (fun c1 => ?_) (fun c1 => ?_)
  · refine v_iconst dX7_isHouse_22 (by decide) ?_
    exact v_breturn dX7_isHouse_23 rfl (by decide) rfl
  · refine v_iload_n dX7_isHouse_4 rfl ?_
    refine v_aload_n dX7_isHouse_5 rfl ?_
    refine v_if (fun h2 => ?_)
    refine v_get (v := pI (M.1 a0 0)) 7 0 rfl inX7 (by decide) tw54 dX7_isHouse_6 h2 rfl ?_
    refine v_icmp_ge (tgt := 22) dX7_isHouse_9 (by decide) (fun c3 => ?_) (fun c3 => ?_)
    · refine v_iload_n dX7_isHouse_12 rfl ?_
      refine v_bipush dX7_isHouse_13 (by decide) ?_
      refine v_icmp_ge (tgt := 22) dX7_isHouse_15 (by decide) (fun c4 => ?_) (fun c4 => ?_)
      · refine v_iconst dX7_isHouse_18 (by decide) ?_
        refine v_goto (tgt := 23) dX7_isHouse_19 (by decide) ?_
        exact v_breturn dX7_isHouse_23 rfl (by decide) rfl
      · refine v_iconst dX7_isHouse_22 (by decide) ?_
        exact v_breturn dX7_isHouse_23 rfl (by decide) rfl
    · refine v_iconst dX7_isHouse_22 (by decide) ?_
      exact v_breturn dX7_isHouse_23 rfl (by decide) rfl
theorem chX7_isThief_0 : (cX7_isThief.data.toList.drop 0).take 16 = [27, 155, 0, 20, 27, 42, 180, 0, 43, 162, 0, 12, 27, 7, 162, 0] := by decide +kernel
theorem chX7_isThief_1 : (cX7_isThief.data.toList.drop 16).take 16 = [7, 4, 167, 0, 4, 3, 172] := by decide +kernel
theorem dX7_isThief_0 : decode cX7_isThief 0 = .ok (.iload_n 1, 1) := oq_27 (byt chX7_isThief_0 0 rfl)
theorem dX7_isThief_1 : decode cX7_isThief 1 = .ok (.ifCond .lt 20, 3) := oq_155 (byt chX7_isThief_0 1 rfl) (byt chX7_isThief_0 2 rfl) (byt chX7_isThief_0 3 rfl) (by decide +kernel)
theorem dX7_isThief_4 : decode cX7_isThief 4 = .ok (.iload_n 1, 1) := oq_27 (byt chX7_isThief_0 4 rfl)
theorem dX7_isThief_5 : decode cX7_isThief 5 = .ok (.aload_n 0, 1) := oq_42 (byt chX7_isThief_0 5 rfl)
theorem dX7_isThief_6 : decode cX7_isThief 6 = .ok (.getfield 43, 3) := oq_180 (byt chX7_isThief_0 6 rfl) (byt chX7_isThief_0 7 rfl) (byt chX7_isThief_0 8 rfl) rfl
theorem dX7_isThief_9 : decode cX7_isThief 9 = .ok (.if_icmp .ge 12, 3) := oq_162 (byt chX7_isThief_0 9 rfl) (byt chX7_isThief_0 10 rfl) (byt chX7_isThief_0 11 rfl) (by decide +kernel)
theorem dX7_isThief_12 : decode cX7_isThief 12 = .ok (.iload_n 1, 1) := oq_27 (byt chX7_isThief_0 12 rfl)
theorem dX7_isThief_13 : decode cX7_isThief 13 = .ok (.iconst 4, 1) := oq_7 (byt chX7_isThief_0 13 rfl)
theorem dX7_isThief_14 : decode cX7_isThief 14 = .ok (.if_icmp .ge 7, 3) := oq_162 (byt chX7_isThief_0 14 rfl) (byt chX7_isThief_0 15 rfl) (byt chX7_isThief_1 0 rfl) (by decide +kernel)
theorem dX7_isThief_17 : decode cX7_isThief 17 = .ok (.iconst 1, 1) := oq_4 (byt chX7_isThief_1 1 rfl)
theorem dX7_isThief_18 : decode cX7_isThief 18 = .ok (.goto 4, 3) := oq_167 (byt chX7_isThief_1 2 rfl) (byt chX7_isThief_1 3 rfl) (byt chX7_isThief_1 4 rfl) (by decide +kernel)
theorem dX7_isThief_21 : decode cX7_isThief 21 = .ok (.iconst 0, 1) := oq_3 (byt chX7_isThief_1 5 rfl)
theorem dX7_isThief_22 : decode cX7_isThief 22 = .ok (.ireturn, 1) := oq_172 (byt chX7_isThief_1 6 rfl)
abbrev mX7_isThief : MI := (yX7_isThief, cX7_isThief, 2, (some .boolean), noE)
theorem okX7_isThief : cok mX7_isThief 1 := ⟨tw694, tw3, by decide, by decide, by decide, by decide +kernel⟩
def fX7_isThief (M : Mem) (a0 a1 : Int) : Option Int :=
  if a1 < 0 then (some 0) else (if M.2.1 a0 = 7 then if a1 < M.1 a0 1 then (if a1 < 4 then (some 1) else (some 0)) else (some 0) else none)
set_option maxRecDepth 100000 in
set_option maxHeartbeats 4000000 in
theorem kX7_isThief (d : Nat) (hd : 0 ≤ d) (M : Mem) (a0 a1 : Int) : Ct mX7_isThief d 0 0 [pA a0, pI a1] M (dI M) (fX7_isThief M a0 a1) := by
  refine Ct.of 0 (fun _ _ _ => trivial) (by decide +kernel) rfl ?_
  unfold fX7_isThief
  refine v_iload_n dX7_isThief_0 rfl ?_
  refine v_if_lt (tgt := 21) dX7_isThief_1 (by decide) (fun c1 => ?_) (fun c1 => ?_)
  · refine v_iconst dX7_isThief_21 (by decide) ?_
    exact v_breturn dX7_isThief_22 rfl (by decide) rfl
  · refine v_iload_n dX7_isThief_4 rfl ?_
    refine v_aload_n dX7_isThief_5 rfl ?_
    refine v_if (fun h2 => ?_)
    refine v_get (v := pI (M.1 a0 1)) 7 1 rfl inX7 (by decide) tw61 dX7_isThief_6 h2 rfl ?_
    refine v_icmp_ge (tgt := 21) dX7_isThief_9 (by decide) (fun c3 => ?_) (fun c3 => ?_)
    · refine v_iload_n dX7_isThief_12 rfl ?_
      refine v_iconst dX7_isThief_13 (by decide) ?_
      refine v_icmp_ge (tgt := 21) dX7_isThief_14 (by decide) (fun c4 => ?_) (fun c4 => ?_)
      · refine v_iconst dX7_isThief_17 (by decide) ?_
        refine v_goto (tgt := 22) dX7_isThief_18 (by decide) ?_
        exact v_breturn dX7_isThief_22 rfl (by decide) rfl
      · refine v_iconst dX7_isThief_21 (by decide) ?_
        exact v_breturn dX7_isThief_22 rfl (by decide) rfl
    · refine v_iconst dX7_isThief_21 (by decide) ?_
      exact v_breturn dX7_isThief_22 rfl (by decide) rfl
theorem chX7_addThief_0 : (cX7_addThief.data.toList.drop 0).take 16 = [42, 180, 0, 43, 7, 162, 0, 23, 42, 180, 0, 30, 42, 180, 0, 43] := by decide +kernel
theorem chX7_addThief_1 : (cX7_addThief.data.toList.drop 16).take 16 = [27, 79, 42, 89, 180, 0, 43, 4, 96, 181, 0, 43, 177] := by decide +kernel
theorem dX7_addThief_0 : decode cX7_addThief 0 = .ok (.aload_n 0, 1) := oq_42 (byt chX7_addThief_0 0 rfl)
theorem dX7_addThief_1 : decode cX7_addThief 1 = .ok (.getfield 43, 3) := oq_180 (byt chX7_addThief_0 1 rfl) (byt chX7_addThief_0 2 rfl) (byt chX7_addThief_0 3 rfl) rfl
theorem dX7_addThief_4 : decode cX7_addThief 4 = .ok (.iconst 4, 1) := oq_7 (byt chX7_addThief_0 4 rfl)
theorem dX7_addThief_5 : decode cX7_addThief 5 = .ok (.if_icmp .ge 23, 3) := oq_162 (byt chX7_addThief_0 5 rfl) (byt chX7_addThief_0 6 rfl) (byt chX7_addThief_0 7 rfl) (by decide +kernel)
theorem dX7_addThief_8 : decode cX7_addThief 8 = .ok (.aload_n 0, 1) := oq_42 (byt chX7_addThief_0 8 rfl)
theorem dX7_addThief_9 : decode cX7_addThief 9 = .ok (.getfield 30, 3) := oq_180 (byt chX7_addThief_0 9 rfl) (byt chX7_addThief_0 10 rfl) (byt chX7_addThief_0 11 rfl) rfl
theorem dX7_addThief_12 : decode cX7_addThief 12 = .ok (.aload_n 0, 1) := oq_42 (byt chX7_addThief_0 12 rfl)
theorem dX7_addThief_13 : decode cX7_addThief 13 = .ok (.getfield 43, 3) := oq_180 (byt chX7_addThief_0 13 rfl) (byt chX7_addThief_0 14 rfl) (byt chX7_addThief_0 15 rfl) rfl
theorem dX7_addThief_16 : decode cX7_addThief 16 = .ok (.iload_n 1, 1) := oq_27 (byt chX7_addThief_1 0 rfl)
theorem dX7_addThief_17 : decode cX7_addThief 17 = .ok (.iastore, 1) := oq_79 (byt chX7_addThief_1 1 rfl)
theorem dX7_addThief_18 : decode cX7_addThief 18 = .ok (.aload_n 0, 1) := oq_42 (byt chX7_addThief_1 2 rfl)
theorem dX7_addThief_19 : decode cX7_addThief 19 = .ok (.dup, 1) := oq_89 (byt chX7_addThief_1 3 rfl)
theorem dX7_addThief_20 : decode cX7_addThief 20 = .ok (.getfield 43, 3) := oq_180 (byt chX7_addThief_1 4 rfl) (byt chX7_addThief_1 5 rfl) (byt chX7_addThief_1 6 rfl) rfl
theorem dX7_addThief_23 : decode cX7_addThief 23 = .ok (.iconst 1, 1) := oq_4 (byt chX7_addThief_1 7 rfl)
theorem dX7_addThief_24 : decode cX7_addThief 24 = .ok (.iadd, 1) := oq_96 (byt chX7_addThief_1 8 rfl)
theorem dX7_addThief_25 : decode cX7_addThief 25 = .ok (.putfield 43, 3) := oq_181 (byt chX7_addThief_1 9 rfl) (byt chX7_addThief_1 10 rfl) (byt chX7_addThief_1 11 rfl) rfl
theorem dX7_addThief_28 : decode cX7_addThief 28 = .ok (.return_, 1) := oq_177 (byt chX7_addThief_1 12 rfl)
abbrev mX7_addThief : MI := (yX7_addThief, cX7_addThief, 2, none, noE)
theorem okX7_addThief : cok mX7_addThief 1 := ⟨tw629, tw3, by decide, by decide, by decide, by decide +kernel⟩
def fX7_addThief (M : Mem) (a0 a1 : Int) : Option Mem :=
  if M.2.1 a0 = 7 then if M.1 a0 1 < 4 then (if M.2.1 (M.1 a0 8) = 12 ∧ (0 : Int) ≤ (M.1 a0 1) ∧ (M.1 a0 1) < M.2.2.1 (M.1 a0 8) then bM (mst M (M.1 a0 8) (M.1 a0 1) a1) fun M4 => bM (mst M4 a0 1 (w32 ((M4.1 a0 1) + 1))) fun M6 => some M6 else none) else (some M) else none
set_option maxRecDepth 100000 in
set_option maxHeartbeats 4000000 in
theorem kX7_addThief (d : Nat) (hd : 0 ≤ d) (M : Mem) (a0 a1 : Int) : Ct mX7_addThief d 0 0 [pA a0, pI a1] M dV (fX7_addThief M a0 a1) := by
  refine Ct.of 0 (fun _ _ _ => trivial) (by decide +kernel) rfl ?_
  unfold fX7_addThief
  refine v_aload_n dX7_addThief_0 rfl ?_
  refine v_if (fun h1 => ?_)
  refine v_get (v := pI (M.1 a0 1)) 7 1 rfl inX7 (by decide) tw61 dX7_addThief_1 h1 rfl ?_
  refine v_iconst dX7_addThief_4 (by decide) ?_
  refine v_icmp_ge (tgt := 28) dX7_addThief_5 (by decide) (fun c2 => ?_) (fun c2 => ?_)
  · refine v_aload_n dX7_addThief_8 rfl ?_
    refine v_get (v := pA (M.1 a0 8)) 7 8 rfl inX7 (by decide) tw93 dX7_addThief_9 h1 rfl ?_
    refine v_aload_n dX7_addThief_12 rfl ?_
    refine v_get (v := pI (M.1 a0 1)) 7 1 rfl inX7 (by decide) tw61 dX7_addThief_13 h1 rfl ?_
    refine v_iload_n dX7_addThief_16 rfl ?_
    refine v_if (fun h3 => ?_)
    refine v_iastore h3 dX7_addThief_17 ?_
    refine v_bM (fun M4 e5 => ?_)
    refine v_aload_n dX7_addThief_18 rfl ?_
    refine v_dup dX7_addThief_19 (by intro z hz; cases hz) ?_
    refine v_get (v := pI (M4.1 a0 1)) 7 1 rfl inX7 (by decide) tw61 dX7_addThief_20 (by rw [e5]; exact h1) rfl ?_
    refine v_iconst dX7_addThief_23 (by decide) ?_
    refine v_iadd dX7_addThief_24 ?_
    refine v_put (x := w32 ((M4.1 a0 1) + 1)) 7 1 rfl inX7 (by decide) tw61 (Or.inl rfl) rfl dX7_addThief_25 (by rw [e5]; exact h1) rfl id ?_
    refine v_bM (fun M6 e7 => ?_)
    exact v_return dX7_addThief_28 rfl rfl
  · exact v_return dX7_addThief_28 rfl rfl
theorem chX7_areKin_0 : (cX7_areKin.data.toList.drop 0).take 16 = [42, 180, 0, 33, 27, 46, 28, 159, 0, 13, 42, 180, 0, 33, 28, 46] := by decide +kernel
theorem chX7_areKin_1 : (cX7_areKin.data.toList.drop 16).take 16 = [27, 160, 0, 7, 4, 167, 0, 4, 3, 172] := by decide +kernel
theorem dX7_areKin_0 : decode cX7_areKin 0 = .ok (.aload_n 0, 1) := oq_42 (byt chX7_areKin_0 0 rfl)
theorem dX7_areKin_1 : decode cX7_areKin 1 = .ok (.getfield 33, 3) := oq_180 (byt chX7_areKin_0 1 rfl) (byt chX7_areKin_0 2 rfl) (byt chX7_areKin_0 3 rfl) rfl
theorem dX7_areKin_4 : decode cX7_areKin 4 = .ok (.iload_n 1, 1) := oq_27 (byt chX7_areKin_0 4 rfl)
theorem dX7_areKin_5 : decode cX7_areKin 5 = .ok (.iaload, 1) := oq_46 (byt chX7_areKin_0 5 rfl)
theorem dX7_areKin_6 : decode cX7_areKin 6 = .ok (.iload_n 2, 1) := oq_28 (byt chX7_areKin_0 6 rfl)
theorem dX7_areKin_7 : decode cX7_areKin 7 = .ok (.if_icmp .eq 13, 3) := oq_159 (byt chX7_areKin_0 7 rfl) (byt chX7_areKin_0 8 rfl) (byt chX7_areKin_0 9 rfl) (by decide +kernel)
theorem dX7_areKin_10 : decode cX7_areKin 10 = .ok (.aload_n 0, 1) := oq_42 (byt chX7_areKin_0 10 rfl)
theorem dX7_areKin_11 : decode cX7_areKin 11 = .ok (.getfield 33, 3) := oq_180 (byt chX7_areKin_0 11 rfl) (byt chX7_areKin_0 12 rfl) (byt chX7_areKin_0 13 rfl) rfl
theorem dX7_areKin_14 : decode cX7_areKin 14 = .ok (.iload_n 2, 1) := oq_28 (byt chX7_areKin_0 14 rfl)
theorem dX7_areKin_15 : decode cX7_areKin 15 = .ok (.iaload, 1) := oq_46 (byt chX7_areKin_0 15 rfl)
theorem dX7_areKin_16 : decode cX7_areKin 16 = .ok (.iload_n 1, 1) := oq_27 (byt chX7_areKin_1 0 rfl)
theorem dX7_areKin_17 : decode cX7_areKin 17 = .ok (.if_icmp .ne 7, 3) := oq_160 (byt chX7_areKin_1 1 rfl) (byt chX7_areKin_1 2 rfl) (byt chX7_areKin_1 3 rfl) (by decide +kernel)
theorem dX7_areKin_20 : decode cX7_areKin 20 = .ok (.iconst 1, 1) := oq_4 (byt chX7_areKin_1 4 rfl)
theorem dX7_areKin_21 : decode cX7_areKin 21 = .ok (.goto 4, 3) := oq_167 (byt chX7_areKin_1 5 rfl) (byt chX7_areKin_1 6 rfl) (byt chX7_areKin_1 7 rfl) (by decide +kernel)
theorem dX7_areKin_24 : decode cX7_areKin 24 = .ok (.iconst 0, 1) := oq_3 (byt chX7_areKin_1 8 rfl)
theorem dX7_areKin_25 : decode cX7_areKin 25 = .ok (.ireturn, 1) := oq_172 (byt chX7_areKin_1 9 rfl)
abbrev mX7_areKin : MI := (yX7_areKin, cX7_areKin, 3, (some .boolean), noE)
theorem okX7_areKin : cok mX7_areKin 2 := ⟨tw784, tw3, by decide, by decide, by decide, by decide +kernel⟩
def fX7_areKin (M : Mem) (a0 a1 a2 : Int) : Option Int :=
  if M.2.1 a0 = 7 then if M.2.1 (M.1 a0 9) = 12 ∧ (0 : Int) ≤ a1 ∧ a1 < M.2.2.1 (M.1 a0 9) then if M.1 (M.1 a0 9) a1 = a2 then (some 1) else (if M.2.1 (M.1 a0 9) = 12 ∧ (0 : Int) ≤ a2 ∧ a2 < M.2.2.1 (M.1 a0 9) then if M.1 (M.1 a0 9) a2 = a1 then (some 1) else (some 0) else none) else none else none
set_option maxRecDepth 100000 in
set_option maxHeartbeats 4000000 in
theorem kX7_areKin (d : Nat) (hd : 0 ≤ d) (M : Mem) (a0 a1 a2 : Int) : Ct mX7_areKin d 0 0 [pA a0, pI a1, pI a2] M (dI M) (fX7_areKin M a0 a1 a2) := by
  refine Ct.of 0 (fun _ _ _ => trivial) (by decide +kernel) rfl ?_
  unfold fX7_areKin
  refine v_aload_n dX7_areKin_0 rfl ?_
  refine v_if (fun h1 => ?_)
  refine v_get (v := pA (M.1 a0 9)) 7 9 rfl inX7 (by decide) tw96 dX7_areKin_1 h1 rfl ?_
  refine v_iload_n dX7_areKin_4 rfl ?_
  refine v_if (fun h2 => ?_)
  refine v_iaload h2 dX7_areKin_5 ?_
  refine v_iload_n dX7_areKin_6 rfl ?_
  refine v_icmp_eq (tgt := 20) dX7_areKin_7 (by decide) (fun c3 => ?_) (fun c3 => ?_)
  · refine v_iconst dX7_areKin_20 (by decide) ?_
    refine v_goto (tgt := 25) dX7_areKin_21 (by decide) ?_
    exact v_breturn dX7_areKin_25 rfl (by decide) rfl
  · refine v_aload_n dX7_areKin_10 rfl ?_
    refine v_get (v := pA (M.1 a0 9)) 7 9 rfl inX7 (by decide) tw96 dX7_areKin_11 h1 rfl ?_
    refine v_iload_n dX7_areKin_14 rfl ?_
    refine v_if (fun h4 => ?_)
    refine v_iaload h4 dX7_areKin_15 ?_
    refine v_iload_n dX7_areKin_16 rfl ?_
    refine v_icmp_ne (tgt := 24) dX7_areKin_17 (by decide) (fun c5 => ?_) (fun c5 => ?_)
    · refine v_iconst dX7_areKin_20 (by decide) ?_
      refine v_goto (tgt := 25) dX7_areKin_21 (by decide) ?_
      exact v_breturn dX7_areKin_25 rfl (by decide) rfl
    · refine v_iconst dX7_areKin_24 (by decide) ?_
      exact v_breturn dX7_areKin_25 rfl (by decide) rfl
theorem chX7_spareOf_0 : (cX7_spareOf.data.toList.drop 0).take 16 = [3, 42, 180, 0, 9, 27, 28, 184, 0, 54, 46, 42, 180, 0, 15, 27] := by decide +kernel
theorem chX7_spareOf_1 : (cX7_spareOf.data.toList.drop 16).take 16 = [28, 184, 0, 54, 46, 100, 184, 0, 58, 172] := by decide +kernel
theorem dX7_spareOf_0 : decode cX7_spareOf 0 = .ok (.iconst 0, 1) := oq_3 (byt chX7_spareOf_0 0 rfl)
theorem dX7_spareOf_1 : decode cX7_spareOf 1 = .ok (.aload_n 0, 1) := oq_42 (byt chX7_spareOf_0 1 rfl)
theorem dX7_spareOf_2 : decode cX7_spareOf 2 = .ok (.getfield 9, 3) := oq_180 (byt chX7_spareOf_0 2 rfl) (byt chX7_spareOf_0 3 rfl) (byt chX7_spareOf_0 4 rfl) rfl
theorem dX7_spareOf_5 : decode cX7_spareOf 5 = .ok (.iload_n 1, 1) := oq_27 (byt chX7_spareOf_0 5 rfl)
theorem dX7_spareOf_6 : decode cX7_spareOf 6 = .ok (.iload_n 2, 1) := oq_28 (byt chX7_spareOf_0 6 rfl)
theorem dX7_spareOf_7 : decode cX7_spareOf 7 = .ok (.invokestatic 54, 3) := oq_184 (byt chX7_spareOf_0 7 rfl) (byt chX7_spareOf_0 8 rfl) (byt chX7_spareOf_0 9 rfl) rfl
theorem dX7_spareOf_10 : decode cX7_spareOf 10 = .ok (.iaload, 1) := oq_46 (byt chX7_spareOf_0 10 rfl)
theorem dX7_spareOf_11 : decode cX7_spareOf 11 = .ok (.aload_n 0, 1) := oq_42 (byt chX7_spareOf_0 11 rfl)
theorem dX7_spareOf_12 : decode cX7_spareOf 12 = .ok (.getfield 15, 3) := oq_180 (byt chX7_spareOf_0 12 rfl) (byt chX7_spareOf_0 13 rfl) (byt chX7_spareOf_0 14 rfl) rfl
theorem dX7_spareOf_15 : decode cX7_spareOf 15 = .ok (.iload_n 1, 1) := oq_27 (byt chX7_spareOf_0 15 rfl)
theorem dX7_spareOf_16 : decode cX7_spareOf 16 = .ok (.iload_n 2, 1) := oq_28 (byt chX7_spareOf_1 0 rfl)
theorem dX7_spareOf_17 : decode cX7_spareOf 17 = .ok (.invokestatic 54, 3) := oq_184 (byt chX7_spareOf_1 1 rfl) (byt chX7_spareOf_1 2 rfl) (byt chX7_spareOf_1 3 rfl) rfl
theorem dX7_spareOf_20 : decode cX7_spareOf 20 = .ok (.iaload, 1) := oq_46 (byt chX7_spareOf_1 4 rfl)
theorem dX7_spareOf_21 : decode cX7_spareOf 21 = .ok (.isub, 1) := oq_100 (byt chX7_spareOf_1 5 rfl)
theorem dX7_spareOf_22 : decode cX7_spareOf 22 = .ok (.invokestatic 58, 3) := oq_184 (byt chX7_spareOf_1 6 rfl) (byt chX7_spareOf_1 7 rfl) (byt chX7_spareOf_1 8 rfl) rfl
theorem dX7_spareOf_25 : decode cX7_spareOf 25 = .ok (.ireturn, 1) := oq_172 (byt chX7_spareOf_1 9 rfl)
abbrev mX7_spareOf : MI := (yX7_spareOf, cX7_spareOf, 3, (some .int), noE)
theorem okX7_spareOf : cok mX7_spareOf 2 := ⟨tw703, tw3, by decide, by decide, by decide, by decide +kernel⟩
def fX7_spareOf (M : Mem) (a0 a1 a2 : Int) : Option Int :=
  if M.2.1 a0 = 7 then (fX10_cell M a1 a2).bind fun r2 => if M.2.1 (M.1 a0 2) = 12 ∧ (0 : Int) ≤ r2 ∧ r2 < M.2.2.1 (M.1 a0 2) then (fX10_cell M a1 a2).bind fun r5 => if M.2.1 (M.1 a0 3) = 12 ∧ (0 : Int) ≤ r5 ∧ r5 < M.2.2.1 (M.1 a0 3) then some (imax 0 (w32 ((M.1 (M.1 a0 2) r2) - (M.1 (M.1 a0 3) r5)))) else none else none else none
set_option maxRecDepth 100000 in
set_option maxHeartbeats 4000000 in
theorem kX7_spareOf (d : Nat) (hd : 1 ≤ d) (M : Mem) (a0 a1 a2 : Int) : Ct mX7_spareOf d 0 0 [pA a0, pI a1, pI a2] M (dI M) (fX7_spareOf M a0 a1 a2) := by
  obtain ⟨d, rfl⟩ : ∃ k, d = k + 1 := ⟨d - 1, by omega⟩
  refine Ct.of 0 (fun _ _ _ => trivial) (by decide +kernel) rfl ?_
  unfold fX7_spareOf
  refine v_iconst dX7_spareOf_0 (by decide) ?_
  refine v_aload_n dX7_spareOf_1 rfl ?_
  refine v_if (fun h1 => ?_)
  refine v_get (v := pA (M.1 a0 2)) 7 2 rfl inX7 (by decide) tw66 dX7_spareOf_2 h1 rfl ?_
  refine v_iload_n dX7_spareOf_5 rfl ?_
  refine v_iload_n dX7_spareOf_6 rfl ?_
  refine v_cS (mi := mX7_spareOf) (c0 := 0) (c1 := 0) (As := [pI a1, pI a2]) (st := [pA (M.1 a0 2), pI 0]) (kX10_cell d (by omega) _ _ _) okX10_cell (Or.inr nw12) tw621 rfl (Nat.le_of_ble_eq_true rfl) dX7_spareOf_7 (fun r2 => [pI r2, pA (M.1 a0 2), pI 0]) (fun r2 => M) (fun _ => rfl) (fun _ => rfl) (fun r2 h3 => ?_) rfl
  refine v_if (fun h4 => ?_)
  refine v_iaload h4 dX7_spareOf_10 ?_
  refine v_aload_n dX7_spareOf_11 rfl ?_
  refine v_get (v := pA (M.1 a0 3)) 7 3 rfl inX7 (by decide) tw72 dX7_spareOf_12 h1 rfl ?_
  refine v_iload_n dX7_spareOf_15 rfl ?_
  refine v_iload_n dX7_spareOf_16 rfl ?_
  refine v_cS (mi := mX7_spareOf) (c0 := 0) (c1 := 0) (As := [pI a1, pI a2]) (st := [pA (M.1 a0 3), pI (M.1 (M.1 a0 2) r2), pI 0]) (kX10_cell d (by omega) _ _ _) okX10_cell (Or.inr nw12) tw621 rfl (Nat.le_of_ble_eq_true rfl) dX7_spareOf_17 (fun r5 => [pI r5, pA (M.1 a0 3), pI (M.1 (M.1 a0 2) r2), pI 0]) (fun r5 => M) (fun _ => rfl) (fun _ => rfl) (fun r5 h6 => ?_) rfl
  refine v_if (fun h7 => ?_)
  refine v_iaload h7 dX7_spareOf_20 ?_
  refine v_isub dX7_spareOf_21 ?_
  refine v_mmax (mi := mX7_spareOf) tw705 tw624 tw12 tw625 (Nat.le_of_ble_eq_true rfl) dX7_spareOf_22 ?_
  exact v_ireturn dX7_spareOf_25 rfl rfl
theorem chX7_lackOf_0 : (cX7_lackOf.data.toList.drop 0).take 16 = [3, 42, 180, 0, 15, 27, 28, 184, 0, 54, 46, 42, 180, 0, 9, 27] := by decide +kernel
theorem chX7_lackOf_1 : (cX7_lackOf.data.toList.drop 16).take 16 = [28, 184, 0, 54, 46, 100, 184, 0, 58, 172] := by decide +kernel
theorem dX7_lackOf_0 : decode cX7_lackOf 0 = .ok (.iconst 0, 1) := oq_3 (byt chX7_lackOf_0 0 rfl)
theorem dX7_lackOf_1 : decode cX7_lackOf 1 = .ok (.aload_n 0, 1) := oq_42 (byt chX7_lackOf_0 1 rfl)
theorem dX7_lackOf_2 : decode cX7_lackOf 2 = .ok (.getfield 15, 3) := oq_180 (byt chX7_lackOf_0 2 rfl) (byt chX7_lackOf_0 3 rfl) (byt chX7_lackOf_0 4 rfl) rfl
theorem dX7_lackOf_5 : decode cX7_lackOf 5 = .ok (.iload_n 1, 1) := oq_27 (byt chX7_lackOf_0 5 rfl)
theorem dX7_lackOf_6 : decode cX7_lackOf 6 = .ok (.iload_n 2, 1) := oq_28 (byt chX7_lackOf_0 6 rfl)
theorem dX7_lackOf_7 : decode cX7_lackOf 7 = .ok (.invokestatic 54, 3) := oq_184 (byt chX7_lackOf_0 7 rfl) (byt chX7_lackOf_0 8 rfl) (byt chX7_lackOf_0 9 rfl) rfl
theorem dX7_lackOf_10 : decode cX7_lackOf 10 = .ok (.iaload, 1) := oq_46 (byt chX7_lackOf_0 10 rfl)
theorem dX7_lackOf_11 : decode cX7_lackOf 11 = .ok (.aload_n 0, 1) := oq_42 (byt chX7_lackOf_0 11 rfl)
theorem dX7_lackOf_12 : decode cX7_lackOf 12 = .ok (.getfield 9, 3) := oq_180 (byt chX7_lackOf_0 12 rfl) (byt chX7_lackOf_0 13 rfl) (byt chX7_lackOf_0 14 rfl) rfl
theorem dX7_lackOf_15 : decode cX7_lackOf 15 = .ok (.iload_n 1, 1) := oq_27 (byt chX7_lackOf_0 15 rfl)
theorem dX7_lackOf_16 : decode cX7_lackOf 16 = .ok (.iload_n 2, 1) := oq_28 (byt chX7_lackOf_1 0 rfl)
theorem dX7_lackOf_17 : decode cX7_lackOf 17 = .ok (.invokestatic 54, 3) := oq_184 (byt chX7_lackOf_1 1 rfl) (byt chX7_lackOf_1 2 rfl) (byt chX7_lackOf_1 3 rfl) rfl
theorem dX7_lackOf_20 : decode cX7_lackOf 20 = .ok (.iaload, 1) := oq_46 (byt chX7_lackOf_1 4 rfl)
theorem dX7_lackOf_21 : decode cX7_lackOf 21 = .ok (.isub, 1) := oq_100 (byt chX7_lackOf_1 5 rfl)
theorem dX7_lackOf_22 : decode cX7_lackOf 22 = .ok (.invokestatic 58, 3) := oq_184 (byt chX7_lackOf_1 6 rfl) (byt chX7_lackOf_1 7 rfl) (byt chX7_lackOf_1 8 rfl) rfl
theorem dX7_lackOf_25 : decode cX7_lackOf 25 = .ok (.ireturn, 1) := oq_172 (byt chX7_lackOf_1 9 rfl)
abbrev mX7_lackOf : MI := (yX7_lackOf, cX7_lackOf, 3, (some .int), noE)
theorem okX7_lackOf : cok mX7_lackOf 2 := ⟨tw709, tw3, by decide, by decide, by decide, by decide +kernel⟩
def fX7_lackOf (M : Mem) (a0 a1 a2 : Int) : Option Int :=
  if M.2.1 a0 = 7 then (fX10_cell M a1 a2).bind fun r2 => if M.2.1 (M.1 a0 3) = 12 ∧ (0 : Int) ≤ r2 ∧ r2 < M.2.2.1 (M.1 a0 3) then (fX10_cell M a1 a2).bind fun r5 => if M.2.1 (M.1 a0 2) = 12 ∧ (0 : Int) ≤ r5 ∧ r5 < M.2.2.1 (M.1 a0 2) then some (imax 0 (w32 ((M.1 (M.1 a0 3) r2) - (M.1 (M.1 a0 2) r5)))) else none else none else none
set_option maxRecDepth 100000 in
set_option maxHeartbeats 4000000 in
theorem kX7_lackOf (d : Nat) (hd : 1 ≤ d) (M : Mem) (a0 a1 a2 : Int) : Ct mX7_lackOf d 0 0 [pA a0, pI a1, pI a2] M (dI M) (fX7_lackOf M a0 a1 a2) := by
  obtain ⟨d, rfl⟩ : ∃ k, d = k + 1 := ⟨d - 1, by omega⟩
  refine Ct.of 0 (fun _ _ _ => trivial) (by decide +kernel) rfl ?_
  unfold fX7_lackOf
  refine v_iconst dX7_lackOf_0 (by decide) ?_
  refine v_aload_n dX7_lackOf_1 rfl ?_
  refine v_if (fun h1 => ?_)
  refine v_get (v := pA (M.1 a0 3)) 7 3 rfl inX7 (by decide) tw72 dX7_lackOf_2 h1 rfl ?_
  refine v_iload_n dX7_lackOf_5 rfl ?_
  refine v_iload_n dX7_lackOf_6 rfl ?_
  refine v_cS (mi := mX7_lackOf) (c0 := 0) (c1 := 0) (As := [pI a1, pI a2]) (st := [pA (M.1 a0 3), pI 0]) (kX10_cell d (by omega) _ _ _) okX10_cell (Or.inr nw12) tw621 rfl (Nat.le_of_ble_eq_true rfl) dX7_lackOf_7 (fun r2 => [pI r2, pA (M.1 a0 3), pI 0]) (fun r2 => M) (fun _ => rfl) (fun _ => rfl) (fun r2 h3 => ?_) rfl
  refine v_if (fun h4 => ?_)
  refine v_iaload h4 dX7_lackOf_10 ?_
  refine v_aload_n dX7_lackOf_11 rfl ?_
  refine v_get (v := pA (M.1 a0 2)) 7 2 rfl inX7 (by decide) tw66 dX7_lackOf_12 h1 rfl ?_
  refine v_iload_n dX7_lackOf_15 rfl ?_
  refine v_iload_n dX7_lackOf_16 rfl ?_
  refine v_cS (mi := mX7_lackOf) (c0 := 0) (c1 := 0) (As := [pI a1, pI a2]) (st := [pA (M.1 a0 2), pI (M.1 (M.1 a0 3) r2), pI 0]) (kX10_cell d (by omega) _ _ _) okX10_cell (Or.inr nw12) tw621 rfl (Nat.le_of_ble_eq_true rfl) dX7_lackOf_17 (fun r5 => [pI r5, pA (M.1 a0 2), pI (M.1 (M.1 a0 3) r2), pI 0]) (fun r5 => M) (fun _ => rfl) (fun _ => rfl) (fun r5 h6 => ?_) rfl
  refine v_if (fun h7 => ?_)
  refine v_iaload h7 dX7_lackOf_20 ?_
  refine v_isub dX7_lackOf_21 ?_
  refine v_mmax (mi := mX7_lackOf) tw705 tw624 tw12 tw625 (Nat.le_of_ble_eq_true rfl) dX7_lackOf_22 ?_
  exact v_ireturn dX7_lackOf_25 rfl rfl
theorem chX7_spareOfAll_0 : (cX7_spareOfAll.data.toList.drop 0).take 16 = [3, 61, 3, 62, 29, 42, 180, 0, 39, 162, 0, 18, 28, 42, 29, 27] := by decide +kernel
theorem chX7_spareOfAll_1 : (cX7_spareOfAll.data.toList.drop 16).take 16 = [182, 0, 63, 96, 61, 132, 3, 1, 167, 255, 236, 28, 172] := by decide +kernel
theorem dX7_spareOfAll_0 : decode cX7_spareOfAll 0 = .ok (.iconst 0, 1) := oq_3 (byt chX7_spareOfAll_0 0 rfl)
theorem dX7_spareOfAll_1 : decode cX7_spareOfAll 1 = .ok (.istore_n 2, 1) := oq_61 (byt chX7_spareOfAll_0 1 rfl)
theorem dX7_spareOfAll_2 : decode cX7_spareOfAll 2 = .ok (.iconst 0, 1) := oq_3 (byt chX7_spareOfAll_0 2 rfl)
theorem dX7_spareOfAll_3 : decode cX7_spareOfAll 3 = .ok (.istore_n 3, 1) := oq_62 (byt chX7_spareOfAll_0 3 rfl)
theorem dX7_spareOfAll_4 : decode cX7_spareOfAll 4 = .ok (.iload_n 3, 1) := oq_29 (byt chX7_spareOfAll_0 4 rfl)
theorem dX7_spareOfAll_5 : decode cX7_spareOfAll 5 = .ok (.aload_n 0, 1) := oq_42 (byt chX7_spareOfAll_0 5 rfl)
theorem dX7_spareOfAll_6 : decode cX7_spareOfAll 6 = .ok (.getfield 39, 3) := oq_180 (byt chX7_spareOfAll_0 6 rfl) (byt chX7_spareOfAll_0 7 rfl) (byt chX7_spareOfAll_0 8 rfl) rfl
theorem dX7_spareOfAll_9 : decode cX7_spareOfAll 9 = .ok (.if_icmp .ge 18, 3) := oq_162 (byt chX7_spareOfAll_0 9 rfl) (byt chX7_spareOfAll_0 10 rfl) (byt chX7_spareOfAll_0 11 rfl) (by decide +kernel)
theorem dX7_spareOfAll_12 : decode cX7_spareOfAll 12 = .ok (.iload_n 2, 1) := oq_28 (byt chX7_spareOfAll_0 12 rfl)
theorem dX7_spareOfAll_13 : decode cX7_spareOfAll 13 = .ok (.aload_n 0, 1) := oq_42 (byt chX7_spareOfAll_0 13 rfl)
theorem dX7_spareOfAll_14 : decode cX7_spareOfAll 14 = .ok (.iload_n 3, 1) := oq_29 (byt chX7_spareOfAll_0 14 rfl)
theorem dX7_spareOfAll_15 : decode cX7_spareOfAll 15 = .ok (.iload_n 1, 1) := oq_27 (byt chX7_spareOfAll_0 15 rfl)
theorem dX7_spareOfAll_16 : decode cX7_spareOfAll 16 = .ok (.invokevirtual 63, 3) := oq_182 (byt chX7_spareOfAll_1 0 rfl) (byt chX7_spareOfAll_1 1 rfl) (byt chX7_spareOfAll_1 2 rfl) rfl
theorem dX7_spareOfAll_19 : decode cX7_spareOfAll 19 = .ok (.iadd, 1) := oq_96 (byt chX7_spareOfAll_1 3 rfl)
theorem dX7_spareOfAll_20 : decode cX7_spareOfAll 20 = .ok (.istore_n 2, 1) := oq_61 (byt chX7_spareOfAll_1 4 rfl)
theorem dX7_spareOfAll_21 : decode cX7_spareOfAll 21 = .ok (.iinc 3 1, 3) := oq_132 (byt chX7_spareOfAll_1 5 rfl) (byt chX7_spareOfAll_1 6 rfl) (byt chX7_spareOfAll_1 7 rfl) rfl
theorem dX7_spareOfAll_24 : decode cX7_spareOfAll 24 = .ok (.goto (-20), 3) := oq_167 (byt chX7_spareOfAll_1 8 rfl) (byt chX7_spareOfAll_1 9 rfl) (byt chX7_spareOfAll_1 10 rfl) (by decide +kernel)
theorem dX7_spareOfAll_27 : decode cX7_spareOfAll 27 = .ok (.iload_n 2, 1) := oq_28 (byt chX7_spareOfAll_1 11 rfl)
theorem dX7_spareOfAll_28 : decode cX7_spareOfAll 28 = .ok (.ireturn, 1) := oq_172 (byt chX7_spareOfAll_1 12 rfl)
abbrev mX7_spareOfAll : MI := (yX7_spareOfAll, cX7_spareOfAll, 4, (some .int), noE)
theorem okX7_spareOfAll : cok mX7_spareOfAll 1 := ⟨tw863, tw3, by decide, by decide, by decide, by decide +kernel⟩
def fX7_spareOfAll (M : Mem) (a0 a1 : Int) : Option Int :=
  iterC (fun (rec1 : (Int × Int) → Option Int) (s2 : Int × Int) => if M.2.1 a0 = 7 then if s2.2 < M.1 a0 0 then ((fX7_spareOf M a0 s2.2 a1).bind fun r5 => rec1 (w32 (s2.1 + r5), w32 (s2.2 + 1))) else (some s2.1) else none) BIG (0, 0)
set_option maxRecDepth 100000 in
set_option maxHeartbeats 4000000 in
theorem kX7_spareOfAll (d : Nat) (hd : 2 ≤ d) (M : Mem) (a0 a1 : Int) : Ct mX7_spareOfAll d 0 0 [pA a0, pI a1] M (dI M) (fX7_spareOfAll M a0 a1) := by
  obtain ⟨d, rfl⟩ : ∃ k, d = k + 1 := ⟨d - 1, by omega⟩
  refine Ct.of 2 (fun _ _ _ => trivial) (by decide +kernel) rfl ?_
  unfold fX7_spareOfAll
  refine v_iconst dX7_spareOfAll_0 (by decide) ?_
  refine v_istore_n (ls' := [some (pA a0), some (pI a1), some (pI 0), none]) dX7_spareOfAll_1 (by decide) rfl ?_
  refine v_iconst dX7_spareOfAll_2 (by decide) ?_
  refine v_istore_n (ls' := [some (pA a0), some (pI a1), some (pI 0), some (pI 0)]) dX7_spareOfAll_3 (by decide) rfl ?_
  refine v_loop (fun (s2 : Int × Int) => [some (pA a0), some (pI a1), some (pI s2.1), some (pI s2.2)]) (fun (s2 : Int × Int) => M) (s0 := (0, 0)) ?_
  intro rec1 hrec1 s2
  refine v_iload_n dX7_spareOfAll_4 rfl ?_
  refine v_aload_n dX7_spareOfAll_5 rfl ?_
  refine v_if (fun h3 => ?_)
  refine v_get (v := pI (M.1 a0 0)) 7 0 rfl inX7 (by decide) tw54 dX7_spareOfAll_6 h3 rfl ?_
  refine v_icmp_ge (tgt := 27) dX7_spareOfAll_9 (by decide) (fun c4 => ?_) (fun c4 => ?_)
  · refine v_iload_n dX7_spareOfAll_12 rfl ?_
    refine v_aload_n dX7_spareOfAll_13 rfl ?_
    refine v_iload_n dX7_spareOfAll_14 rfl ?_
    refine v_iload_n dX7_spareOfAll_15 rfl ?_
    refine v_cV (mi := mX7_spareOfAll) (c0 := 0) (c1 := 0) (As := [pI s2.2, pI a1]) (st := [pI s2.1]) (kX7_spareOf d (by omega) _ _ _ _) rfl h3 rfl okX7_spareOf (Or.inl tw864) tw701 tw702 rfl (Nat.le_of_ble_eq_true rfl) dX7_spareOfAll_16 (fun r5 => [pI r5, pI s2.1]) (fun r5 => M) (fun _ => rfl) (fun _ => rfl) (fun r5 h6 => ?_) rfl
    refine v_iadd dX7_spareOfAll_19 ?_
    refine v_istore_n (ls' := [some (pA a0), some (pI a1), some (pI (w32 (s2.1 + r5))), some (pI s2.2)]) dX7_spareOfAll_20 (by decide) rfl ?_
    refine v_iinc (ls' := [some (pA a0), some (pI a1), some (pI (w32 (s2.1 + r5))), some (pI (w32 (s2.2 + 1)))]) dX7_spareOfAll_21 (by decide) rfl rfl ?_
    refine v_goto (tgt := 4) dX7_spareOfAll_24 (by decide) ?_
    exact hrec1 (w32 (s2.1 + r5), w32 (s2.2 + 1))
  · refine v_iload_n dX7_spareOfAll_27 rfl ?_
    exact v_ireturn dX7_spareOfAll_28 rfl rfl
theorem chX7_lackOfAll_0 : (cX7_lackOfAll.data.toList.drop 0).take 16 = [3, 61, 3, 62, 29, 42, 180, 0, 39, 162, 0, 18, 28, 42, 29, 27] := by decide +kernel
theorem chX7_lackOfAll_1 : (cX7_lackOfAll.data.toList.drop 16).take 16 = [182, 0, 66, 96, 61, 132, 3, 1, 167, 255, 236, 28, 172] := by decide +kernel
theorem dX7_lackOfAll_0 : decode cX7_lackOfAll 0 = .ok (.iconst 0, 1) := oq_3 (byt chX7_lackOfAll_0 0 rfl)
theorem dX7_lackOfAll_1 : decode cX7_lackOfAll 1 = .ok (.istore_n 2, 1) := oq_61 (byt chX7_lackOfAll_0 1 rfl)
theorem dX7_lackOfAll_2 : decode cX7_lackOfAll 2 = .ok (.iconst 0, 1) := oq_3 (byt chX7_lackOfAll_0 2 rfl)
theorem dX7_lackOfAll_3 : decode cX7_lackOfAll 3 = .ok (.istore_n 3, 1) := oq_62 (byt chX7_lackOfAll_0 3 rfl)
theorem dX7_lackOfAll_4 : decode cX7_lackOfAll 4 = .ok (.iload_n 3, 1) := oq_29 (byt chX7_lackOfAll_0 4 rfl)
theorem dX7_lackOfAll_5 : decode cX7_lackOfAll 5 = .ok (.aload_n 0, 1) := oq_42 (byt chX7_lackOfAll_0 5 rfl)
theorem dX7_lackOfAll_6 : decode cX7_lackOfAll 6 = .ok (.getfield 39, 3) := oq_180 (byt chX7_lackOfAll_0 6 rfl) (byt chX7_lackOfAll_0 7 rfl) (byt chX7_lackOfAll_0 8 rfl) rfl
theorem dX7_lackOfAll_9 : decode cX7_lackOfAll 9 = .ok (.if_icmp .ge 18, 3) := oq_162 (byt chX7_lackOfAll_0 9 rfl) (byt chX7_lackOfAll_0 10 rfl) (byt chX7_lackOfAll_0 11 rfl) (by decide +kernel)
theorem dX7_lackOfAll_12 : decode cX7_lackOfAll 12 = .ok (.iload_n 2, 1) := oq_28 (byt chX7_lackOfAll_0 12 rfl)
theorem dX7_lackOfAll_13 : decode cX7_lackOfAll 13 = .ok (.aload_n 0, 1) := oq_42 (byt chX7_lackOfAll_0 13 rfl)
theorem dX7_lackOfAll_14 : decode cX7_lackOfAll 14 = .ok (.iload_n 3, 1) := oq_29 (byt chX7_lackOfAll_0 14 rfl)
theorem dX7_lackOfAll_15 : decode cX7_lackOfAll 15 = .ok (.iload_n 1, 1) := oq_27 (byt chX7_lackOfAll_0 15 rfl)
theorem dX7_lackOfAll_16 : decode cX7_lackOfAll 16 = .ok (.invokevirtual 66, 3) := oq_182 (byt chX7_lackOfAll_1 0 rfl) (byt chX7_lackOfAll_1 1 rfl) (byt chX7_lackOfAll_1 2 rfl) rfl
theorem dX7_lackOfAll_19 : decode cX7_lackOfAll 19 = .ok (.iadd, 1) := oq_96 (byt chX7_lackOfAll_1 3 rfl)
theorem dX7_lackOfAll_20 : decode cX7_lackOfAll 20 = .ok (.istore_n 2, 1) := oq_61 (byt chX7_lackOfAll_1 4 rfl)
theorem dX7_lackOfAll_21 : decode cX7_lackOfAll 21 = .ok (.iinc 3 1, 3) := oq_132 (byt chX7_lackOfAll_1 5 rfl) (byt chX7_lackOfAll_1 6 rfl) (byt chX7_lackOfAll_1 7 rfl) rfl
theorem dX7_lackOfAll_24 : decode cX7_lackOfAll 24 = .ok (.goto (-20), 3) := oq_167 (byt chX7_lackOfAll_1 8 rfl) (byt chX7_lackOfAll_1 9 rfl) (byt chX7_lackOfAll_1 10 rfl) (by decide +kernel)
theorem dX7_lackOfAll_27 : decode cX7_lackOfAll 27 = .ok (.iload_n 2, 1) := oq_28 (byt chX7_lackOfAll_1 11 rfl)
theorem dX7_lackOfAll_28 : decode cX7_lackOfAll 28 = .ok (.ireturn, 1) := oq_172 (byt chX7_lackOfAll_1 12 rfl)
abbrev mX7_lackOfAll : MI := (yX7_lackOfAll, cX7_lackOfAll, 4, (some .int), noE)
theorem okX7_lackOfAll : cok mX7_lackOfAll 1 := ⟨tw868, tw3, by decide, by decide, by decide, by decide +kernel⟩
def fX7_lackOfAll (M : Mem) (a0 a1 : Int) : Option Int :=
  iterC (fun (rec1 : (Int × Int) → Option Int) (s2 : Int × Int) => if M.2.1 a0 = 7 then if s2.2 < M.1 a0 0 then ((fX7_lackOf M a0 s2.2 a1).bind fun r5 => rec1 (w32 (s2.1 + r5), w32 (s2.2 + 1))) else (some s2.1) else none) BIG (0, 0)
set_option maxRecDepth 100000 in
set_option maxHeartbeats 4000000 in
theorem kX7_lackOfAll (d : Nat) (hd : 2 ≤ d) (M : Mem) (a0 a1 : Int) : Ct mX7_lackOfAll d 0 0 [pA a0, pI a1] M (dI M) (fX7_lackOfAll M a0 a1) := by
  obtain ⟨d, rfl⟩ : ∃ k, d = k + 1 := ⟨d - 1, by omega⟩
  refine Ct.of 2 (fun _ _ _ => trivial) (by decide +kernel) rfl ?_
  unfold fX7_lackOfAll
  refine v_iconst dX7_lackOfAll_0 (by decide) ?_
  refine v_istore_n (ls' := [some (pA a0), some (pI a1), some (pI 0), none]) dX7_lackOfAll_1 (by decide) rfl ?_
  refine v_iconst dX7_lackOfAll_2 (by decide) ?_
  refine v_istore_n (ls' := [some (pA a0), some (pI a1), some (pI 0), some (pI 0)]) dX7_lackOfAll_3 (by decide) rfl ?_
  refine v_loop (fun (s2 : Int × Int) => [some (pA a0), some (pI a1), some (pI s2.1), some (pI s2.2)]) (fun (s2 : Int × Int) => M) (s0 := (0, 0)) ?_
  intro rec1 hrec1 s2
  refine v_iload_n dX7_lackOfAll_4 rfl ?_
  refine v_aload_n dX7_lackOfAll_5 rfl ?_
  refine v_if (fun h3 => ?_)
  refine v_get (v := pI (M.1 a0 0)) 7 0 rfl inX7 (by decide) tw54 dX7_lackOfAll_6 h3 rfl ?_
  refine v_icmp_ge (tgt := 27) dX7_lackOfAll_9 (by decide) (fun c4 => ?_) (fun c4 => ?_)
  · refine v_iload_n dX7_lackOfAll_12 rfl ?_
    refine v_aload_n dX7_lackOfAll_13 rfl ?_
    refine v_iload_n dX7_lackOfAll_14 rfl ?_
    refine v_iload_n dX7_lackOfAll_15 rfl ?_
    refine v_cV (mi := mX7_lackOfAll) (c0 := 0) (c1 := 0) (As := [pI s2.2, pI a1]) (st := [pI s2.1]) (kX7_lackOf d (by omega) _ _ _ _) rfl h3 rfl okX7_lackOf (Or.inl tw869) tw707 tw708 rfl (Nat.le_of_ble_eq_true rfl) dX7_lackOfAll_16 (fun r5 => [pI r5, pI s2.1]) (fun r5 => M) (fun _ => rfl) (fun _ => rfl) (fun r5 h6 => ?_) rfl
    refine v_iadd dX7_lackOfAll_19 ?_
    refine v_istore_n (ls' := [some (pA a0), some (pI a1), some (pI (w32 (s2.1 + r5))), some (pI s2.2)]) dX7_lackOfAll_20 (by decide) rfl ?_
    refine v_iinc (ls' := [some (pA a0), some (pI a1), some (pI (w32 (s2.1 + r5))), some (pI (w32 (s2.2 + 1)))]) dX7_lackOfAll_21 (by decide) rfl rfl ?_
    refine v_goto (tgt := 4) dX7_lackOfAll_24 (by decide) ?_
    exact hrec1 (w32 (s2.1 + r5), w32 (s2.2 + 1))
  · refine v_iload_n dX7_lackOfAll_27 rfl ?_
    exact v_ireturn dX7_lackOfAll_28 rfl rfl
theorem chX7_limitOfAll_0 : (cX7_limitOfAll.data.toList.drop 0).take 16 = [3, 60, 3, 61, 28, 42, 180, 0, 43, 162, 0, 18, 27, 42, 180, 0] := by decide +kernel
theorem chX7_limitOfAll_1 : (cX7_limitOfAll.data.toList.drop 16).take 16 = [30, 28, 46, 96, 60, 132, 2, 1, 167, 255, 236, 27, 172] := by decide +kernel
theorem dX7_limitOfAll_0 : decode cX7_limitOfAll 0 = .ok (.iconst 0, 1) := oq_3 (byt chX7_limitOfAll_0 0 rfl)
theorem dX7_limitOfAll_1 : decode cX7_limitOfAll 1 = .ok (.istore_n 1, 1) := oq_60 (byt chX7_limitOfAll_0 1 rfl)
theorem dX7_limitOfAll_2 : decode cX7_limitOfAll 2 = .ok (.iconst 0, 1) := oq_3 (byt chX7_limitOfAll_0 2 rfl)
theorem dX7_limitOfAll_3 : decode cX7_limitOfAll 3 = .ok (.istore_n 2, 1) := oq_61 (byt chX7_limitOfAll_0 3 rfl)
theorem dX7_limitOfAll_4 : decode cX7_limitOfAll 4 = .ok (.iload_n 2, 1) := oq_28 (byt chX7_limitOfAll_0 4 rfl)
theorem dX7_limitOfAll_5 : decode cX7_limitOfAll 5 = .ok (.aload_n 0, 1) := oq_42 (byt chX7_limitOfAll_0 5 rfl)
theorem dX7_limitOfAll_6 : decode cX7_limitOfAll 6 = .ok (.getfield 43, 3) := oq_180 (byt chX7_limitOfAll_0 6 rfl) (byt chX7_limitOfAll_0 7 rfl) (byt chX7_limitOfAll_0 8 rfl) rfl
theorem dX7_limitOfAll_9 : decode cX7_limitOfAll 9 = .ok (.if_icmp .ge 18, 3) := oq_162 (byt chX7_limitOfAll_0 9 rfl) (byt chX7_limitOfAll_0 10 rfl) (byt chX7_limitOfAll_0 11 rfl) (by decide +kernel)
theorem dX7_limitOfAll_12 : decode cX7_limitOfAll 12 = .ok (.iload_n 1, 1) := oq_27 (byt chX7_limitOfAll_0 12 rfl)
theorem dX7_limitOfAll_13 : decode cX7_limitOfAll 13 = .ok (.aload_n 0, 1) := oq_42 (byt chX7_limitOfAll_0 13 rfl)
theorem dX7_limitOfAll_14 : decode cX7_limitOfAll 14 = .ok (.getfield 30, 3) := oq_180 (byt chX7_limitOfAll_0 14 rfl) (byt chX7_limitOfAll_0 15 rfl) (byt chX7_limitOfAll_1 0 rfl) rfl
theorem dX7_limitOfAll_17 : decode cX7_limitOfAll 17 = .ok (.iload_n 2, 1) := oq_28 (byt chX7_limitOfAll_1 1 rfl)
theorem dX7_limitOfAll_18 : decode cX7_limitOfAll 18 = .ok (.iaload, 1) := oq_46 (byt chX7_limitOfAll_1 2 rfl)
theorem dX7_limitOfAll_19 : decode cX7_limitOfAll 19 = .ok (.iadd, 1) := oq_96 (byt chX7_limitOfAll_1 3 rfl)
theorem dX7_limitOfAll_20 : decode cX7_limitOfAll 20 = .ok (.istore_n 1, 1) := oq_60 (byt chX7_limitOfAll_1 4 rfl)
theorem dX7_limitOfAll_21 : decode cX7_limitOfAll 21 = .ok (.iinc 2 1, 3) := oq_132 (byt chX7_limitOfAll_1 5 rfl) (byt chX7_limitOfAll_1 6 rfl) (byt chX7_limitOfAll_1 7 rfl) rfl
theorem dX7_limitOfAll_24 : decode cX7_limitOfAll 24 = .ok (.goto (-20), 3) := oq_167 (byt chX7_limitOfAll_1 8 rfl) (byt chX7_limitOfAll_1 9 rfl) (byt chX7_limitOfAll_1 10 rfl) (by decide +kernel)
theorem dX7_limitOfAll_27 : decode cX7_limitOfAll 27 = .ok (.iload_n 1, 1) := oq_27 (byt chX7_limitOfAll_1 11 rfl)
theorem dX7_limitOfAll_28 : decode cX7_limitOfAll 28 = .ok (.ireturn, 1) := oq_172 (byt chX7_limitOfAll_1 12 rfl)
abbrev mX7_limitOfAll : MI := (yX7_limitOfAll, cX7_limitOfAll, 3, (some .int), noE)
theorem okX7_limitOfAll : cok mX7_limitOfAll 0 := ⟨tw882, tw3, by decide, by decide, by decide, by decide +kernel⟩
def fX7_limitOfAll (M : Mem) (a0 : Int) : Option Int :=
  iterC (fun (rec1 : (Int × Int) → Option Int) (s2 : Int × Int) => if M.2.1 a0 = 7 then if s2.2 < M.1 a0 1 then (if M.2.1 (M.1 a0 8) = 12 ∧ (0 : Int) ≤ s2.2 ∧ s2.2 < M.2.2.1 (M.1 a0 8) then rec1 (w32 (s2.1 + (M.1 (M.1 a0 8) s2.2)), w32 (s2.2 + 1)) else none) else (some s2.1) else none) BIG (0, 0)
set_option maxRecDepth 100000 in
set_option maxHeartbeats 4000000 in
theorem kX7_limitOfAll (d : Nat) (hd : 0 ≤ d) (M : Mem) (a0 : Int) : Ct mX7_limitOfAll d 0 0 [pA a0] M (dI M) (fX7_limitOfAll M a0) := by
  refine Ct.of 2 (fun _ _ _ => trivial) (by decide +kernel) rfl ?_
  unfold fX7_limitOfAll
  refine v_iconst dX7_limitOfAll_0 (by decide) ?_
  refine v_istore_n (ls' := [some (pA a0), some (pI 0), none]) dX7_limitOfAll_1 (by decide) rfl ?_
  refine v_iconst dX7_limitOfAll_2 (by decide) ?_
  refine v_istore_n (ls' := [some (pA a0), some (pI 0), some (pI 0)]) dX7_limitOfAll_3 (by decide) rfl ?_
  refine v_loop (fun (s2 : Int × Int) => [some (pA a0), some (pI s2.1), some (pI s2.2)]) (fun (s2 : Int × Int) => M) (s0 := (0, 0)) ?_
  intro rec1 hrec1 s2
  refine v_iload_n dX7_limitOfAll_4 rfl ?_
  refine v_aload_n dX7_limitOfAll_5 rfl ?_
  refine v_if (fun h3 => ?_)
  refine v_get (v := pI (M.1 a0 1)) 7 1 rfl inX7 (by decide) tw61 dX7_limitOfAll_6 h3 rfl ?_
  refine v_icmp_ge (tgt := 27) dX7_limitOfAll_9 (by decide) (fun c4 => ?_) (fun c4 => ?_)
  · refine v_iload_n dX7_limitOfAll_12 rfl ?_
    refine v_aload_n dX7_limitOfAll_13 rfl ?_
    refine v_get (v := pA (M.1 a0 8)) 7 8 rfl inX7 (by decide) tw93 dX7_limitOfAll_14 h3 rfl ?_
    refine v_iload_n dX7_limitOfAll_17 rfl ?_
    refine v_if (fun h5 => ?_)
    refine v_iaload h5 dX7_limitOfAll_18 ?_
    refine v_iadd dX7_limitOfAll_19 ?_
    refine v_istore_n (ls' := [some (pA a0), some (pI (w32 (s2.1 + (M.1 (M.1 a0 8) s2.2)))), some (pI s2.2)]) dX7_limitOfAll_20 (by decide) rfl ?_
    refine v_iinc (ls' := [some (pA a0), some (pI (w32 (s2.1 + (M.1 (M.1 a0 8) s2.2)))), some (pI (w32 (s2.2 + 1)))]) dX7_limitOfAll_21 (by decide) rfl rfl ?_
    refine v_goto (tgt := 4) dX7_limitOfAll_24 (by decide) ?_
    exact hrec1 (w32 (s2.1 + (M.1 (M.1 a0 8) s2.2)), w32 (s2.2 + 1))
  · refine v_iload_n dX7_limitOfAll_27 rfl ?_
    exact v_ireturn dX7_limitOfAll_28 rfl rfl
theorem chX7_worthIn_0 : (cX7_worthIn.data.toList.drop 0).take 16 = [3, 62, 3, 54, 4, 21, 4, 8, 162, 0, 28, 29, 42, 180, 0, 27] := by decide +kernel
theorem chX7_worthIn_1 : (cX7_worthIn.data.toList.drop 16).take 16 = [21, 4, 46, 43, 28, 21, 4, 184, 0, 54, 46, 104, 96, 62, 132, 4] := by decide +kernel
theorem chX7_worthIn_2 : (cX7_worthIn.data.toList.drop 32).take 16 = [1, 167, 255, 228, 29, 172] := by decide +kernel
theorem dX7_worthIn_0 : decode cX7_worthIn 0 = .ok (.iconst 0, 1) := oq_3 (byt chX7_worthIn_0 0 rfl)
theorem dX7_worthIn_1 : decode cX7_worthIn 1 = .ok (.istore_n 3, 1) := oq_62 (byt chX7_worthIn_0 1 rfl)
theorem dX7_worthIn_2 : decode cX7_worthIn 2 = .ok (.iconst 0, 1) := oq_3 (byt chX7_worthIn_0 2 rfl)
theorem dX7_worthIn_3 : decode cX7_worthIn 3 = .ok (.istore 4, 2) := oq_54 (byt chX7_worthIn_0 3 rfl) (byt chX7_worthIn_0 4 rfl) rfl
theorem dX7_worthIn_5 : decode cX7_worthIn 5 = .ok (.iload 4, 2) := oq_21 (byt chX7_worthIn_0 5 rfl) (byt chX7_worthIn_0 6 rfl) rfl
theorem dX7_worthIn_7 : decode cX7_worthIn 7 = .ok (.iconst 5, 1) := oq_8 (byt chX7_worthIn_0 7 rfl)
theorem dX7_worthIn_8 : decode cX7_worthIn 8 = .ok (.if_icmp .ge 28, 3) := oq_162 (byt chX7_worthIn_0 8 rfl) (byt chX7_worthIn_0 9 rfl) (byt chX7_worthIn_0 10 rfl) (by decide +kernel)
theorem dX7_worthIn_11 : decode cX7_worthIn 11 = .ok (.iload_n 3, 1) := oq_29 (byt chX7_worthIn_0 11 rfl)
theorem dX7_worthIn_12 : decode cX7_worthIn 12 = .ok (.aload_n 0, 1) := oq_42 (byt chX7_worthIn_0 12 rfl)
theorem dX7_worthIn_13 : decode cX7_worthIn 13 = .ok (.getfield 27, 3) := oq_180 (byt chX7_worthIn_0 13 rfl) (byt chX7_worthIn_0 14 rfl) (byt chX7_worthIn_0 15 rfl) rfl
theorem dX7_worthIn_16 : decode cX7_worthIn 16 = .ok (.iload 4, 2) := oq_21 (byt chX7_worthIn_1 0 rfl) (byt chX7_worthIn_1 1 rfl) rfl
theorem dX7_worthIn_18 : decode cX7_worthIn 18 = .ok (.iaload, 1) := oq_46 (byt chX7_worthIn_1 2 rfl)
theorem dX7_worthIn_19 : decode cX7_worthIn 19 = .ok (.aload_n 1, 1) := oq_43 (byt chX7_worthIn_1 3 rfl)
theorem dX7_worthIn_20 : decode cX7_worthIn 20 = .ok (.iload_n 2, 1) := oq_28 (byt chX7_worthIn_1 4 rfl)
theorem dX7_worthIn_21 : decode cX7_worthIn 21 = .ok (.iload 4, 2) := oq_21 (byt chX7_worthIn_1 5 rfl) (byt chX7_worthIn_1 6 rfl) rfl
theorem dX7_worthIn_23 : decode cX7_worthIn 23 = .ok (.invokestatic 54, 3) := oq_184 (byt chX7_worthIn_1 7 rfl) (byt chX7_worthIn_1 8 rfl) (byt chX7_worthIn_1 9 rfl) rfl
theorem dX7_worthIn_26 : decode cX7_worthIn 26 = .ok (.iaload, 1) := oq_46 (byt chX7_worthIn_1 10 rfl)
theorem dX7_worthIn_27 : decode cX7_worthIn 27 = .ok (.imul, 1) := oq_104 (byt chX7_worthIn_1 11 rfl)
theorem dX7_worthIn_28 : decode cX7_worthIn 28 = .ok (.iadd, 1) := oq_96 (byt chX7_worthIn_1 12 rfl)
theorem dX7_worthIn_29 : decode cX7_worthIn 29 = .ok (.istore_n 3, 1) := oq_62 (byt chX7_worthIn_1 13 rfl)
theorem dX7_worthIn_30 : decode cX7_worthIn 30 = .ok (.iinc 4 1, 3) := oq_132 (byt chX7_worthIn_1 14 rfl) (byt chX7_worthIn_1 15 rfl) (byt chX7_worthIn_2 0 rfl) rfl
theorem dX7_worthIn_33 : decode cX7_worthIn 33 = .ok (.goto (-28), 3) := oq_167 (byt chX7_worthIn_2 1 rfl) (byt chX7_worthIn_2 2 rfl) (byt chX7_worthIn_2 3 rfl) (by decide +kernel)
theorem dX7_worthIn_36 : decode cX7_worthIn 36 = .ok (.iload_n 3, 1) := oq_29 (byt chX7_worthIn_2 4 rfl)
theorem dX7_worthIn_37 : decode cX7_worthIn 37 = .ok (.ireturn, 1) := oq_172 (byt chX7_worthIn_2 5 rfl)
abbrev mX7_worthIn : MI := (yX7_worthIn, cX7_worthIn, 5, (some .int), noE)
theorem okX7_worthIn : cok mX7_worthIn 2 := ⟨tw1018, tw3, by decide, by decide, by decide, by decide +kernel⟩
def fX7_worthIn (M : Mem) (a0 a1 a2 : Int) : Option Int :=
  iterC (fun (rec1 : (Int × Int) → Option Int) (s2 : Int × Int) => if s2.2 < 5 then (if M.2.1 a0 = 7 then if M.2.1 (M.1 a0 7) = 12 ∧ (0 : Int) ≤ s2.2 ∧ s2.2 < M.2.2.1 (M.1 a0 7) then (fX10_cell M a2 s2.2).bind fun r6 => if M.2.1 a1 = 12 ∧ (0 : Int) ≤ r6 ∧ r6 < M.2.2.1 a1 then rec1 (w32 (s2.1 + (w32 ((M.1 (M.1 a0 7) s2.2) * (M.1 a1 r6)))), w32 (s2.2 + 1)) else none else none else none) else (some s2.1)) BIG (0, 0)
set_option maxRecDepth 100000 in
set_option maxHeartbeats 4000000 in
theorem kX7_worthIn (d : Nat) (hd : 1 ≤ d) (M : Mem) (a0 a1 a2 : Int) : Ct mX7_worthIn d 0 0 [pA a0, pA a1, pI a2] M (dI M) (fX7_worthIn M a0 a1 a2) := by
  obtain ⟨d, rfl⟩ : ∃ k, d = k + 1 := ⟨d - 1, by omega⟩
  refine Ct.of 2 (fun _ _ _ => trivial) (by decide +kernel) rfl ?_
  unfold fX7_worthIn
  refine v_iconst dX7_worthIn_0 (by decide) ?_
  refine v_istore_n (ls' := [some (pA a0), some (pA a1), some (pI a2), some (pI 0), none]) dX7_worthIn_1 (by decide) rfl ?_
  refine v_iconst dX7_worthIn_2 (by decide) ?_
  refine v_istore (ls' := [some (pA a0), some (pA a1), some (pI a2), some (pI 0), some (pI 0)]) dX7_worthIn_3 (by decide) rfl ?_
  refine v_loop (fun (s2 : Int × Int) => [some (pA a0), some (pA a1), some (pI a2), some (pI s2.1), some (pI s2.2)]) (fun (s2 : Int × Int) => M) (s0 := (0, 0)) ?_
  intro rec1 hrec1 s2
  refine v_iload dX7_worthIn_5 rfl ?_
  refine v_iconst dX7_worthIn_7 (by decide) ?_
  refine v_icmp_ge (tgt := 36) dX7_worthIn_8 (by decide) (fun c3 => ?_) (fun c3 => ?_)
  · refine v_iload_n dX7_worthIn_11 rfl ?_
    refine v_aload_n dX7_worthIn_12 rfl ?_
    refine v_if (fun h4 => ?_)
    refine v_get (v := pA (M.1 a0 7)) 7 7 rfl inX7 (by decide) tw89 dX7_worthIn_13 h4 rfl ?_
    refine v_iload dX7_worthIn_16 rfl ?_
    refine v_if (fun h5 => ?_)
    refine v_iaload h5 dX7_worthIn_18 ?_
    refine v_aload_n dX7_worthIn_19 rfl ?_
    refine v_iload_n dX7_worthIn_20 rfl ?_
    refine v_iload dX7_worthIn_21 rfl ?_
    refine v_cS (mi := mX7_worthIn) (c0 := 0) (c1 := 0) (As := [pI a2, pI s2.2]) (st := [pA a1, pI (M.1 (M.1 a0 7) s2.2), pI s2.1]) (kX10_cell d (by omega) _ _ _) okX10_cell (Or.inr nw12) tw621 rfl (Nat.le_of_ble_eq_true rfl) dX7_worthIn_23 (fun r6 => [pI r6, pA a1, pI (M.1 (M.1 a0 7) s2.2), pI s2.1]) (fun r6 => M) (fun _ => rfl) (fun _ => rfl) (fun r6 h7 => ?_) rfl
    refine v_if (fun h8 => ?_)
    refine v_iaload h8 dX7_worthIn_26 ?_
    refine v_imul dX7_worthIn_27 ?_
    refine v_iadd dX7_worthIn_28 ?_
    refine v_istore_n (ls' := [some (pA a0), some (pA a1), some (pI a2), some (pI (w32 (s2.1 + (w32 ((M.1 (M.1 a0 7) s2.2) * (M.1 a1 r6)))))), some (pI s2.2)]) dX7_worthIn_29 (by decide) rfl ?_
    refine v_iinc (ls' := [some (pA a0), some (pA a1), some (pI a2), some (pI (w32 (s2.1 + (w32 ((M.1 (M.1 a0 7) s2.2) * (M.1 a1 r6)))))), some (pI (w32 (s2.2 + 1)))]) dX7_worthIn_30 (by decide) rfl rfl ?_
    refine v_goto (tgt := 5) dX7_worthIn_33 (by decide) ?_
    exact hrec1 (w32 (s2.1 + (w32 ((M.1 (M.1 a0 7) s2.2) * (M.1 a1 r6)))), w32 (s2.2 + 1))
  · refine v_iload_n dX7_worthIn_36 rfl ?_
    exact v_ireturn dX7_worthIn_37 rfl rfl
theorem chX7_evenOut_0 : (cX7_evenOut.data.toList.drop 0).take 16 = [42, 180, 0, 39, 4, 162, 0, 5, 3, 172, 3, 61, 3, 62, 29, 42] := by decide +kernel
theorem chX7_evenOut_1 : (cX7_evenOut.data.toList.drop 16).take 16 = [180, 0, 39, 162, 0, 22, 28, 42, 180, 0, 9, 29, 27, 184, 0, 54] := by decide +kernel
theorem chX7_evenOut_2 : (cX7_evenOut.data.toList.drop 32).take 16 = [46, 96, 61, 132, 3, 1, 167, 255, 232, 28, 42, 180, 0, 39, 108, 62] := by decide +kernel
theorem chX7_evenOut_3 : (cX7_evenOut.data.toList.drop 48).take 16 = [3, 54, 4, 3, 54, 5, 3, 54, 6, 21, 6, 42, 180, 0, 39, 162] := by decide +kernel
theorem chX7_evenOut_4 : (cX7_evenOut.data.toList.drop 64).take 16 = [0, 45, 42, 180, 0, 9, 21, 6, 27, 184, 0, 54, 46, 29, 164, 0] := by decide +kernel
theorem chX7_evenOut_5 : (cX7_evenOut.data.toList.drop 80).take 16 = [24, 21, 4, 42, 180, 0, 9, 21, 6, 27, 184, 0, 54, 46, 29, 100] := by decide +kernel
theorem chX7_evenOut_6 : (cX7_evenOut.data.toList.drop 96).take 16 = [96, 54, 4, 132, 5, 1, 132, 6, 1, 167, 255, 208, 21, 4, 21, 5] := by decide +kernel
theorem chX7_evenOut_7 : (cX7_evenOut.data.toList.drop 112).take 16 = [28, 42, 180, 0, 39, 112, 184, 0, 69, 100, 172] := by decide +kernel
theorem dX7_evenOut_0 : decode cX7_evenOut 0 = .ok (.aload_n 0, 1) := oq_42 (byt chX7_evenOut_0 0 rfl)
theorem dX7_evenOut_1 : decode cX7_evenOut 1 = .ok (.getfield 39, 3) := oq_180 (byt chX7_evenOut_0 1 rfl) (byt chX7_evenOut_0 2 rfl) (byt chX7_evenOut_0 3 rfl) rfl
theorem dX7_evenOut_4 : decode cX7_evenOut 4 = .ok (.iconst 1, 1) := oq_4 (byt chX7_evenOut_0 4 rfl)
theorem dX7_evenOut_5 : decode cX7_evenOut 5 = .ok (.if_icmp .ge 5, 3) := oq_162 (byt chX7_evenOut_0 5 rfl) (byt chX7_evenOut_0 6 rfl) (byt chX7_evenOut_0 7 rfl) (by decide +kernel)
theorem dX7_evenOut_8 : decode cX7_evenOut 8 = .ok (.iconst 0, 1) := oq_3 (byt chX7_evenOut_0 8 rfl)
theorem dX7_evenOut_9 : decode cX7_evenOut 9 = .ok (.ireturn, 1) := oq_172 (byt chX7_evenOut_0 9 rfl)
theorem dX7_evenOut_10 : decode cX7_evenOut 10 = .ok (.iconst 0, 1) := oq_3 (byt chX7_evenOut_0 10 rfl)
theorem dX7_evenOut_11 : decode cX7_evenOut 11 = .ok (.istore_n 2, 1) := oq_61 (byt chX7_evenOut_0 11 rfl)
theorem dX7_evenOut_12 : decode cX7_evenOut 12 = .ok (.iconst 0, 1) := oq_3 (byt chX7_evenOut_0 12 rfl)
theorem dX7_evenOut_13 : decode cX7_evenOut 13 = .ok (.istore_n 3, 1) := oq_62 (byt chX7_evenOut_0 13 rfl)
theorem dX7_evenOut_14 : decode cX7_evenOut 14 = .ok (.iload_n 3, 1) := oq_29 (byt chX7_evenOut_0 14 rfl)
theorem dX7_evenOut_15 : decode cX7_evenOut 15 = .ok (.aload_n 0, 1) := oq_42 (byt chX7_evenOut_0 15 rfl)
theorem dX7_evenOut_16 : decode cX7_evenOut 16 = .ok (.getfield 39, 3) := oq_180 (byt chX7_evenOut_1 0 rfl) (byt chX7_evenOut_1 1 rfl) (byt chX7_evenOut_1 2 rfl) rfl
theorem dX7_evenOut_19 : decode cX7_evenOut 19 = .ok (.if_icmp .ge 22, 3) := oq_162 (byt chX7_evenOut_1 3 rfl) (byt chX7_evenOut_1 4 rfl) (byt chX7_evenOut_1 5 rfl) (by decide +kernel)
theorem dX7_evenOut_22 : decode cX7_evenOut 22 = .ok (.iload_n 2, 1) := oq_28 (byt chX7_evenOut_1 6 rfl)
theorem dX7_evenOut_23 : decode cX7_evenOut 23 = .ok (.aload_n 0, 1) := oq_42 (byt chX7_evenOut_1 7 rfl)
theorem dX7_evenOut_24 : decode cX7_evenOut 24 = .ok (.getfield 9, 3) := oq_180 (byt chX7_evenOut_1 8 rfl) (byt chX7_evenOut_1 9 rfl) (byt chX7_evenOut_1 10 rfl) rfl
theorem dX7_evenOut_27 : decode cX7_evenOut 27 = .ok (.iload_n 3, 1) := oq_29 (byt chX7_evenOut_1 11 rfl)
theorem dX7_evenOut_28 : decode cX7_evenOut 28 = .ok (.iload_n 1, 1) := oq_27 (byt chX7_evenOut_1 12 rfl)
theorem dX7_evenOut_29 : decode cX7_evenOut 29 = .ok (.invokestatic 54, 3) := oq_184 (byt chX7_evenOut_1 13 rfl) (byt chX7_evenOut_1 14 rfl) (byt chX7_evenOut_1 15 rfl) rfl
theorem dX7_evenOut_32 : decode cX7_evenOut 32 = .ok (.iaload, 1) := oq_46 (byt chX7_evenOut_2 0 rfl)
theorem dX7_evenOut_33 : decode cX7_evenOut 33 = .ok (.iadd, 1) := oq_96 (byt chX7_evenOut_2 1 rfl)
theorem dX7_evenOut_34 : decode cX7_evenOut 34 = .ok (.istore_n 2, 1) := oq_61 (byt chX7_evenOut_2 2 rfl)
theorem dX7_evenOut_35 : decode cX7_evenOut 35 = .ok (.iinc 3 1, 3) := oq_132 (byt chX7_evenOut_2 3 rfl) (byt chX7_evenOut_2 4 rfl) (byt chX7_evenOut_2 5 rfl) rfl
theorem dX7_evenOut_38 : decode cX7_evenOut 38 = .ok (.goto (-24), 3) := oq_167 (byt chX7_evenOut_2 6 rfl) (byt chX7_evenOut_2 7 rfl) (byt chX7_evenOut_2 8 rfl) (by decide +kernel)
theorem dX7_evenOut_41 : decode cX7_evenOut 41 = .ok (.iload_n 2, 1) := oq_28 (byt chX7_evenOut_2 9 rfl)
theorem dX7_evenOut_42 : decode cX7_evenOut 42 = .ok (.aload_n 0, 1) := oq_42 (byt chX7_evenOut_2 10 rfl)
theorem dX7_evenOut_43 : decode cX7_evenOut 43 = .ok (.getfield 39, 3) := oq_180 (byt chX7_evenOut_2 11 rfl) (byt chX7_evenOut_2 12 rfl) (byt chX7_evenOut_2 13 rfl) rfl
theorem dX7_evenOut_46 : decode cX7_evenOut 46 = .ok (.idiv, 1) := oq_108 (byt chX7_evenOut_2 14 rfl)
theorem dX7_evenOut_47 : decode cX7_evenOut 47 = .ok (.istore_n 3, 1) := oq_62 (byt chX7_evenOut_2 15 rfl)
theorem dX7_evenOut_48 : decode cX7_evenOut 48 = .ok (.iconst 0, 1) := oq_3 (byt chX7_evenOut_3 0 rfl)
theorem dX7_evenOut_49 : decode cX7_evenOut 49 = .ok (.istore 4, 2) := oq_54 (byt chX7_evenOut_3 1 rfl) (byt chX7_evenOut_3 2 rfl) rfl
theorem dX7_evenOut_51 : decode cX7_evenOut 51 = .ok (.iconst 0, 1) := oq_3 (byt chX7_evenOut_3 3 rfl)
theorem dX7_evenOut_52 : decode cX7_evenOut 52 = .ok (.istore 5, 2) := oq_54 (byt chX7_evenOut_3 4 rfl) (byt chX7_evenOut_3 5 rfl) rfl
theorem dX7_evenOut_54 : decode cX7_evenOut 54 = .ok (.iconst 0, 1) := oq_3 (byt chX7_evenOut_3 6 rfl)
theorem dX7_evenOut_55 : decode cX7_evenOut 55 = .ok (.istore 6, 2) := oq_54 (byt chX7_evenOut_3 7 rfl) (byt chX7_evenOut_3 8 rfl) rfl
theorem dX7_evenOut_57 : decode cX7_evenOut 57 = .ok (.iload 6, 2) := oq_21 (byt chX7_evenOut_3 9 rfl) (byt chX7_evenOut_3 10 rfl) rfl
theorem dX7_evenOut_59 : decode cX7_evenOut 59 = .ok (.aload_n 0, 1) := oq_42 (byt chX7_evenOut_3 11 rfl)
theorem dX7_evenOut_60 : decode cX7_evenOut 60 = .ok (.getfield 39, 3) := oq_180 (byt chX7_evenOut_3 12 rfl) (byt chX7_evenOut_3 13 rfl) (byt chX7_evenOut_3 14 rfl) rfl
theorem dX7_evenOut_63 : decode cX7_evenOut 63 = .ok (.if_icmp .ge 45, 3) := oq_162 (byt chX7_evenOut_3 15 rfl) (byt chX7_evenOut_4 0 rfl) (byt chX7_evenOut_4 1 rfl) (by decide +kernel)
theorem dX7_evenOut_66 : decode cX7_evenOut 66 = .ok (.aload_n 0, 1) := oq_42 (byt chX7_evenOut_4 2 rfl)
theorem dX7_evenOut_67 : decode cX7_evenOut 67 = .ok (.getfield 9, 3) := oq_180 (byt chX7_evenOut_4 3 rfl) (byt chX7_evenOut_4 4 rfl) (byt chX7_evenOut_4 5 rfl) rfl
theorem dX7_evenOut_70 : decode cX7_evenOut 70 = .ok (.iload 6, 2) := oq_21 (byt chX7_evenOut_4 6 rfl) (byt chX7_evenOut_4 7 rfl) rfl
theorem dX7_evenOut_72 : decode cX7_evenOut 72 = .ok (.iload_n 1, 1) := oq_27 (byt chX7_evenOut_4 8 rfl)
theorem dX7_evenOut_73 : decode cX7_evenOut 73 = .ok (.invokestatic 54, 3) := oq_184 (byt chX7_evenOut_4 9 rfl) (byt chX7_evenOut_4 10 rfl) (byt chX7_evenOut_4 11 rfl) rfl
theorem dX7_evenOut_76 : decode cX7_evenOut 76 = .ok (.iaload, 1) := oq_46 (byt chX7_evenOut_4 12 rfl)
theorem dX7_evenOut_77 : decode cX7_evenOut 77 = .ok (.iload_n 3, 1) := oq_29 (byt chX7_evenOut_4 13 rfl)
theorem dX7_evenOut_78 : decode cX7_evenOut 78 = .ok (.if_icmp .le 24, 3) := oq_164 (byt chX7_evenOut_4 14 rfl) (byt chX7_evenOut_4 15 rfl) (byt chX7_evenOut_5 0 rfl) (by decide +kernel)
theorem dX7_evenOut_81 : decode cX7_evenOut 81 = .ok (.iload 4, 2) := oq_21 (byt chX7_evenOut_5 1 rfl) (byt chX7_evenOut_5 2 rfl) rfl
theorem dX7_evenOut_83 : decode cX7_evenOut 83 = .ok (.aload_n 0, 1) := oq_42 (byt chX7_evenOut_5 3 rfl)
theorem dX7_evenOut_84 : decode cX7_evenOut 84 = .ok (.getfield 9, 3) := oq_180 (byt chX7_evenOut_5 4 rfl) (byt chX7_evenOut_5 5 rfl) (byt chX7_evenOut_5 6 rfl) rfl
theorem dX7_evenOut_87 : decode cX7_evenOut 87 = .ok (.iload 6, 2) := oq_21 (byt chX7_evenOut_5 7 rfl) (byt chX7_evenOut_5 8 rfl) rfl
theorem dX7_evenOut_89 : decode cX7_evenOut 89 = .ok (.iload_n 1, 1) := oq_27 (byt chX7_evenOut_5 9 rfl)
theorem dX7_evenOut_90 : decode cX7_evenOut 90 = .ok (.invokestatic 54, 3) := oq_184 (byt chX7_evenOut_5 10 rfl) (byt chX7_evenOut_5 11 rfl) (byt chX7_evenOut_5 12 rfl) rfl
theorem dX7_evenOut_93 : decode cX7_evenOut 93 = .ok (.iaload, 1) := oq_46 (byt chX7_evenOut_5 13 rfl)
theorem dX7_evenOut_94 : decode cX7_evenOut 94 = .ok (.iload_n 3, 1) := oq_29 (byt chX7_evenOut_5 14 rfl)
theorem dX7_evenOut_95 : decode cX7_evenOut 95 = .ok (.isub, 1) := oq_100 (byt chX7_evenOut_5 15 rfl)
theorem dX7_evenOut_96 : decode cX7_evenOut 96 = .ok (.iadd, 1) := oq_96 (byt chX7_evenOut_6 0 rfl)
theorem dX7_evenOut_97 : decode cX7_evenOut 97 = .ok (.istore 4, 2) := oq_54 (byt chX7_evenOut_6 1 rfl) (byt chX7_evenOut_6 2 rfl) rfl
theorem dX7_evenOut_99 : decode cX7_evenOut 99 = .ok (.iinc 5 1, 3) := oq_132 (byt chX7_evenOut_6 3 rfl) (byt chX7_evenOut_6 4 rfl) (byt chX7_evenOut_6 5 rfl) rfl
theorem dX7_evenOut_102 : decode cX7_evenOut 102 = .ok (.iinc 6 1, 3) := oq_132 (byt chX7_evenOut_6 6 rfl) (byt chX7_evenOut_6 7 rfl) (byt chX7_evenOut_6 8 rfl) rfl
theorem dX7_evenOut_105 : decode cX7_evenOut 105 = .ok (.goto (-48), 3) := oq_167 (byt chX7_evenOut_6 9 rfl) (byt chX7_evenOut_6 10 rfl) (byt chX7_evenOut_6 11 rfl) (by decide +kernel)
theorem dX7_evenOut_108 : decode cX7_evenOut 108 = .ok (.iload 4, 2) := oq_21 (byt chX7_evenOut_6 12 rfl) (byt chX7_evenOut_6 13 rfl) rfl
theorem dX7_evenOut_110 : decode cX7_evenOut 110 = .ok (.iload 5, 2) := oq_21 (byt chX7_evenOut_6 14 rfl) (byt chX7_evenOut_6 15 rfl) rfl
theorem dX7_evenOut_112 : decode cX7_evenOut 112 = .ok (.iload_n 2, 1) := oq_28 (byt chX7_evenOut_7 0 rfl)
theorem dX7_evenOut_113 : decode cX7_evenOut 113 = .ok (.aload_n 0, 1) := oq_42 (byt chX7_evenOut_7 1 rfl)
theorem dX7_evenOut_114 : decode cX7_evenOut 114 = .ok (.getfield 39, 3) := oq_180 (byt chX7_evenOut_7 2 rfl) (byt chX7_evenOut_7 3 rfl) (byt chX7_evenOut_7 4 rfl) rfl
theorem dX7_evenOut_117 : decode cX7_evenOut 117 = .ok (.irem, 1) := oq_112 (byt chX7_evenOut_7 5 rfl)
theorem dX7_evenOut_118 : decode cX7_evenOut 118 = .ok (.invokestatic 69, 3) := oq_184 (byt chX7_evenOut_7 6 rfl) (byt chX7_evenOut_7 7 rfl) (byt chX7_evenOut_7 8 rfl) rfl
theorem dX7_evenOut_121 : decode cX7_evenOut 121 = .ok (.isub, 1) := oq_100 (byt chX7_evenOut_7 9 rfl)
theorem dX7_evenOut_122 : decode cX7_evenOut 122 = .ok (.ireturn, 1) := oq_172 (byt chX7_evenOut_7 10 rfl)
abbrev mX7_evenOut : MI := (yX7_evenOut, cX7_evenOut, 7, (some .int), noE)
theorem okX7_evenOut : cok mX7_evenOut 1 := ⟨tw1048, tw3, by decide, by decide, by decide, by decide +kernel⟩
def fX7_evenOut (M : Mem) (a0 a1 : Int) : Option Int :=
  if M.2.1 a0 = 7 then if M.1 a0 0 < 1 then (some 0) else (iterC (fun (rec3 : (Int × Int) → Option Int) (s4 : Int × Int) => if s4.2 < M.1 a0 0 then ((fX10_cell M s4.2 a1).bind fun r6 => if M.2.1 (M.1 a0 2) = 12 ∧ (0 : Int) ≤ r6 ∧ r6 < M.2.2.1 (M.1 a0 2) then rec3 (w32 (s4.1 + (M.1 (M.1 a0 2) r6)), w32 (s4.2 + 1)) else none) else (if (M.1 a0 0) ≠ 0 then iterC (fun (rec10 : (Int × Int × Int) → Option Int) (s11 : Int × Int × Int) => if s11.2.2 < M.1 a0 0 then ((fX10_cell M s11.2.2 a1).bind fun r13 => if M.2.1 (M.1 a0 2) = 12 ∧ (0 : Int) ≤ r13 ∧ r13 < M.2.2.1 (M.1 a0 2) then if w32 (s4.1.tdiv (M.1 a0 0)) < M.1 (M.1 a0 2) r13 then ((fX10_cell M s11.2.2 a1).bind fun r17 => if M.2.1 (M.1 a0 2) = 12 ∧ (0 : Int) ≤ r17 ∧ r17 < M.2.2.1 (M.1 a0 2) then rec10 (w32 (s11.1 + (w32 ((M.1 (M.1 a0 2) r17) - (w32 (s4.1.tdiv (M.1 a0 0)))))), w32 (s11.2.1 + 1), w32 (s11.2.2 + 1)) else none) else (rec10 (s11.1, s11.2.1, w32 (s11.2.2 + 1))) else none) else (if (M.1 a0 0) ≠ 0 then some (w32 (s11.1 - (imin s11.2.1 (s4.1.tmod (M.1 a0 0))))) else none)) BIG (0, 0, 0) else none)) BIG (0, 0)) else none
set_option maxRecDepth 100000 in
set_option maxHeartbeats 4000000 in
theorem kX7_evenOut (d : Nat) (hd : 1 ≤ d) (M : Mem) (a0 a1 : Int) : Ct mX7_evenOut d 0 0 [pA a0, pI a1] M (dI M) (fX7_evenOut M a0 a1) := by
  obtain ⟨d, rfl⟩ : ∃ k, d = k + 1 := ⟨d - 1, by omega⟩
  refine Ct.of 5 (fun _ _ _ => trivial) (by decide +kernel) rfl ?_
  unfold fX7_evenOut
  refine v_aload_n dX7_evenOut_0 rfl ?_
  refine v_if (fun h1 => ?_)
  refine v_get (v := pI (M.1 a0 0)) 7 0 rfl inX7 (by decide) tw54 dX7_evenOut_1 h1 rfl ?_
  refine v_iconst dX7_evenOut_4 (by decide) ?_
  refine v_icmp_ge (tgt := 10) dX7_evenOut_5 (by decide) (fun c2 => ?_) (fun c2 => ?_)
  · refine v_iconst dX7_evenOut_8 (by decide) ?_
    exact v_ireturn dX7_evenOut_9 rfl rfl
  · refine v_iconst dX7_evenOut_10 (by decide) ?_
    refine v_istore_n (ls' := [some (pA a0), some (pI a1), some (pI 0), none, none, none, none]) dX7_evenOut_11 (by decide) rfl ?_
    refine v_iconst dX7_evenOut_12 (by decide) ?_
    refine v_istore_n (ls' := [some (pA a0), some (pI a1), some (pI 0), some (pI 0), none, none, none]) dX7_evenOut_13 (by decide) rfl ?_
    refine v_loop (fun (s4 : Int × Int) => [some (pA a0), some (pI a1), some (pI s4.1), some (pI s4.2), none, none, none]) (fun (s4 : Int × Int) => M) (s0 := (0, 0)) ?_
    intro rec3 hrec3 s4
    refine v_iload_n dX7_evenOut_14 rfl ?_
    refine v_aload_n dX7_evenOut_15 rfl ?_
    refine v_get (v := pI (M.1 a0 0)) 7 0 rfl inX7 (by decide) tw54 dX7_evenOut_16 h1 rfl ?_
    refine v_icmp_ge (tgt := 41) dX7_evenOut_19 (by decide) (fun c5 => ?_) (fun c5 => ?_)
    · refine v_iload_n dX7_evenOut_22 rfl ?_
      refine v_aload_n dX7_evenOut_23 rfl ?_
      refine v_get (v := pA (M.1 a0 2)) 7 2 rfl inX7 (by decide) tw66 dX7_evenOut_24 h1 rfl ?_
      refine v_iload_n dX7_evenOut_27 rfl ?_
      refine v_iload_n dX7_evenOut_28 rfl ?_
      refine v_cS (mi := mX7_evenOut) (c0 := 0) (c1 := 0) (As := [pI s4.2, pI a1]) (st := [pA (M.1 a0 2), pI s4.1]) (kX10_cell d (by omega) _ _ _) okX10_cell (Or.inr nw12) tw621 rfl (Nat.le_of_ble_eq_true rfl) dX7_evenOut_29 (fun r6 => [pI r6, pA (M.1 a0 2), pI s4.1]) (fun r6 => M) (fun _ => rfl) (fun _ => rfl) (fun r6 h7 => ?_) rfl
      refine v_if (fun h8 => ?_)
      refine v_iaload h8 dX7_evenOut_32 ?_
      refine v_iadd dX7_evenOut_33 ?_
      refine v_istore_n (ls' := [some (pA a0), some (pI a1), some (pI (w32 (s4.1 + (M.1 (M.1 a0 2) r6)))), some (pI s4.2), none, none, none]) dX7_evenOut_34 (by decide) rfl ?_
      refine v_iinc (ls' := [some (pA a0), some (pI a1), some (pI (w32 (s4.1 + (M.1 (M.1 a0 2) r6)))), some (pI (w32 (s4.2 + 1))), none, none, none]) dX7_evenOut_35 (by decide) rfl rfl ?_
      refine v_goto (tgt := 14) dX7_evenOut_38 (by decide) ?_
      exact hrec3 (w32 (s4.1 + (M.1 (M.1 a0 2) r6)), w32 (s4.2 + 1))
    · refine v_iload_n dX7_evenOut_41 rfl ?_
      refine v_aload_n dX7_evenOut_42 rfl ?_
      refine v_get (v := pI (M.1 a0 0)) 7 0 rfl inX7 (by decide) tw54 dX7_evenOut_43 h1 rfl ?_
      refine v_if (fun h9 => ?_)
      refine v_idiv h9 dX7_evenOut_46 ?_
      refine v_istore_n (ls' := [some (pA a0), some (pI a1), some (pI s4.1), some (pI (w32 (s4.1.tdiv (M.1 a0 0)))), none, none, none]) dX7_evenOut_47 (by decide) rfl ?_
      refine v_iconst dX7_evenOut_48 (by decide) ?_
      refine v_istore (ls' := [some (pA a0), some (pI a1), some (pI s4.1), some (pI (w32 (s4.1.tdiv (M.1 a0 0)))), some (pI 0), none, none]) dX7_evenOut_49 (by decide) rfl ?_
      refine v_iconst dX7_evenOut_51 (by decide) ?_
      refine v_istore (ls' := [some (pA a0), some (pI a1), some (pI s4.1), some (pI (w32 (s4.1.tdiv (M.1 a0 0)))), some (pI 0), some (pI 0), none]) dX7_evenOut_52 (by decide) rfl ?_
      refine v_iconst dX7_evenOut_54 (by decide) ?_
      refine v_istore (ls' := [some (pA a0), some (pI a1), some (pI s4.1), some (pI (w32 (s4.1.tdiv (M.1 a0 0)))), some (pI 0), some (pI 0), some (pI 0)]) dX7_evenOut_55 (by decide) rfl ?_
      refine v_loop (fun (s11 : Int × Int × Int) => [some (pA a0), some (pI a1), some (pI s4.1), some (pI (w32 (s4.1.tdiv (M.1 a0 0)))), some (pI s11.1), some (pI s11.2.1), some (pI s11.2.2)]) (fun (s11 : Int × Int × Int) => M) (s0 := (0, 0, 0)) ?_
      intro rec10 hrec10 s11
      refine v_iload dX7_evenOut_57 rfl ?_
      refine v_aload_n dX7_evenOut_59 rfl ?_
      refine v_get (v := pI (M.1 a0 0)) 7 0 rfl inX7 (by decide) tw54 dX7_evenOut_60 h1 rfl ?_
      refine v_icmp_ge (tgt := 108) dX7_evenOut_63 (by decide) (fun c12 => ?_) (fun c12 => ?_)
      · refine v_aload_n dX7_evenOut_66 rfl ?_
        refine v_get (v := pA (M.1 a0 2)) 7 2 rfl inX7 (by decide) tw66 dX7_evenOut_67 h1 rfl ?_
        refine v_iload dX7_evenOut_70 rfl ?_
        refine v_iload_n dX7_evenOut_72 rfl ?_
        refine v_cS (mi := mX7_evenOut) (c0 := 0) (c1 := 0) (As := [pI s11.2.2, pI a1]) (st := [pA (M.1 a0 2)]) (kX10_cell d (by omega) _ _ _) okX10_cell (Or.inr nw12) tw621 rfl (Nat.le_of_ble_eq_true rfl) dX7_evenOut_73 (fun r13 => [pI r13, pA (M.1 a0 2)]) (fun r13 => M) (fun _ => rfl) (fun _ => rfl) (fun r13 h14 => ?_) rfl
        refine v_if (fun h15 => ?_)
        refine v_iaload h15 dX7_evenOut_76 ?_
        refine v_iload_n dX7_evenOut_77 rfl ?_
        refine v_icmp_le (tgt := 102) dX7_evenOut_78 (by decide) (fun c16 => ?_) (fun c16 => ?_)
        · refine v_iload dX7_evenOut_81 rfl ?_
          refine v_aload_n dX7_evenOut_83 rfl ?_
          refine v_get (v := pA (M.1 a0 2)) 7 2 rfl inX7 (by decide) tw66 dX7_evenOut_84 h1 rfl ?_
          refine v_iload dX7_evenOut_87 rfl ?_
          refine v_iload_n dX7_evenOut_89 rfl ?_
          refine v_cS (mi := mX7_evenOut) (c0 := 0) (c1 := 0) (As := [pI s11.2.2, pI a1]) (st := [pA (M.1 a0 2), pI s11.1]) (kX10_cell d (by omega) _ _ _) okX10_cell (Or.inr nw12) tw621 rfl (Nat.le_of_ble_eq_true rfl) dX7_evenOut_90 (fun r17 => [pI r17, pA (M.1 a0 2), pI s11.1]) (fun r17 => M) (fun _ => rfl) (fun _ => rfl) (fun r17 h18 => ?_) rfl
          refine v_if (fun h19 => ?_)
          refine v_iaload h19 dX7_evenOut_93 ?_
          refine v_iload_n dX7_evenOut_94 rfl ?_
          refine v_isub dX7_evenOut_95 ?_
          refine v_iadd dX7_evenOut_96 ?_
          refine v_istore (ls' := [some (pA a0), some (pI a1), some (pI s4.1), some (pI (w32 (s4.1.tdiv (M.1 a0 0)))), some (pI (w32 (s11.1 + (w32 ((M.1 (M.1 a0 2) r17) - (w32 (s4.1.tdiv (M.1 a0 0)))))))), some (pI s11.2.1), some (pI s11.2.2)]) dX7_evenOut_97 (by decide) rfl ?_
          refine v_iinc (ls' := [some (pA a0), some (pI a1), some (pI s4.1), some (pI (w32 (s4.1.tdiv (M.1 a0 0)))), some (pI (w32 (s11.1 + (w32 ((M.1 (M.1 a0 2) r17) - (w32 (s4.1.tdiv (M.1 a0 0)))))))), some (pI (w32 (s11.2.1 + 1))), some (pI s11.2.2)]) dX7_evenOut_99 (by decide) rfl rfl ?_
          refine v_iinc (ls' := [some (pA a0), some (pI a1), some (pI s4.1), some (pI (w32 (s4.1.tdiv (M.1 a0 0)))), some (pI (w32 (s11.1 + (w32 ((M.1 (M.1 a0 2) r17) - (w32 (s4.1.tdiv (M.1 a0 0)))))))), some (pI (w32 (s11.2.1 + 1))), some (pI (w32 (s11.2.2 + 1)))]) dX7_evenOut_102 (by decide) rfl rfl ?_
          refine v_goto (tgt := 57) dX7_evenOut_105 (by decide) ?_
          exact hrec10 (w32 (s11.1 + (w32 ((M.1 (M.1 a0 2) r17) - (w32 (s4.1.tdiv (M.1 a0 0)))))), w32 (s11.2.1 + 1), w32 (s11.2.2 + 1))
        · refine v_iinc (ls' := [some (pA a0), some (pI a1), some (pI s4.1), some (pI (w32 (s4.1.tdiv (M.1 a0 0)))), some (pI s11.1), some (pI s11.2.1), some (pI (w32 (s11.2.2 + 1)))]) dX7_evenOut_102 (by decide) rfl rfl ?_
          refine v_goto (tgt := 57) dX7_evenOut_105 (by decide) ?_
          exact hrec10 (s11.1, s11.2.1, w32 (s11.2.2 + 1))
      · refine v_iload dX7_evenOut_108 rfl ?_
        refine v_iload dX7_evenOut_110 rfl ?_
        refine v_iload_n dX7_evenOut_112 rfl ?_
        refine v_aload_n dX7_evenOut_113 rfl ?_
        refine v_get (v := pI (M.1 a0 0)) 7 0 rfl inX7 (by decide) tw54 dX7_evenOut_114 h1 rfl ?_
        refine v_if (fun h20 => ?_)
        refine v_irem h20 dX7_evenOut_117 ?_
        refine v_mmin (mi := mX7_evenOut) tw1049 tw469 tw12 tw470 (Nat.le_of_ble_eq_true rfl) dX7_evenOut_118 ?_
        refine v_isub dX7_evenOut_121 ?_
        exact v_ireturn dX7_evenOut_122 rfl rfl
theorem chX7_limitOf_0 : (cX7_limitOf.data.toList.drop 0).take 16 = [3, 61, 3, 62, 29, 42, 180, 0, 43, 162, 0, 27, 27, 29, 122, 4] := by decide +kernel
theorem chX7_limitOf_1 : (cX7_limitOf.data.toList.drop 16).take 16 = [126, 4, 160, 0, 12, 28, 42, 180, 0, 30, 29, 46, 96, 61, 132, 3] := by decide +kernel
theorem chX7_limitOf_2 : (cX7_limitOf.data.toList.drop 32).take 16 = [1, 167, 255, 227, 28, 172] := by decide +kernel
theorem dX7_limitOf_0 : decode cX7_limitOf 0 = .ok (.iconst 0, 1) := oq_3 (byt chX7_limitOf_0 0 rfl)
theorem dX7_limitOf_1 : decode cX7_limitOf 1 = .ok (.istore_n 2, 1) := oq_61 (byt chX7_limitOf_0 1 rfl)
theorem dX7_limitOf_2 : decode cX7_limitOf 2 = .ok (.iconst 0, 1) := oq_3 (byt chX7_limitOf_0 2 rfl)
theorem dX7_limitOf_3 : decode cX7_limitOf 3 = .ok (.istore_n 3, 1) := oq_62 (byt chX7_limitOf_0 3 rfl)
theorem dX7_limitOf_4 : decode cX7_limitOf 4 = .ok (.iload_n 3, 1) := oq_29 (byt chX7_limitOf_0 4 rfl)
theorem dX7_limitOf_5 : decode cX7_limitOf 5 = .ok (.aload_n 0, 1) := oq_42 (byt chX7_limitOf_0 5 rfl)
theorem dX7_limitOf_6 : decode cX7_limitOf 6 = .ok (.getfield 43, 3) := oq_180 (byt chX7_limitOf_0 6 rfl) (byt chX7_limitOf_0 7 rfl) (byt chX7_limitOf_0 8 rfl) rfl
theorem dX7_limitOf_9 : decode cX7_limitOf 9 = .ok (.if_icmp .ge 27, 3) := oq_162 (byt chX7_limitOf_0 9 rfl) (byt chX7_limitOf_0 10 rfl) (byt chX7_limitOf_0 11 rfl) (by decide +kernel)
theorem dX7_limitOf_12 : decode cX7_limitOf 12 = .ok (.iload_n 1, 1) := oq_27 (byt chX7_limitOf_0 12 rfl)
theorem dX7_limitOf_13 : decode cX7_limitOf 13 = .ok (.iload_n 3, 1) := oq_29 (byt chX7_limitOf_0 13 rfl)
theorem dX7_limitOf_14 : decode cX7_limitOf 14 = .ok (.ishr, 1) := oq_122 (byt chX7_limitOf_0 14 rfl)
theorem dX7_limitOf_15 : decode cX7_limitOf 15 = .ok (.iconst 1, 1) := oq_4 (byt chX7_limitOf_0 15 rfl)
theorem dX7_limitOf_16 : decode cX7_limitOf 16 = .ok (.iand, 1) := oq_126 (byt chX7_limitOf_1 0 rfl)
theorem dX7_limitOf_17 : decode cX7_limitOf 17 = .ok (.iconst 1, 1) := oq_4 (byt chX7_limitOf_1 1 rfl)
theorem dX7_limitOf_18 : decode cX7_limitOf 18 = .ok (.if_icmp .ne 12, 3) := oq_160 (byt chX7_limitOf_1 2 rfl) (byt chX7_limitOf_1 3 rfl) (byt chX7_limitOf_1 4 rfl) (by decide +kernel)
theorem dX7_limitOf_21 : decode cX7_limitOf 21 = .ok (.iload_n 2, 1) := oq_28 (byt chX7_limitOf_1 5 rfl)
theorem dX7_limitOf_22 : decode cX7_limitOf 22 = .ok (.aload_n 0, 1) := oq_42 (byt chX7_limitOf_1 6 rfl)
theorem dX7_limitOf_23 : decode cX7_limitOf 23 = .ok (.getfield 30, 3) := oq_180 (byt chX7_limitOf_1 7 rfl) (byt chX7_limitOf_1 8 rfl) (byt chX7_limitOf_1 9 rfl) rfl
theorem dX7_limitOf_26 : decode cX7_limitOf 26 = .ok (.iload_n 3, 1) := oq_29 (byt chX7_limitOf_1 10 rfl)
theorem dX7_limitOf_27 : decode cX7_limitOf 27 = .ok (.iaload, 1) := oq_46 (byt chX7_limitOf_1 11 rfl)
theorem dX7_limitOf_28 : decode cX7_limitOf 28 = .ok (.iadd, 1) := oq_96 (byt chX7_limitOf_1 12 rfl)
theorem dX7_limitOf_29 : decode cX7_limitOf 29 = .ok (.istore_n 2, 1) := oq_61 (byt chX7_limitOf_1 13 rfl)
theorem dX7_limitOf_30 : decode cX7_limitOf 30 = .ok (.iinc 3 1, 3) := oq_132 (byt chX7_limitOf_1 14 rfl) (byt chX7_limitOf_1 15 rfl) (byt chX7_limitOf_2 0 rfl) rfl
theorem dX7_limitOf_33 : decode cX7_limitOf 33 = .ok (.goto (-29), 3) := oq_167 (byt chX7_limitOf_2 1 rfl) (byt chX7_limitOf_2 2 rfl) (byt chX7_limitOf_2 3 rfl) (by decide +kernel)
theorem dX7_limitOf_36 : decode cX7_limitOf 36 = .ok (.iload_n 2, 1) := oq_28 (byt chX7_limitOf_2 4 rfl)
theorem dX7_limitOf_37 : decode cX7_limitOf 37 = .ok (.ireturn, 1) := oq_172 (byt chX7_limitOf_2 5 rfl)
abbrev mX7_limitOf : MI := (yX7_limitOf, cX7_limitOf, 4, (some .int), noE)
theorem okX7_limitOf : cok mX7_limitOf 1 := ⟨tw1155, tw3, by decide, by decide, by decide, by decide +kernel⟩
def fX7_limitOf (M : Mem) (a0 a1 : Int) : Option Int :=
  iterC (fun (rec1 : (Int × Int) → Option Int) (s2 : Int × Int) => if M.2.1 a0 = 7 then if s2.2 < M.1 a0 1 then (if bAnd (bShr a1 s2.2) 1 = 1 then (if M.2.1 (M.1 a0 8) = 12 ∧ (0 : Int) ≤ s2.2 ∧ s2.2 < M.2.2.1 (M.1 a0 8) then rec1 (w32 (s2.1 + (M.1 (M.1 a0 8) s2.2)), w32 (s2.2 + 1)) else none) else (rec1 (s2.1, w32 (s2.2 + 1)))) else (some s2.1) else none) BIG (0, 0)
set_option maxRecDepth 100000 in
set_option maxHeartbeats 4000000 in
theorem kX7_limitOf (d : Nat) (hd : 0 ≤ d) (M : Mem) (a0 a1 : Int) : Ct mX7_limitOf d 0 0 [pA a0, pI a1] M (dI M) (fX7_limitOf M a0 a1) := by
  refine Ct.of 2 (fun _ _ _ => trivial) (by decide +kernel) rfl ?_
  unfold fX7_limitOf
  refine v_iconst dX7_limitOf_0 (by decide) ?_
  refine v_istore_n (ls' := [some (pA a0), some (pI a1), some (pI 0), none]) dX7_limitOf_1 (by decide) rfl ?_
  refine v_iconst dX7_limitOf_2 (by decide) ?_
  refine v_istore_n (ls' := [some (pA a0), some (pI a1), some (pI 0), some (pI 0)]) dX7_limitOf_3 (by decide) rfl ?_
  refine v_loop (fun (s2 : Int × Int) => [some (pA a0), some (pI a1), some (pI s2.1), some (pI s2.2)]) (fun (s2 : Int × Int) => M) (s0 := (0, 0)) ?_
  intro rec1 hrec1 s2
  refine v_iload_n dX7_limitOf_4 rfl ?_
  refine v_aload_n dX7_limitOf_5 rfl ?_
  refine v_if (fun h3 => ?_)
  refine v_get (v := pI (M.1 a0 1)) 7 1 rfl inX7 (by decide) tw61 dX7_limitOf_6 h3 rfl ?_
  refine v_icmp_ge (tgt := 36) dX7_limitOf_9 (by decide) (fun c4 => ?_) (fun c4 => ?_)
  · refine v_iload_n dX7_limitOf_12 rfl ?_
    refine v_iload_n dX7_limitOf_13 rfl ?_
    refine v_ishr dX7_limitOf_14 ?_
    refine v_iconst dX7_limitOf_15 (by decide) ?_
    refine v_iand dX7_limitOf_16 ?_
    refine v_iconst dX7_limitOf_17 (by decide) ?_
    refine v_icmp_ne (tgt := 30) dX7_limitOf_18 (by decide) (fun c5 => ?_) (fun c5 => ?_)
    · refine v_iload_n dX7_limitOf_21 rfl ?_
      refine v_aload_n dX7_limitOf_22 rfl ?_
      refine v_get (v := pA (M.1 a0 8)) 7 8 rfl inX7 (by decide) tw93 dX7_limitOf_23 h3 rfl ?_
      refine v_iload_n dX7_limitOf_26 rfl ?_
      refine v_if (fun h6 => ?_)
      refine v_iaload h6 dX7_limitOf_27 ?_
      refine v_iadd dX7_limitOf_28 ?_
      refine v_istore_n (ls' := [some (pA a0), some (pI a1), some (pI (w32 (s2.1 + (M.1 (M.1 a0 8) s2.2)))), some (pI s2.2)]) dX7_limitOf_29 (by decide) rfl ?_
      refine v_iinc (ls' := [some (pA a0), some (pI a1), some (pI (w32 (s2.1 + (M.1 (M.1 a0 8) s2.2)))), some (pI (w32 (s2.2 + 1)))]) dX7_limitOf_30 (by decide) rfl rfl ?_
      refine v_goto (tgt := 4) dX7_limitOf_33 (by decide) ?_
      exact hrec1 (w32 (s2.1 + (M.1 (M.1 a0 8) s2.2)), w32 (s2.2 + 1))
    · refine v_iinc (ls' := [some (pA a0), some (pI a1), some (pI s2.1), some (pI (w32 (s2.2 + 1)))]) dX7_limitOf_30 (by decide) rfl rfl ?_
      refine v_goto (tgt := 4) dX7_limitOf_33 (by decide) ?_
      exact hrec1 (s2.1, w32 (s2.2 + 1))
  · refine v_iload_n dX7_limitOf_36 rfl ?_
    exact v_ireturn dX7_limitOf_37 rfl rfl
