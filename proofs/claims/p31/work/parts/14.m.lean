theorem dX9_takesGift_0 : decode cX9_takesGift 0 = .ok (.iload_n 2, 1) := by decide +kernel
theorem dX9_takesGift_1 : decode cX9_takesGift 1 = .ok (.iload_n 3, 1) := by decide +kernel
theorem dX9_takesGift_2 : decode cX9_takesGift 2 = .ok (.invokestatic 130, 3) := by decide +kernel
theorem dX9_takesGift_5 : decode cX9_takesGift 5 = .ok (.istore 4, 2) := by decide +kernel
theorem dX9_takesGift_7 : decode cX9_takesGift 7 = .ok (.aload_n 0, 1) := by decide +kernel
theorem dX9_takesGift_8 : decode cX9_takesGift 8 = .ok (.getfield 58, 3) := by decide +kernel
theorem dX9_takesGift_11 : decode cX9_takesGift 11 = .ok (.getfield 127, 3) := by decide +kernel
theorem dX9_takesGift_14 : decode cX9_takesGift 14 = .ok (.iload 4, 2) := by decide +kernel
theorem dX9_takesGift_16 : decode cX9_takesGift 16 = .ok (.iaload, 1) := by decide +kernel
theorem dX9_takesGift_17 : decode cX9_takesGift 17 = .ok (.aload_n 0, 1) := by decide +kernel
theorem dX9_takesGift_18 : decode cX9_takesGift 18 = .ok (.getfield 9, 3) := by decide +kernel
theorem dX9_takesGift_21 : decode cX9_takesGift 21 = .ok (.iload 4, 2) := by decide +kernel
theorem dX9_takesGift_23 : decode cX9_takesGift 23 = .ok (.iaload, 1) := by decide +kernel
theorem dX9_takesGift_24 : decode cX9_takesGift 24 = .ok (.if_icmp .le 21, 3) := by decide +kernel
theorem dX9_takesGift_27 : decode cX9_takesGift 27 = .ok (.aload_n 0, 1) := by decide +kernel
theorem dX9_takesGift_28 : decode cX9_takesGift 28 = .ok (.getfield 18, 3) := by decide +kernel
theorem dX9_takesGift_31 : decode cX9_takesGift 31 = .ok (.iload_n 1, 1) := by decide +kernel
theorem dX9_takesGift_32 : decode cX9_takesGift 32 = .ok (.iload_n 2, 1) := by decide +kernel
theorem dX9_takesGift_33 : decode cX9_takesGift 33 = .ok (.iload_n 3, 1) := by decide +kernel
theorem dX9_takesGift_34 : decode cX9_takesGift 34 = .ok (.invokestatic 136, 3) := by decide +kernel
theorem dX9_takesGift_37 : decode cX9_takesGift 37 = .ok (.iaload, 1) := by decide +kernel
theorem dX9_takesGift_38 : decode cX9_takesGift 38 = .ok (.ifCond .ne 7, 3) := by decide +kernel
theorem dX9_takesGift_41 : decode cX9_takesGift 41 = .ok (.iconst 1, 1) := by decide +kernel
theorem dX9_takesGift_42 : decode cX9_takesGift 42 = .ok (.goto 4, 3) := by decide +kernel
theorem dX9_takesGift_45 : decode cX9_takesGift 45 = .ok (.iconst 0, 1) := by decide +kernel
theorem dX9_takesGift_46 : decode cX9_takesGift 46 = .ok (.ireturn, 1) := by decide +kernel
abbrev mX9_takesGift : MI := (yX9_takesGift, cX9_takesGift, 5, (some .boolean), noE)
theorem okX9_takesGift : cok mX9_takesGift 3 := ⟨tw775, tw8, by decide, by decide, by decide, by decide +kernel⟩
def fX9_takesGift (M : Mem) (a0 a1 a2 a3 : Int) : Option Int :=
  (fX10_cell M a2 a3).bind fun r1 => if M.2.1 a0 = 8 then if M.2.1 (M.1 a0 0) = 7 then if M.2.1 (M.1 (M.1 a0 0) 3) = 12 ∧ (0 : Int) ≤ r1 ∧ r1 < M.2.2.1 (M.1 (M.1 a0 0) 3) then if M.2.1 (M.1 a0 2) = 12 ∧ (0 : Int) ≤ r1 ∧ r1 < M.2.2.1 (M.1 a0 2) then if M.1 (M.1 a0 2) r1 < M.1 (M.1 (M.1 a0 0) 3) r1 then ((fX10_cell_ M a1 a2 a3).bind fun r8 => if M.2.1 (M.1 a0 4) = 12 ∧ (0 : Int) ≤ r8 ∧ r8 < M.2.2.1 (M.1 a0 4) then if M.1 (M.1 a0 4) r8 = 0 then (some 1) else (some 0) else none) else (some 0) else none else none else none else none
set_option maxRecDepth 100000 in
set_option maxHeartbeats 4000000 in
theorem kX9_takesGift (d : Nat) (hd : 1 ≤ d) (M : Mem) (a0 a1 a2 a3 : Int) : Ct mX9_takesGift d 0 0 [pA a0, pI a1, pI a2, pI a3] M (dI M) (fX9_takesGift M a0 a1 a2 a3) := by
  obtain ⟨d, rfl⟩ : ∃ k, d = k + 1 := ⟨d - 1, by omega⟩
  refine Ct.of 1 (fun _ _ _ => trivial) (by decide +kernel) rfl ?_
  unfold fX9_takesGift
  refine v_iload_n dX9_takesGift_0 rfl ?_
  refine v_iload_n dX9_takesGift_1 rfl ?_
  refine v_cS (mi := mX9_takesGift) (c0 := 0) (c1 := 0) (As := [pI a2, pI a3]) (st := []) (kX10_cell d (by omega) _ _ _) okX10_cell (Or.inr nw16) tw621 rfl (Nat.le_of_ble_eq_true rfl) dX9_takesGift_2 (fun r1 => [pI r1]) (fun r1 => M) (fun _ => rfl) (fun _ => rfl) (fun r1 h2 => ?_) rfl
  refine v_istore (ls' := [some (pA a0), some (pI a1), some (pI a2), some (pI a3), some (pI r1)]) dX9_takesGift_5 (by decide) rfl ?_
  refine v_aload_n dX9_takesGift_7 rfl ?_
  refine v_if (fun h3 => ?_)
  refine v_get (v := pA (M.1 a0 0)) 8 0 rfl inX9 (by decide) tw315 dX9_takesGift_8 h3 rfl ?_
  refine v_if (fun h4 => ?_)
  refine v_get (v := pA (M.1 (M.1 a0 0) 3)) 7 3 rfl inX7 (by decide) tw73 dX9_takesGift_11 h4 rfl ?_
  refine v_iload dX9_takesGift_14 rfl ?_
  refine v_if (fun h5 => ?_)
  refine v_iaload h5 dX9_takesGift_16 ?_
  refine v_aload_n dX9_takesGift_17 rfl ?_
  refine v_get (v := pA (M.1 a0 2)) 8 2 rfl inX9 (by decide) tw320 dX9_takesGift_18 h3 rfl ?_
  refine v_iload dX9_takesGift_21 rfl ?_
  refine v_if (fun h6 => ?_)
  refine v_iaload h6 dX9_takesGift_23 ?_
  refine v_icmp_le (tgt := 45) dX9_takesGift_24 (by decide) (fun c7 => ?_) (fun c7 => ?_)
  · refine v_aload_n dX9_takesGift_27 rfl ?_
    refine v_get (v := pA (M.1 a0 4)) 8 4 rfl inX9 (by decide) tw326 dX9_takesGift_28 h3 rfl ?_
    refine v_iload_n dX9_takesGift_31 rfl ?_
    refine v_iload_n dX9_takesGift_32 rfl ?_
    refine v_iload_n dX9_takesGift_33 rfl ?_
    refine v_cS (mi := mX9_takesGift) (c0 := 0) (c1 := 0) (As := [pI a1, pI a2, pI a3]) (st := [pA (M.1 a0 4)]) (kX10_cell_ d (by omega) _ _ _ _) okX10_cell_ (Or.inr nw17) tw766 rfl (Nat.le_of_ble_eq_true rfl) dX9_takesGift_34 (fun r8 => [pI r8, pA (M.1 a0 4)]) (fun r8 => M) (fun _ => rfl) (fun _ => rfl) (fun r8 h9 => ?_) rfl
    refine v_if (fun h10 => ?_)
    refine v_iaload h10 dX9_takesGift_37 ?_
    refine v_if_ne (tgt := 45) dX9_takesGift_38 (by decide) (fun c11 => ?_) (fun c11 => ?_)
    · refine v_iconst dX9_takesGift_41 (by decide) ?_
      refine v_goto (tgt := 46) dX9_takesGift_42 (by decide) ?_
      exact v_breturn dX9_takesGift_46 rfl (by decide) rfl
    · refine v_iconst dX9_takesGift_45 (by decide) ?_
      exact v_breturn dX9_takesGift_46 rfl (by decide) rfl
  · refine v_iconst dX9_takesGift_45 (by decide) ?_
    exact v_breturn dX9_takesGift_46 rfl (by decide) rfl
theorem dX9_giveOne_0 : decode cX9_giveOne 0 = .ok (.aload_n 0, 1) := by decide +kernel
theorem dX9_giveOne_1 : decode cX9_giveOne 1 = .ok (.iload_n 1, 1) := by decide +kernel
theorem dX9_giveOne_2 : decode cX9_giveOne 2 = .ok (.invokevirtual 139, 3) := by decide +kernel
theorem dX9_giveOne_5 : decode cX9_giveOne 5 = .ok (.ifCond .eq 21, 3) := by decide +kernel
theorem dX9_giveOne_8 : decode cX9_giveOne 8 = .ok (.aload_n 0, 1) := by decide +kernel
theorem dX9_giveOne_9 : decode cX9_giveOne 9 = .ok (.getfield 58, 3) := by decide +kernel
theorem dX9_giveOne_12 : decode cX9_giveOne 12 = .ok (.iload_n 2, 1) := by decide +kernel
theorem dX9_giveOne_13 : decode cX9_giveOne 13 = .ok (.invokevirtual 142, 3) := by decide +kernel
theorem dX9_giveOne_16 : decode cX9_giveOne 16 = .ok (.ifCond .eq 10, 3) := by decide +kernel
theorem dX9_giveOne_19 : decode cX9_giveOne 19 = .ok (.iload_n 3, 1) := by decide +kernel
theorem dX9_giveOne_20 : decode cX9_giveOne 20 = .ok (.invokestatic 145, 3) := by decide +kernel
theorem dX9_giveOne_23 : decode cX9_giveOne 23 = .ok (.ifCond .ne 5, 3) := by decide +kernel
theorem dX9_giveOne_26 : decode cX9_giveOne 26 = .ok (.iconst 0, 1) := by decide +kernel
theorem dX9_giveOne_27 : decode cX9_giveOne 27 = .ok (.ireturn, 1) := by decide +kernel
theorem dX9_giveOne_28 : decode cX9_giveOne 28 = .ok (.aload_n 0, 1) := by decide +kernel
theorem dX9_giveOne_29 : decode cX9_giveOne 29 = .ok (.getfield 15, 3) := by decide +kernel
theorem dX9_giveOne_32 : decode cX9_giveOne 32 = .ok (.iconst 5, 1) := by decide +kernel
theorem dX9_giveOne_33 : decode cX9_giveOne 33 = .ok (.iload_n 1, 1) := by decide +kernel
theorem dX9_giveOne_34 : decode cX9_giveOne 34 = .ok (.imul, 1) := by decide +kernel
theorem dX9_giveOne_35 : decode cX9_giveOne 35 = .ok (.iload_n 3, 1) := by decide +kernel
theorem dX9_giveOne_36 : decode cX9_giveOne 36 = .ok (.iadd, 1) := by decide +kernel
theorem dX9_giveOne_37 : decode cX9_giveOne 37 = .ok (.iaload, 1) := by decide +kernel
theorem dX9_giveOne_38 : decode cX9_giveOne 38 = .ok (.iconst 1, 1) := by decide +kernel
theorem dX9_giveOne_39 : decode cX9_giveOne 39 = .ok (.if_icmp .lt 13, 3) := by decide +kernel
theorem dX9_giveOne_42 : decode cX9_giveOne 42 = .ok (.aload_n 0, 1) := by decide +kernel
theorem dX9_giveOne_43 : decode cX9_giveOne 43 = .ok (.iload_n 1, 1) := by decide +kernel
theorem dX9_giveOne_44 : decode cX9_giveOne 44 = .ok (.iload_n 2, 1) := by decide +kernel
theorem dX9_giveOne_45 : decode cX9_giveOne 45 = .ok (.iload_n 3, 1) := by decide +kernel
theorem dX9_giveOne_46 : decode cX9_giveOne 46 = .ok (.invokevirtual 151, 3) := by decide +kernel
theorem dX9_giveOne_49 : decode cX9_giveOne 49 = .ok (.ifCond .ne 5, 3) := by decide +kernel
theorem dX9_giveOne_52 : decode cX9_giveOne 52 = .ok (.iconst 0, 1) := by decide +kernel
theorem dX9_giveOne_53 : decode cX9_giveOne 53 = .ok (.ireturn, 1) := by decide +kernel
theorem dX9_giveOne_54 : decode cX9_giveOne 54 = .ok (.aload_n 0, 1) := by decide +kernel
theorem dX9_giveOne_55 : decode cX9_giveOne 55 = .ok (.getfield 15, 3) := by decide +kernel
theorem dX9_giveOne_58 : decode cX9_giveOne 58 = .ok (.iconst 5, 1) := by decide +kernel
theorem dX9_giveOne_59 : decode cX9_giveOne 59 = .ok (.iload_n 1, 1) := by decide +kernel
theorem dX9_giveOne_60 : decode cX9_giveOne 60 = .ok (.imul, 1) := by decide +kernel
theorem dX9_giveOne_61 : decode cX9_giveOne 61 = .ok (.iload_n 3, 1) := by decide +kernel
theorem dX9_giveOne_62 : decode cX9_giveOne 62 = .ok (.iadd, 1) := by decide +kernel
theorem dX9_giveOne_63 : decode cX9_giveOne 63 = .ok (.dup2, 1) := by decide +kernel
theorem dX9_giveOne_64 : decode cX9_giveOne 64 = .ok (.iaload, 1) := by decide +kernel
theorem dX9_giveOne_65 : decode cX9_giveOne 65 = .ok (.iconst 1, 1) := by decide +kernel
theorem dX9_giveOne_66 : decode cX9_giveOne 66 = .ok (.isub, 1) := by decide +kernel
theorem dX9_giveOne_67 : decode cX9_giveOne 67 = .ok (.iastore, 1) := by decide +kernel
theorem dX9_giveOne_68 : decode cX9_giveOne 68 = .ok (.aload_n 0, 1) := by decide +kernel
theorem dX9_giveOne_69 : decode cX9_giveOne 69 = .ok (.getfield 9, 3) := by decide +kernel
theorem dX9_giveOne_72 : decode cX9_giveOne 72 = .ok (.iload_n 2, 1) := by decide +kernel
theorem dX9_giveOne_73 : decode cX9_giveOne 73 = .ok (.iload_n 3, 1) := by decide +kernel
theorem dX9_giveOne_74 : decode cX9_giveOne 74 = .ok (.invokestatic 130, 3) := by decide +kernel
theorem dX9_giveOne_77 : decode cX9_giveOne 77 = .ok (.dup2, 1) := by decide +kernel
theorem dX9_giveOne_78 : decode cX9_giveOne 78 = .ok (.iaload, 1) := by decide +kernel
theorem dX9_giveOne_79 : decode cX9_giveOne 79 = .ok (.iconst 1, 1) := by decide +kernel
theorem dX9_giveOne_80 : decode cX9_giveOne 80 = .ok (.iadd, 1) := by decide +kernel
theorem dX9_giveOne_81 : decode cX9_giveOne 81 = .ok (.iastore, 1) := by decide +kernel
theorem dX9_giveOne_82 : decode cX9_giveOne 82 = .ok (.aload_n 0, 1) := by decide +kernel
theorem dX9_giveOne_83 : decode cX9_giveOne 83 = .ok (.getfield 21, 3) := by decide +kernel
theorem dX9_giveOne_86 : decode cX9_giveOne 86 = .ok (.iload_n 1, 1) := by decide +kernel
theorem dX9_giveOne_87 : decode cX9_giveOne 87 = .ok (.iload_n 2, 1) := by decide +kernel
theorem dX9_giveOne_88 : decode cX9_giveOne 88 = .ok (.iload_n 3, 1) := by decide +kernel
theorem dX9_giveOne_89 : decode cX9_giveOne 89 = .ok (.invokestatic 136, 3) := by decide +kernel
theorem dX9_giveOne_92 : decode cX9_giveOne 92 = .ok (.dup2, 1) := by decide +kernel
theorem dX9_giveOne_93 : decode cX9_giveOne 93 = .ok (.iaload, 1) := by decide +kernel
theorem dX9_giveOne_94 : decode cX9_giveOne 94 = .ok (.iconst 1, 1) := by decide +kernel
theorem dX9_giveOne_95 : decode cX9_giveOne 95 = .ok (.iadd, 1) := by decide +kernel
theorem dX9_giveOne_96 : decode cX9_giveOne 96 = .ok (.iastore, 1) := by decide +kernel
theorem dX9_giveOne_97 : decode cX9_giveOne 97 = .ok (.aload_n 0, 1) := by decide +kernel
theorem dX9_giveOne_98 : decode cX9_giveOne 98 = .ok (.getfield 27, 3) := by decide +kernel
theorem dX9_giveOne_101 : decode cX9_giveOne 101 = .ok (.iload_n 1, 1) := by decide +kernel
theorem dX9_giveOne_102 : decode cX9_giveOne 102 = .ok (.dup2, 1) := by decide +kernel
theorem dX9_giveOne_103 : decode cX9_giveOne 103 = .ok (.iaload, 1) := by decide +kernel
theorem dX9_giveOne_104 : decode cX9_giveOne 104 = .ok (.aload_n 0, 1) := by decide +kernel
theorem dX9_giveOne_105 : decode cX9_giveOne 105 = .ok (.getfield 62, 3) := by decide +kernel
theorem dX9_giveOne_108 : decode cX9_giveOne 108 = .ok (.aload_n 0, 1) := by decide +kernel
theorem dX9_giveOne_109 : decode cX9_giveOne 109 = .ok (.getfield 49, 3) := by decide +kernel
theorem dX9_giveOne_112 : decode cX9_giveOne 112 = .ok (.invokevirtual 154, 3) := by decide +kernel
theorem dX9_giveOne_115 : decode cX9_giveOne 115 = .ok (.iadd, 1) := by decide +kernel
theorem dX9_giveOne_116 : decode cX9_giveOne 116 = .ok (.iastore, 1) := by decide +kernel
theorem dX9_giveOne_117 : decode cX9_giveOne 117 = .ok (.aload_n 0, 1) := by decide +kernel
theorem dX9_giveOne_118 : decode cX9_giveOne 118 = .ok (.getfield 36, 3) := by decide +kernel
theorem dX9_giveOne_121 : decode cX9_giveOne 121 = .ok (.iload_n 1, 1) := by decide +kernel
theorem dX9_giveOne_122 : decode cX9_giveOne 122 = .ok (.dup2, 1) := by decide +kernel
theorem dX9_giveOne_123 : decode cX9_giveOne 123 = .ok (.iaload, 1) := by decide +kernel
theorem dX9_giveOne_124 : decode cX9_giveOne 124 = .ok (.aload_n 0, 1) := by decide +kernel
theorem dX9_giveOne_125 : decode cX9_giveOne 125 = .ok (.getfield 58, 3) := by decide +kernel
theorem dX9_giveOne_128 : decode cX9_giveOne 128 = .ok (.getfield 157, 3) := by decide +kernel
theorem dX9_giveOne_131 : decode cX9_giveOne 131 = .ok (.iload_n 2, 1) := by decide +kernel
theorem dX9_giveOne_132 : decode cX9_giveOne 132 = .ok (.iaload, 1) := by decide +kernel
theorem dX9_giveOne_133 : decode cX9_giveOne 133 = .ok (.iadd, 1) := by decide +kernel
theorem dX9_giveOne_134 : decode cX9_giveOne 134 = .ok (.iastore, 1) := by decide +kernel
theorem dX9_giveOne_135 : decode cX9_giveOne 135 = .ok (.iconst 1, 1) := by decide +kernel
theorem dX9_giveOne_136 : decode cX9_giveOne 136 = .ok (.ireturn, 1) := by decide +kernel
abbrev mX9_giveOne : MI := (yX9_giveOne, cX9_giveOne, 4, (some .boolean), noE)
theorem okX9_giveOne : cok mX9_giveOne 3 := ⟨tw771, tw8, by decide, by decide, by decide, by decide +kernel⟩
def fX9_giveOne (M : Mem) (a0 a1 a2 a3 : Int) : Option (Int × Mem) :=
  if M.2.1 a0 = 8 then (fX9_isFree M a0 a1).bind fun r1 => if r1 = 0 then (some (0, M)) else (if M.2.1 (M.1 a0 0) = 7 then (fX7_isHouse M (M.1 a0 0) a2).bind fun r5 => if r5 = 0 then (some (0, M)) else ((fX10_isGood M a3).bind fun r9 => if r9 = 0 then (some (0, M)) else (if M.2.1 (M.1 a0 3) = 12 ∧ (0 : Int) ≤ (w32 ((w32 (5 * a1)) + a3)) ∧ (w32 ((w32 (5 * a1)) + a3)) < M.2.2.1 (M.1 a0 3) then if M.1 (M.1 a0 3) (w32 ((w32 (5 * a1)) + a3)) < 1 then (some (0, M)) else ((fX9_takesGift M a0 a1 a2 a3).bind fun r14 => if r14 = 0 then (some (0, M)) else (if M.2.1 (M.1 a0 3) = 12 ∧ (0 : Int) ≤ (w32 ((w32 (5 * a1)) + a3)) ∧ (w32 ((w32 (5 * a1)) + a3)) < M.2.2.1 (M.1 a0 3) then if M.2.1 (M.1 a0 3) = 12 ∧ (0 : Int) ≤ (w32 ((w32 (5 * a1)) + a3)) ∧ (w32 ((w32 (5 * a1)) + a3)) < M.2.2.1 (M.1 a0 3) then bM (mst M (M.1 a0 3) (w32 ((w32 (5 * a1)) + a3)) (w32 ((M.1 (M.1 a0 3) (w32 ((w32 (5 * a1)) + a3))) - 1))) fun M19 => (fX10_cell M19 a2 a3).bind fun r21 => if M19.2.1 (M19.1 a0 2) = 12 ∧ (0 : Int) ≤ r21 ∧ r21 < M19.2.2.1 (M19.1 a0 2) then if M19.2.1 (M19.1 a0 2) = 12 ∧ (0 : Int) ≤ r21 ∧ r21 < M19.2.2.1 (M19.1 a0 2) then bM (mst M19 (M19.1 a0 2) r21 (w32 ((M19.1 (M19.1 a0 2) r21) + 1))) fun M25 => (fX10_cell_ M25 a1 a2 a3).bind fun r27 => if M25.2.1 (M25.1 a0 5) = 12 ∧ (0 : Int) ≤ r27 ∧ r27 < M25.2.2.1 (M25.1 a0 5) then if M25.2.1 (M25.1 a0 5) = 12 ∧ (0 : Int) ≤ r27 ∧ r27 < M25.2.2.1 (M25.1 a0 5) then bM (mst M25 (M25.1 a0 5) r27 (w32 ((M25.1 (M25.1 a0 5) r27) + 1))) fun M31 => if M31.2.1 (M31.1 a0 7) = 12 ∧ (0 : Int) ≤ a1 ∧ a1 < M31.2.2.1 (M31.1 a0 7) then if M31.2.1 (M31.1 a0 1) = 0 then (fX0_counts M31 (M31.1 a0 1) (M31.1 a0 14)).bind fun r34 => if M31.2.1 (M31.1 a0 7) = 12 ∧ (0 : Int) ≤ a1 ∧ a1 < M31.2.2.1 (M31.1 a0 7) then bM (mst M31 (M31.1 a0 7) a1 (w32 ((M31.1 (M31.1 a0 7) a1) + r34))) fun M38 => if M38.2.1 (M38.1 a0 10) = 12 ∧ (0 : Int) ≤ a1 ∧ a1 < M38.2.2.1 (M38.1 a0 10) then if M38.2.1 (M38.1 a0 0) = 7 then if M38.2.1 (M38.1 (M38.1 a0 0) 4) = 12 ∧ (0 : Int) ≤ a2 ∧ a2 < M38.2.2.1 (M38.1 (M38.1 a0 0) 4) then if M38.2.1 (M38.1 a0 10) = 12 ∧ (0 : Int) ≤ a1 ∧ a1 < M38.2.2.1 (M38.1 a0 10) then bM (mst M38 (M38.1 a0 10) a1 (w32 ((M38.1 (M38.1 a0 10) a1) + (M38.1 (M38.1 (M38.1 a0 0) 4) a2)))) fun M44 => some (1, M44) else none else none else none else none else none else none else none else none else none else none else none else none else none)) else none)) else none) else none
set_option maxRecDepth 100000 in
set_option maxHeartbeats 4000000 in
theorem kX9_giveOne (d : Nat) (hd : 2 ≤ d) (M : Mem) (a0 a1 a2 a3 : Int) : Ct mX9_giveOne d 0 0 [pA a0, pI a1, pI a2, pI a3] M dIM (fX9_giveOne M a0 a1 a2 a3) := by
  obtain ⟨d, rfl⟩ : ∃ k, d = k + 1 := ⟨d - 1, by omega⟩
  refine Ct.of 0 (fun _ _ _ => trivial) (by decide +kernel) rfl ?_
  unfold fX9_giveOne
  refine v_aload_n dX9_giveOne_0 rfl ?_
  refine v_iload_n dX9_giveOne_1 rfl ?_
  refine v_if (fun h3 => ?_)
  refine v_cV (mi := mX9_giveOne) (c0 := 0) (c1 := 0) (As := [pI a1]) (st := []) (kX9_isFree d (by omega) _ _ _) rfl h3 rfl okX9_isFree (Or.inl tw757) tw758 tw759 rfl (Nat.le_of_ble_eq_true rfl) dX9_giveOne_2 (fun r1 => [pI r1]) (fun r1 => M) (fun _ => rfl) (fun _ => rfl) (fun r1 h2 => ?_) rfl
  refine v_if_eq (tgt := 26) dX9_giveOne_5 (by decide) (fun c4 => ?_) (fun c4 => ?_)
  · refine v_iconst dX9_giveOne_26 (by decide) ?_
    exact v_breturn dX9_giveOne_27 rfl (by decide) rfl
  · refine v_aload_n dX9_giveOne_8 rfl ?_
    refine v_get (v := pA (M.1 a0 0)) 8 0 rfl inX9 (by decide) tw315 dX9_giveOne_9 h3 rfl ?_
    refine v_iload_n dX9_giveOne_12 rfl ?_
    refine v_if (fun h7 => ?_)
    refine v_cV (mi := mX9_giveOne) (c0 := 0) (c1 := 0) (As := [pI a2]) (st := []) (kX7_isHouse d (by omega) _ _ _) rfl h7 rfl okX7_isHouse (Or.inl tw762) tw685 tw686 rfl (Nat.le_of_ble_eq_true rfl) dX9_giveOne_13 (fun r5 => [pI r5]) (fun r5 => M) (fun _ => rfl) (fun _ => rfl) (fun r5 h6 => ?_) rfl
    refine v_if_eq (tgt := 26) dX9_giveOne_16 (by decide) (fun c8 => ?_) (fun c8 => ?_)
    · refine v_iconst dX9_giveOne_26 (by decide) ?_
      exact v_breturn dX9_giveOne_27 rfl (by decide) rfl
    · refine v_iload_n dX9_giveOne_19 rfl ?_
      refine v_cS (mi := mX9_giveOne) (c0 := 0) (c1 := 0) (As := [pI a3]) (st := []) (kX10_isGood d (by omega) _ _) okX10_isGood (Or.inr nw15) tw689 rfl (Nat.le_of_ble_eq_true rfl) dX9_giveOne_20 (fun r9 => [pI r9]) (fun r9 => M) (fun _ => rfl) (fun _ => rfl) (fun r9 h10 => ?_) rfl
      refine v_if_ne (tgt := 28) dX9_giveOne_23 (by decide) (fun c11 => ?_) (fun c11 => ?_)
      · refine v_iconst dX9_giveOne_26 (by decide) ?_
        exact v_breturn dX9_giveOne_27 rfl (by decide) rfl
      · refine v_aload_n dX9_giveOne_28 rfl ?_
        refine v_get (v := pA (M.1 a0 3)) 8 3 rfl inX9 (by decide) tw323 dX9_giveOne_29 h3 rfl ?_
        refine v_iconst dX9_giveOne_32 (by decide) ?_
        refine v_iload_n dX9_giveOne_33 rfl ?_
        refine v_imul dX9_giveOne_34 ?_
        refine v_iload_n dX9_giveOne_35 rfl ?_
        refine v_iadd dX9_giveOne_36 ?_
        refine v_if (fun h12 => ?_)
        refine v_iaload h12 dX9_giveOne_37 ?_
        refine v_iconst dX9_giveOne_38 (by decide) ?_
        refine v_icmp_lt (tgt := 52) dX9_giveOne_39 (by decide) (fun c13 => ?_) (fun c13 => ?_)
        · refine v_iconst dX9_giveOne_52 (by decide) ?_
          exact v_breturn dX9_giveOne_53 rfl (by decide) rfl
        · refine v_aload_n dX9_giveOne_42 rfl ?_
          refine v_iload_n dX9_giveOne_43 rfl ?_
          refine v_iload_n dX9_giveOne_44 rfl ?_
          refine v_iload_n dX9_giveOne_45 rfl ?_
          refine v_cV (mi := mX9_giveOne) (c0 := 0) (c1 := 0) (As := [pI a1, pI a2, pI a3]) (st := []) (kX9_takesGift d (by omega) _ _ _ _ _) rfl h3 rfl okX9_takesGift (Or.inl tw772) tw773 tw774 rfl (Nat.le_of_ble_eq_true rfl) dX9_giveOne_46 (fun r14 => [pI r14]) (fun r14 => M) (fun _ => rfl) (fun _ => rfl) (fun r14 h15 => ?_) rfl
          refine v_if_ne (tgt := 54) dX9_giveOne_49 (by decide) (fun c16 => ?_) (fun c16 => ?_)
          · refine v_iconst dX9_giveOne_52 (by decide) ?_
            exact v_breturn dX9_giveOne_53 rfl (by decide) rfl
          · refine v_aload_n dX9_giveOne_54 rfl ?_
            refine v_get (v := pA (M.1 a0 3)) 8 3 rfl inX9 (by decide) tw323 dX9_giveOne_55 h3 rfl ?_
            refine v_iconst dX9_giveOne_58 (by decide) ?_
            refine v_iload_n dX9_giveOne_59 rfl ?_
            refine v_imul dX9_giveOne_60 ?_
            refine v_iload_n dX9_giveOne_61 rfl ?_
            refine v_iadd dX9_giveOne_62 ?_
            refine v_dup2 dX9_giveOne_63 (by intro z hz; cases hz) (by intro z hz; cases hz) ?_
            refine v_if (fun h17 => ?_)
            refine v_iaload h17 dX9_giveOne_64 ?_
            refine v_iconst dX9_giveOne_65 (by decide) ?_
            refine v_isub dX9_giveOne_66 ?_
            refine v_if (fun h18 => ?_)
            refine v_iastore h18 dX9_giveOne_67 ?_
            refine v_bM (fun M19 e20 => ?_)
            refine v_aload_n dX9_giveOne_68 rfl ?_
            refine v_get (v := pA (M19.1 a0 2)) 8 2 rfl inX9 (by decide) tw320 dX9_giveOne_69 (by rw [e20]; exact h3) rfl ?_
            refine v_iload_n dX9_giveOne_72 rfl ?_
            refine v_iload_n dX9_giveOne_73 rfl ?_
            refine v_cS (mi := mX9_giveOne) (c0 := 0) (c1 := 0) (As := [pI a2, pI a3]) (st := [pA (M19.1 a0 2)]) (kX10_cell d (by omega) _ _ _) okX10_cell (Or.inr nw16) tw621 rfl (Nat.le_of_ble_eq_true rfl) dX9_giveOne_74 (fun r21 => [pI r21, pA (M19.1 a0 2)]) (fun r21 => M19) (fun _ => rfl) (fun _ => rfl) (fun r21 h22 => ?_) rfl
            refine v_dup2 dX9_giveOne_77 (by intro z hz; cases hz) (by intro z hz; cases hz) ?_
            refine v_if (fun h23 => ?_)
            refine v_iaload h23 dX9_giveOne_78 ?_
            refine v_iconst dX9_giveOne_79 (by decide) ?_
            refine v_iadd dX9_giveOne_80 ?_
            refine v_if (fun h24 => ?_)
            refine v_iastore h24 dX9_giveOne_81 ?_
            refine v_bM (fun M25 e26 => ?_)
            refine v_aload_n dX9_giveOne_82 rfl ?_
            refine v_get (v := pA (M25.1 a0 5)) 8 5 rfl inX9 (by decide) tw329 dX9_giveOne_83 (by rw [e26, e20]; exact h3) rfl ?_
            refine v_iload_n dX9_giveOne_86 rfl ?_
            refine v_iload_n dX9_giveOne_87 rfl ?_
            refine v_iload_n dX9_giveOne_88 rfl ?_
            refine v_cS (mi := mX9_giveOne) (c0 := 0) (c1 := 0) (As := [pI a1, pI a2, pI a3]) (st := [pA (M25.1 a0 5)]) (kX10_cell_ d (by omega) _ _ _ _) okX10_cell_ (Or.inr nw17) tw766 rfl (Nat.le_of_ble_eq_true rfl) dX9_giveOne_89 (fun r27 => [pI r27, pA (M25.1 a0 5)]) (fun r27 => M25) (fun _ => rfl) (fun _ => rfl) (fun r27 h28 => ?_) rfl
            refine v_dup2 dX9_giveOne_92 (by intro z hz; cases hz) (by intro z hz; cases hz) ?_
            refine v_if (fun h29 => ?_)
            refine v_iaload h29 dX9_giveOne_93 ?_
            refine v_iconst dX9_giveOne_94 (by decide) ?_
            refine v_iadd dX9_giveOne_95 ?_
            refine v_if (fun h30 => ?_)
            refine v_iastore h30 dX9_giveOne_96 ?_
            refine v_bM (fun M31 e32 => ?_)
            refine v_aload_n dX9_giveOne_97 rfl ?_
            refine v_get (v := pA (M31.1 a0 7)) 8 7 rfl inX9 (by decide) tw333 dX9_giveOne_98 (by rw [e32, e26, e20]; exact h3) rfl ?_
            refine v_iload_n dX9_giveOne_101 rfl ?_
            refine v_dup2 dX9_giveOne_102 (by intro z hz; cases hz) (by intro z hz; cases hz) ?_
            refine v_if (fun h33 => ?_)
            refine v_iaload h33 dX9_giveOne_103 ?_
            refine v_aload_n dX9_giveOne_104 rfl ?_
            refine v_get (v := pA (M31.1 a0 1)) 8 1 rfl inX9 (by decide) tw318 dX9_giveOne_105 (by rw [e32, e26, e20]; exact h3) rfl ?_
            refine v_aload_n dX9_giveOne_108 rfl ?_
            refine v_get (v := pI (M31.1 a0 14)) 8 14 rfl inX9 (by decide) tw344 dX9_giveOne_109 (by rw [e32, e26, e20]; exact h3) rfl ?_
            refine v_if (fun h36 => ?_)
            refine v_cV (mi := mX9_giveOne) (c0 := 0) (c1 := 0) (As := [pI (M31.1 a0 14)]) (st := [pI (M31.1 (M31.1 a0 7) a1), pI a1, pA (M31.1 a0 7)]) (kX0_counts d (by omega) _ _ _) rfl h36 rfl okX0_counts (Or.inl tw776) tw719 tw720 rfl (Nat.le_of_ble_eq_true rfl) dX9_giveOne_112 (fun r34 => [pI r34, pI (M31.1 (M31.1 a0 7) a1), pI a1, pA (M31.1 a0 7)]) (fun r34 => M31) (fun _ => rfl) (fun _ => rfl) (fun r34 h35 => ?_) rfl
            refine v_iadd dX9_giveOne_115 ?_
            refine v_if (fun h37 => ?_)
            refine v_iastore h37 dX9_giveOne_116 ?_
            refine v_bM (fun M38 e39 => ?_)
            refine v_aload_n dX9_giveOne_117 rfl ?_
            refine v_get (v := pA (M38.1 a0 10)) 8 10 rfl inX9 (by decide) tw338 dX9_giveOne_118 (by rw [e39, e32, e26, e20]; exact h3) rfl ?_
            refine v_iload_n dX9_giveOne_121 rfl ?_
            refine v_dup2 dX9_giveOne_122 (by intro z hz; cases hz) (by intro z hz; cases hz) ?_
            refine v_if (fun h40 => ?_)
            refine v_iaload h40 dX9_giveOne_123 ?_
            refine v_aload_n dX9_giveOne_124 rfl ?_
            refine v_get (v := pA (M38.1 a0 0)) 8 0 rfl inX9 (by decide) tw315 dX9_giveOne_125 (by rw [e39, e32, e26, e20]; exact h3) rfl ?_
            refine v_if (fun h41 => ?_)
            refine v_get (v := pA (M38.1 (M38.1 a0 0) 4)) 7 4 rfl inX7 (by decide) tw79 dX9_giveOne_128 h41 rfl ?_
            refine v_iload_n dX9_giveOne_131 rfl ?_
            refine v_if (fun h42 => ?_)
            refine v_iaload h42 dX9_giveOne_132 ?_
            refine v_iadd dX9_giveOne_133 ?_
            refine v_if (fun h43 => ?_)
            refine v_iastore h43 dX9_giveOne_134 ?_
            refine v_bM (fun M44 e45 => ?_)
            refine v_iconst dX9_giveOne_135 (by decide) ?_
            exact v_breturn dX9_giveOne_136 rfl (by decide) rfl
theorem dX9_owesOf_0 : decode cX9_owesOf 0 = .ok (.aload_n 0, 1) := by decide +kernel
theorem dX9_owesOf_1 : decode cX9_owesOf 1 = .ok (.getfield 62, 3) := by decide +kernel
theorem dX9_owesOf_4 : decode cX9_owesOf 4 = .ok (.aload_n 0, 1) := by decide +kernel
theorem dX9_owesOf_5 : decode cX9_owesOf 5 = .ok (.getfield 24, 3) := by decide +kernel
theorem dX9_owesOf_8 : decode cX9_owesOf 8 = .ok (.iload_n 1, 1) := by decide +kernel
theorem dX9_owesOf_9 : decode cX9_owesOf 9 = .ok (.iaload, 1) := by decide +kernel
theorem dX9_owesOf_10 : decode cX9_owesOf 10 = .ok (.invokevirtual 121, 3) := by decide +kernel
theorem dX9_owesOf_13 : decode cX9_owesOf 13 = .ok (.aload_n 0, 1) := by decide +kernel
theorem dX9_owesOf_14 : decode cX9_owesOf 14 = .ok (.getfield 27, 3) := by decide +kernel
theorem dX9_owesOf_17 : decode cX9_owesOf 17 = .ok (.iload_n 1, 1) := by decide +kernel
theorem dX9_owesOf_18 : decode cX9_owesOf 18 = .ok (.iaload, 1) := by decide +kernel
theorem dX9_owesOf_19 : decode cX9_owesOf 19 = .ok (.isub, 1) := by decide +kernel
theorem dX9_owesOf_20 : decode cX9_owesOf 20 = .ok (.ireturn, 1) := by decide +kernel
abbrev mX9_owesOf : MI := (yX9_owesOf, cX9_owesOf, 2, (some .int), noE)
theorem okX9_owesOf : cok mX9_owesOf 1 := ⟨tw788, tw8, by decide, by decide, by decide, by decide +kernel⟩
def fX9_owesOf (M : Mem) (a0 a1 : Int) : Option Int :=
  if M.2.1 a0 = 8 then if M.2.1 (M.1 a0 6) = 12 ∧ (0 : Int) ≤ a1 ∧ a1 < M.2.2.1 (M.1 a0 6) then if M.2.1 (M.1 a0 1) = 0 then (fX0_dueOf M (M.1 a0 1) (M.1 (M.1 a0 6) a1)).bind fun r3 => if M.2.1 (M.1 a0 7) = 12 ∧ (0 : Int) ≤ a1 ∧ a1 < M.2.2.1 (M.1 a0 7) then some (w32 (r3 - (M.1 (M.1 a0 7) a1))) else none else none else none else none
set_option maxRecDepth 100000 in
set_option maxHeartbeats 4000000 in
theorem kX9_owesOf (d : Nat) (hd : 1 ≤ d) (M : Mem) (a0 a1 : Int) : Ct mX9_owesOf d 0 0 [pA a0, pI a1] M (dI M) (fX9_owesOf M a0 a1) := by
  obtain ⟨d, rfl⟩ : ∃ k, d = k + 1 := ⟨d - 1, by omega⟩
  refine Ct.of 0 (fun _ _ _ => trivial) (by decide +kernel) rfl ?_
  unfold fX9_owesOf
  refine v_aload_n dX9_owesOf_0 rfl ?_
  refine v_if (fun h1 => ?_)
  refine v_get (v := pA (M.1 a0 1)) 8 1 rfl inX9 (by decide) tw318 dX9_owesOf_1 h1 rfl ?_
  refine v_aload_n dX9_owesOf_4 rfl ?_
  refine v_get (v := pA (M.1 a0 6)) 8 6 rfl inX9 (by decide) tw331 dX9_owesOf_5 h1 rfl ?_
  refine v_iload_n dX9_owesOf_8 rfl ?_
  refine v_if (fun h2 => ?_)
  refine v_iaload h2 dX9_owesOf_9 ?_
  refine v_if (fun h5 => ?_)
  refine v_cV (mi := mX9_owesOf) (c0 := 0) (c1 := 0) (As := [pI (M.1 (M.1 a0 6) a1)]) (st := []) (kX0_dueOf d (by omega) _ _ _) rfl h5 rfl okX0_dueOf (Or.inl tw789) tw790 tw791 rfl (Nat.le_of_ble_eq_true rfl) dX9_owesOf_10 (fun r3 => [pI r3]) (fun r3 => M) (fun _ => rfl) (fun _ => rfl) (fun r3 h4 => ?_) rfl
  refine v_aload_n dX9_owesOf_13 rfl ?_
  refine v_get (v := pA (M.1 a0 7)) 8 7 rfl inX9 (by decide) tw333 dX9_owesOf_14 h1 rfl ?_
  refine v_iload_n dX9_owesOf_17 rfl ?_
  refine v_if (fun h6 => ?_)
  refine v_iaload h6 dX9_owesOf_18 ?_
  refine v_isub dX9_owesOf_19 ?_
  exact v_ireturn dX9_owesOf_20 rfl rfl
theorem dX9_setOff_0 : decode cX9_setOff 0 = .ok (.aload_n 0, 1) := by decide +kernel
theorem dX9_setOff_1 : decode cX9_setOff 1 = .ok (.iload_n 1, 1) := by decide +kernel
theorem dX9_setOff_2 : decode cX9_setOff 2 = .ok (.invokevirtual 139, 3) := by decide +kernel
theorem dX9_setOff_5 : decode cX9_setOff 5 = .ok (.ifCond .eq 28, 3) := by decide +kernel
theorem dX9_setOff_8 : decode cX9_setOff 8 = .ok (.aload_n 0, 1) := by decide +kernel
theorem dX9_setOff_9 : decode cX9_setOff 9 = .ok (.iload_n 2, 1) := by decide +kernel
theorem dX9_setOff_10 : decode cX9_setOff 10 = .ok (.invokevirtual 139, 3) := by decide +kernel
theorem dX9_setOff_13 : decode cX9_setOff 13 = .ok (.ifCond .eq 20, 3) := by decide +kernel
theorem dX9_setOff_16 : decode cX9_setOff 16 = .ok (.iload_n 1, 1) := by decide +kernel
theorem dX9_setOff_17 : decode cX9_setOff 17 = .ok (.iload_n 2, 1) := by decide +kernel
theorem dX9_setOff_18 : decode cX9_setOff 18 = .ok (.if_icmp .eq 15, 3) := by decide +kernel
theorem dX9_setOff_21 : decode cX9_setOff 21 = .ok (.aload_n 0, 1) := by decide +kernel
theorem dX9_setOff_22 : decode cX9_setOff 22 = .ok (.getfield 58, 3) := by decide +kernel
theorem dX9_setOff_25 : decode cX9_setOff 25 = .ok (.iload_n 1, 1) := by decide +kernel
theorem dX9_setOff_26 : decode cX9_setOff 26 = .ok (.iload_n 2, 1) := by decide +kernel
theorem dX9_setOff_27 : decode cX9_setOff 27 = .ok (.invokevirtual 160, 3) := by decide +kernel
theorem dX9_setOff_30 : decode cX9_setOff 30 = .ok (.ifCond .eq 5, 3) := by decide +kernel
theorem dX9_setOff_33 : decode cX9_setOff 33 = .ok (.iconst 0, 1) := by decide +kernel
theorem dX9_setOff_34 : decode cX9_setOff 34 = .ok (.ireturn, 1) := by decide +kernel
theorem dX9_setOff_35 : decode cX9_setOff 35 = .ok (.iload_n 3, 1) := by decide +kernel
theorem dX9_setOff_36 : decode cX9_setOff 36 = .ok (.iconst 1, 1) := by decide +kernel
theorem dX9_setOff_37 : decode cX9_setOff 37 = .ok (.if_icmp .lt 22, 3) := by decide +kernel
theorem dX9_setOff_40 : decode cX9_setOff 40 = .ok (.aload_n 0, 1) := by decide +kernel
theorem dX9_setOff_41 : decode cX9_setOff 41 = .ok (.iload_n 1, 1) := by decide +kernel
theorem dX9_setOff_42 : decode cX9_setOff 42 = .ok (.invokevirtual 164, 3) := by decide +kernel
theorem dX9_setOff_45 : decode cX9_setOff 45 = .ok (.iload_n 3, 1) := by decide +kernel
theorem dX9_setOff_46 : decode cX9_setOff 46 = .ok (.if_icmp .lt 13, 3) := by decide +kernel
theorem dX9_setOff_49 : decode cX9_setOff 49 = .ok (.aload_n 0, 1) := by decide +kernel
theorem dX9_setOff_50 : decode cX9_setOff 50 = .ok (.iload_n 2, 1) := by decide +kernel
theorem dX9_setOff_51 : decode cX9_setOff 51 = .ok (.invokevirtual 164, 3) := by decide +kernel
theorem dX9_setOff_54 : decode cX9_setOff 54 = .ok (.ineg, 1) := by decide +kernel
theorem dX9_setOff_55 : decode cX9_setOff 55 = .ok (.iload_n 3, 1) := by decide +kernel
theorem dX9_setOff_56 : decode cX9_setOff 56 = .ok (.if_icmp .ge 5, 3) := by decide +kernel
theorem dX9_setOff_59 : decode cX9_setOff 59 = .ok (.iconst 0, 1) := by decide +kernel
theorem dX9_setOff_60 : decode cX9_setOff 60 = .ok (.ireturn, 1) := by decide +kernel
theorem dX9_setOff_61 : decode cX9_setOff 61 = .ok (.aload_n 0, 1) := by decide +kernel
theorem dX9_setOff_62 : decode cX9_setOff 62 = .ok (.getfield 27, 3) := by decide +kernel
theorem dX9_setOff_65 : decode cX9_setOff 65 = .ok (.iload_n 1, 1) := by decide +kernel
theorem dX9_setOff_66 : decode cX9_setOff 66 = .ok (.dup2, 1) := by decide +kernel
theorem dX9_setOff_67 : decode cX9_setOff 67 = .ok (.iaload, 1) := by decide +kernel
theorem dX9_setOff_68 : decode cX9_setOff 68 = .ok (.iload_n 3, 1) := by decide +kernel
theorem dX9_setOff_69 : decode cX9_setOff 69 = .ok (.iadd, 1) := by decide +kernel
theorem dX9_setOff_70 : decode cX9_setOff 70 = .ok (.iastore, 1) := by decide +kernel
theorem dX9_setOff_71 : decode cX9_setOff 71 = .ok (.aload_n 0, 1) := by decide +kernel
theorem dX9_setOff_72 : decode cX9_setOff 72 = .ok (.getfield 27, 3) := by decide +kernel
theorem dX9_setOff_75 : decode cX9_setOff 75 = .ok (.iload_n 2, 1) := by decide +kernel
theorem dX9_setOff_76 : decode cX9_setOff 76 = .ok (.dup2, 1) := by decide +kernel
theorem dX9_setOff_77 : decode cX9_setOff 77 = .ok (.iaload, 1) := by decide +kernel
theorem dX9_setOff_78 : decode cX9_setOff 78 = .ok (.iload_n 3, 1) := by decide +kernel
theorem dX9_setOff_79 : decode cX9_setOff 79 = .ok (.isub, 1) := by decide +kernel
theorem dX9_setOff_80 : decode cX9_setOff 80 = .ok (.iastore, 1) := by decide +kernel
theorem dX9_setOff_81 : decode cX9_setOff 81 = .ok (.iconst 1, 1) := by decide +kernel
theorem dX9_setOff_82 : decode cX9_setOff 82 = .ok (.ireturn, 1) := by decide +kernel
abbrev mX9_setOff : MI := (yX9_setOff, cX9_setOff, 4, (some .boolean), noE)
theorem okX9_setOff : cok mX9_setOff 3 := ⟨tw780, tw8, by decide, by decide, by decide, by decide +kernel⟩
def fX9_setOff (M : Mem) (a0 a1 a2 a3 : Int) : Option (Int × Mem) :=
  if M.2.1 a0 = 8 then (fX9_isFree M a0 a1).bind fun r1 => if r1 = 0 then (some (0, M)) else ((fX9_isFree M a0 a2).bind fun r5 => if r5 = 0 then (some (0, M)) else (if a1 = a2 then (some (0, M)) else (if M.2.1 (M.1 a0 0) = 7 then (fX7_areKin M (M.1 a0 0) a1 a2).bind fun r9 => if r9 = 0 then (if a3 < 1 then (some (0, M)) else ((fX9_owesOf M a0 a1).bind fun r14 => if r14 < a3 then (some (0, M)) else ((fX9_owesOf M a0 a2).bind fun r17 => if w32 (-r17) < a3 then (some (0, M)) else (if M.2.1 (M.1 a0 7) = 12 ∧ (0 : Int) ≤ a1 ∧ a1 < M.2.2.1 (M.1 a0 7) then if M.2.1 (M.1 a0 7) = 12 ∧ (0 : Int) ≤ a1 ∧ a1 < M.2.2.1 (M.1 a0 7) then bM (mst M (M.1 a0 7) a1 (w32 ((M.1 (M.1 a0 7) a1) + a3))) fun M22 => if M22.2.1 (M22.1 a0 7) = 12 ∧ (0 : Int) ≤ a2 ∧ a2 < M22.2.2.1 (M22.1 a0 7) then if M22.2.1 (M22.1 a0 7) = 12 ∧ (0 : Int) ≤ a2 ∧ a2 < M22.2.2.1 (M22.1 a0 7) then bM (mst M22 (M22.1 a0 7) a2 (w32 ((M22.1 (M22.1 a0 7) a2) - a3))) fun M26 => some (1, M26) else none else none else none else none)))) else (some (0, M)) else none))) else none
set_option maxRecDepth 100000 in
set_option maxHeartbeats 4000000 in
theorem kX9_setOff (d : Nat) (hd : 2 ≤ d) (M : Mem) (a0 a1 a2 a3 : Int) : Ct mX9_setOff d 0 0 [pA a0, pI a1, pI a2, pI a3] M dIM (fX9_setOff M a0 a1 a2 a3) := by
  obtain ⟨d, rfl⟩ : ∃ k, d = k + 1 := ⟨d - 1, by omega⟩
  refine Ct.of 0 (fun _ _ _ => trivial) (by decide +kernel) rfl ?_
  unfold fX9_setOff
  refine v_aload_n dX9_setOff_0 rfl ?_
  refine v_iload_n dX9_setOff_1 rfl ?_
  refine v_if (fun h3 => ?_)
  refine v_cV (mi := mX9_setOff) (c0 := 0) (c1 := 0) (As := [pI a1]) (st := []) (kX9_isFree d (by omega) _ _ _) rfl h3 rfl okX9_isFree (Or.inl tw757) tw758 tw759 rfl (Nat.le_of_ble_eq_true rfl) dX9_setOff_2 (fun r1 => [pI r1]) (fun r1 => M) (fun _ => rfl) (fun _ => rfl) (fun r1 h2 => ?_) rfl
  refine v_if_eq (tgt := 33) dX9_setOff_5 (by decide) (fun c4 => ?_) (fun c4 => ?_)
  · refine v_iconst dX9_setOff_33 (by decide) ?_
    exact v_breturn dX9_setOff_34 rfl (by decide) rfl
  · refine v_aload_n dX9_setOff_8 rfl ?_
    refine v_iload_n dX9_setOff_9 rfl ?_
    refine v_cV (mi := mX9_setOff) (c0 := 0) (c1 := 0) (As := [pI a2]) (st := []) (kX9_isFree d (by omega) _ _ _) rfl h3 rfl okX9_isFree (Or.inl tw757) tw758 tw759 rfl (Nat.le_of_ble_eq_true rfl) dX9_setOff_10 (fun r5 => [pI r5]) (fun r5 => M) (fun _ => rfl) (fun _ => rfl) (fun r5 h6 => ?_) rfl
    refine v_if_eq (tgt := 33) dX9_setOff_13 (by decide) (fun c7 => ?_) (fun c7 => ?_)
    · refine v_iconst dX9_setOff_33 (by decide) ?_
      exact v_breturn dX9_setOff_34 rfl (by decide) rfl
    · refine v_iload_n dX9_setOff_16 rfl ?_
      refine v_iload_n dX9_setOff_17 rfl ?_
      refine v_icmp_eq (tgt := 33) dX9_setOff_18 (by decide) (fun c8 => ?_) (fun c8 => ?_)
      · refine v_iconst dX9_setOff_33 (by decide) ?_
        exact v_breturn dX9_setOff_34 rfl (by decide) rfl
      · refine v_aload_n dX9_setOff_21 rfl ?_
        refine v_get (v := pA (M.1 a0 0)) 8 0 rfl inX9 (by decide) tw315 dX9_setOff_22 h3 rfl ?_
        refine v_iload_n dX9_setOff_25 rfl ?_
        refine v_iload_n dX9_setOff_26 rfl ?_
        refine v_if (fun h11 => ?_)
        refine v_cV (mi := mX9_setOff) (c0 := 0) (c1 := 0) (As := [pI a1, pI a2]) (st := []) (kX7_areKin d (by omega) _ _ _ _) rfl h11 rfl okX7_areKin (Or.inl tw781) tw782 tw783 rfl (Nat.le_of_ble_eq_true rfl) dX9_setOff_27 (fun r9 => [pI r9]) (fun r9 => M) (fun _ => rfl) (fun _ => rfl) (fun r9 h10 => ?_) rfl
        refine v_if_eq (tgt := 35) dX9_setOff_30 (by decide) (fun c12 => ?_) (fun c12 => ?_)
        · refine v_iload_n dX9_setOff_35 rfl ?_
          refine v_iconst dX9_setOff_36 (by decide) ?_
          refine v_icmp_lt (tgt := 59) dX9_setOff_37 (by decide) (fun c13 => ?_) (fun c13 => ?_)
          · refine v_iconst dX9_setOff_59 (by decide) ?_
            exact v_breturn dX9_setOff_60 rfl (by decide) rfl
          · refine v_aload_n dX9_setOff_40 rfl ?_
            refine v_iload_n dX9_setOff_41 rfl ?_
            refine v_cV (mi := mX9_setOff) (c0 := 0) (c1 := 0) (As := [pI a1]) (st := []) (kX9_owesOf d (by omega) _ _ _) rfl h3 rfl okX9_owesOf (Or.inl tw785) tw786 tw787 rfl (Nat.le_of_ble_eq_true rfl) dX9_setOff_42 (fun r14 => [pI r14]) (fun r14 => M) (fun _ => rfl) (fun _ => rfl) (fun r14 h15 => ?_) rfl
            refine v_iload_n dX9_setOff_45 rfl ?_
            refine v_icmp_lt (tgt := 59) dX9_setOff_46 (by decide) (fun c16 => ?_) (fun c16 => ?_)
            · refine v_iconst dX9_setOff_59 (by decide) ?_
              exact v_breturn dX9_setOff_60 rfl (by decide) rfl
            · refine v_aload_n dX9_setOff_49 rfl ?_
              refine v_iload_n dX9_setOff_50 rfl ?_
              refine v_cV (mi := mX9_setOff) (c0 := 0) (c1 := 0) (As := [pI a2]) (st := []) (kX9_owesOf d (by omega) _ _ _) rfl h3 rfl okX9_owesOf (Or.inl tw785) tw786 tw787 rfl (Nat.le_of_ble_eq_true rfl) dX9_setOff_51 (fun r17 => [pI r17]) (fun r17 => M) (fun _ => rfl) (fun _ => rfl) (fun r17 h18 => ?_) rfl
              refine v_ineg dX9_setOff_54 ?_
              refine v_iload_n dX9_setOff_55 rfl ?_
              refine v_icmp_ge (tgt := 61) dX9_setOff_56 (by decide) (fun c19 => ?_) (fun c19 => ?_)
              · refine v_iconst dX9_setOff_59 (by decide) ?_
                exact v_breturn dX9_setOff_60 rfl (by decide) rfl
              · refine v_aload_n dX9_setOff_61 rfl ?_
                refine v_get (v := pA (M.1 a0 7)) 8 7 rfl inX9 (by decide) tw333 dX9_setOff_62 h3 rfl ?_
                refine v_iload_n dX9_setOff_65 rfl ?_
                refine v_dup2 dX9_setOff_66 (by intro z hz; cases hz) (by intro z hz; cases hz) ?_
                refine v_if (fun h20 => ?_)
                refine v_iaload h20 dX9_setOff_67 ?_
                refine v_iload_n dX9_setOff_68 rfl ?_
                refine v_iadd dX9_setOff_69 ?_
                refine v_if (fun h21 => ?_)
                refine v_iastore h21 dX9_setOff_70 ?_
                refine v_bM (fun M22 e23 => ?_)
                refine v_aload_n dX9_setOff_71 rfl ?_
                refine v_get (v := pA (M22.1 a0 7)) 8 7 rfl inX9 (by decide) tw333 dX9_setOff_72 (by rw [e23]; exact h3) rfl ?_
                refine v_iload_n dX9_setOff_75 rfl ?_
                refine v_dup2 dX9_setOff_76 (by intro z hz; cases hz) (by intro z hz; cases hz) ?_
                refine v_if (fun h24 => ?_)
                refine v_iaload h24 dX9_setOff_77 ?_
                refine v_iload_n dX9_setOff_78 rfl ?_
                refine v_isub dX9_setOff_79 ?_
                refine v_if (fun h25 => ?_)
                refine v_iastore h25 dX9_setOff_80 ?_
                refine v_bM (fun M26 e27 => ?_)
                refine v_iconst dX9_setOff_81 (by decide) ?_
                exact v_breturn dX9_setOff_82 rfl (by decide) rfl
        · refine v_iconst dX9_setOff_33 (by decide) ?_
          exact v_breturn dX9_setOff_34 rfl (by decide) rfl
theorem dX9_nightEnds_0 : decode cX9_nightEnds 0 = .ok (.iconst 0, 1) := by decide +kernel
theorem dX9_nightEnds_1 : decode cX9_nightEnds 1 = .ok (.istore_n 1, 1) := by decide +kernel
theorem dX9_nightEnds_2 : decode cX9_nightEnds 2 = .ok (.iload_n 1, 1) := by decide +kernel
theorem dX9_nightEnds_3 : decode cX9_nightEnds 3 = .ok (.aload_n 0, 1) := by decide +kernel
theorem dX9_nightEnds_4 : decode cX9_nightEnds 4 = .ok (.getfield 58, 3) := by decide +kernel
theorem dX9_nightEnds_7 : decode cX9_nightEnds 7 = .ok (.getfield 167, 3) := by decide +kernel
theorem dX9_nightEnds_10 : decode cX9_nightEnds 10 = .ok (.if_icmp .ge 66, 3) := by decide +kernel
theorem dX9_nightEnds_13 : decode cX9_nightEnds 13 = .ok (.aload_n 0, 1) := by decide +kernel
theorem dX9_nightEnds_14 : decode cX9_nightEnds 14 = .ok (.getfield 30, 3) := by decide +kernel
theorem dX9_nightEnds_17 : decode cX9_nightEnds 17 = .ok (.iload_n 1, 1) := by decide +kernel
theorem dX9_nightEnds_18 : decode cX9_nightEnds 18 = .ok (.dup2, 1) := by decide +kernel
theorem dX9_nightEnds_19 : decode cX9_nightEnds 19 = .ok (.iaload, 1) := by decide +kernel
theorem dX9_nightEnds_20 : decode cX9_nightEnds 20 = .ok (.aload_n 0, 1) := by decide +kernel
theorem dX9_nightEnds_21 : decode cX9_nightEnds 21 = .ok (.getfield 36, 3) := by decide +kernel
theorem dX9_nightEnds_24 : decode cX9_nightEnds 24 = .ok (.iload_n 1, 1) := by decide +kernel
theorem dX9_nightEnds_25 : decode cX9_nightEnds 25 = .ok (.iaload, 1) := by decide +kernel
theorem dX9_nightEnds_26 : decode cX9_nightEnds 26 = .ok (.iadd, 1) := by decide +kernel
theorem dX9_nightEnds_27 : decode cX9_nightEnds 27 = .ok (.iastore, 1) := by decide +kernel
theorem dX9_nightEnds_28 : decode cX9_nightEnds 28 = .ok (.aload_n 0, 1) := by decide +kernel
theorem dX9_nightEnds_29 : decode cX9_nightEnds 29 = .ok (.getfield 30, 3) := by decide +kernel
theorem dX9_nightEnds_32 : decode cX9_nightEnds 32 = .ok (.iload_n 1, 1) := by decide +kernel
theorem dX9_nightEnds_33 : decode cX9_nightEnds 33 = .ok (.iaload, 1) := by decide +kernel
theorem dX9_nightEnds_34 : decode cX9_nightEnds 34 = .ok (.aload_n 0, 1) := by decide +kernel
theorem dX9_nightEnds_35 : decode cX9_nightEnds 35 = .ok (.getfield 62, 3) := by decide +kernel
theorem dX9_nightEnds_38 : decode cX9_nightEnds 38 = .ok (.getfield 170, 3) := by decide +kernel
theorem dX9_nightEnds_41 : decode cX9_nightEnds 41 = .ok (.if_icmp .lt 15, 3) := by decide +kernel
theorem dX9_nightEnds_44 : decode cX9_nightEnds 44 = .ok (.aload_n 0, 1) := by decide +kernel
theorem dX9_nightEnds_45 : decode cX9_nightEnds 45 = .ok (.dup, 1) := by decide +kernel
theorem dX9_nightEnds_46 : decode cX9_nightEnds 46 = .ok (.getfield 46, 3) := by decide +kernel
theorem dX9_nightEnds_49 : decode cX9_nightEnds 49 = .ok (.iconst 1, 1) := by decide +kernel
theorem dX9_nightEnds_50 : decode cX9_nightEnds 50 = .ok (.iload_n 1, 1) := by decide +kernel
theorem dX9_nightEnds_51 : decode cX9_nightEnds 51 = .ok (.ishl, 1) := by decide +kernel
theorem dX9_nightEnds_52 : decode cX9_nightEnds 52 = .ok (.ior, 1) := by decide +kernel
theorem dX9_nightEnds_53 : decode cX9_nightEnds 53 = .ok (.putfield 46, 3) := by decide +kernel
theorem dX9_nightEnds_56 : decode cX9_nightEnds 56 = .ok (.aload_n 0, 1) := by decide +kernel
theorem dX9_nightEnds_57 : decode cX9_nightEnds 57 = .ok (.getfield 36, 3) := by decide +kernel
theorem dX9_nightEnds_60 : decode cX9_nightEnds 60 = .ok (.iload_n 1, 1) := by decide +kernel
theorem dX9_nightEnds_61 : decode cX9_nightEnds 61 = .ok (.iconst 0, 1) := by decide +kernel
theorem dX9_nightEnds_62 : decode cX9_nightEnds 62 = .ok (.iastore, 1) := by decide +kernel
theorem dX9_nightEnds_63 : decode cX9_nightEnds 63 = .ok (.aload_n 0, 1) := by decide +kernel
theorem dX9_nightEnds_64 : decode cX9_nightEnds 64 = .ok (.getfield 33, 3) := by decide +kernel
theorem dX9_nightEnds_67 : decode cX9_nightEnds 67 = .ok (.iload_n 1, 1) := by decide +kernel
theorem dX9_nightEnds_68 : decode cX9_nightEnds 68 = .ok (.iconst 0, 1) := by decide +kernel
theorem dX9_nightEnds_69 : decode cX9_nightEnds 69 = .ok (.iastore, 1) := by decide +kernel
theorem dX9_nightEnds_70 : decode cX9_nightEnds 70 = .ok (.iinc 1 1, 3) := by decide +kernel
theorem dX9_nightEnds_73 : decode cX9_nightEnds 73 = .ok (.goto (-71), 3) := by decide +kernel
theorem dX9_nightEnds_76 : decode cX9_nightEnds 76 = .ok (.aload_n 0, 1) := by decide +kernel
theorem dX9_nightEnds_77 : decode cX9_nightEnds 77 = .ok (.dup, 1) := by decide +kernel
theorem dX9_nightEnds_78 : decode cX9_nightEnds 78 = .ok (.getfield 49, 3) := by decide +kernel
theorem dX9_nightEnds_81 : decode cX9_nightEnds 81 = .ok (.iconst 1, 1) := by decide +kernel
theorem dX9_nightEnds_82 : decode cX9_nightEnds 82 = .ok (.iadd, 1) := by decide +kernel
theorem dX9_nightEnds_83 : decode cX9_nightEnds 83 = .ok (.putfield 49, 3) := by decide +kernel
theorem dX9_nightEnds_86 : decode cX9_nightEnds 86 = .ok (.return_, 1) := by decide +kernel
abbrev mX9_nightEnds : MI := (yX9_nightEnds, cX9_nightEnds, 2, none, noE)
theorem okX9_nightEnds : cok mX9_nightEnds 0 := ⟨tw796, tw8, by decide, by decide, by decide, by decide +kernel⟩
def fX9_nightEnds (M : Mem) (a0 : Int) : Option Mem :=
  iterC (fun (rec1 : (Int × Mem) → Option Mem) (s2 : Int × Mem) => if s2.2.2.1 a0 = 8 then if s2.2.2.1 (s2.2.1 a0 0) = 7 then if s2.1 < s2.2.1 (s2.2.1 a0 0) 1 then (if s2.2.2.1 (s2.2.1 a0 8) = 12 ∧ (0 : Int) ≤ s2.1 ∧ s2.1 < s2.2.2.2.1 (s2.2.1 a0 8) then if s2.2.2.1 (s2.2.1 a0 10) = 12 ∧ (0 : Int) ≤ s2.1 ∧ s2.1 < s2.2.2.2.1 (s2.2.1 a0 10) then if s2.2.2.1 (s2.2.1 a0 8) = 12 ∧ (0 : Int) ≤ s2.1 ∧ s2.1 < s2.2.2.2.1 (s2.2.1 a0 8) then bM (mst s2.2 (s2.2.1 a0 8) s2.1 (w32 ((s2.2.1 (s2.2.1 a0 8) s2.1) + (s2.2.1 (s2.2.1 a0 10) s2.1)))) fun M9 => if M9.2.1 (M9.1 a0 8) = 12 ∧ (0 : Int) ≤ s2.1 ∧ s2.1 < M9.2.2.1 (M9.1 a0 8) then if M9.2.1 (M9.1 a0 1) = 0 then jn (fun (t14 : Mem) => if t14.2.1 a0 = 8 then if t14.2.1 (t14.1 a0 10) = 12 ∧ (0 : Int) ≤ s2.1 ∧ s2.1 < t14.2.2.1 (t14.1 a0 10) then bM (mst t14 (t14.1 a0 10) s2.1 0) fun M17 => if M17.2.1 (M17.1 a0 9) = 12 ∧ (0 : Int) ≤ s2.1 ∧ s2.1 < M17.2.2.1 (M17.1 a0 9) then bM (mst M17 (M17.1 a0 9) s2.1 0) fun M20 => rec1 (w32 (s2.1 + 1), M20) else none else none else none) (fun (j13 : Mem → Option Mem) => if M9.1 (M9.1 a0 8) s2.1 < M9.1 (M9.1 a0 1) 1 then (j13 M9) else (bM (mst M9 a0 13 (bOr (M9.1 a0 13) (bShl 1 s2.1))) fun M23 => j13 M23)) else none else none else none else none else none) else (bM (mst s2.2 a0 14 (w32 ((s2.2.1 a0 14) + 1))) fun M25 => some M25) else none else none) BIG (0, M)
set_option maxRecDepth 100000 in
set_option maxHeartbeats 4000000 in
theorem kX9_nightEnds (d : Nat) (hd : 0 ≤ d) (M : Mem) (a0 : Int) : Ct mX9_nightEnds d 0 0 [pA a0] M dV (fX9_nightEnds M a0) := by
  refine Ct.of 1 (fun _ _ _ => trivial) (by decide +kernel) rfl ?_
  unfold fX9_nightEnds
  refine v_iconst dX9_nightEnds_0 (by decide) ?_
  refine v_istore_n (ls' := [some (pA a0), some (pI 0)]) dX9_nightEnds_1 (by decide) rfl ?_
  refine v_loop (fun (s2 : Int × Mem) => [some (pA a0), some (pI s2.1)]) (fun (s2 : Int × Mem) => s2.2) (s0 := (0, M)) ?_
  intro rec1 hrec1 s2
  refine v_iload_n dX9_nightEnds_2 rfl ?_
  refine v_aload_n dX9_nightEnds_3 rfl ?_
  refine v_if (fun h3 => ?_)
  refine v_get (v := pA (s2.2.1 a0 0)) 8 0 rfl inX9 (by decide) tw315 dX9_nightEnds_4 h3 rfl ?_
  refine v_if (fun h4 => ?_)
  refine v_get (v := pI (s2.2.1 (s2.2.1 a0 0) 1)) 7 1 rfl inX7 (by decide) tw65 dX9_nightEnds_7 h4 rfl ?_
  refine v_icmp_ge (tgt := 76) dX9_nightEnds_10 (by decide) (fun c5 => ?_) (fun c5 => ?_)
  · refine v_aload_n dX9_nightEnds_13 rfl ?_
    refine v_get (v := pA (s2.2.1 a0 8)) 8 8 rfl inX9 (by decide) tw335 dX9_nightEnds_14 h3 rfl ?_
    refine v_iload_n dX9_nightEnds_17 rfl ?_
    refine v_dup2 dX9_nightEnds_18 (by intro z hz; cases hz) (by intro z hz; cases hz) ?_
    refine v_if (fun h6 => ?_)
    refine v_iaload h6 dX9_nightEnds_19 ?_
    refine v_aload_n dX9_nightEnds_20 rfl ?_
    refine v_get (v := pA (s2.2.1 a0 10)) 8 10 rfl inX9 (by decide) tw338 dX9_nightEnds_21 h3 rfl ?_
    refine v_iload_n dX9_nightEnds_24 rfl ?_
    refine v_if (fun h7 => ?_)
    refine v_iaload h7 dX9_nightEnds_25 ?_
    refine v_iadd dX9_nightEnds_26 ?_
    refine v_if (fun h8 => ?_)
    refine v_iastore h8 dX9_nightEnds_27 ?_
    refine v_bM (fun M9 e10 => ?_)
    refine v_aload_n dX9_nightEnds_28 rfl ?_
    refine v_get (v := pA (M9.1 a0 8)) 8 8 rfl inX9 (by decide) tw335 dX9_nightEnds_29 (by rw [e10]; exact h3) rfl ?_
    refine v_iload_n dX9_nightEnds_32 rfl ?_
    refine v_if (fun h11 => ?_)
    refine v_iaload h11 dX9_nightEnds_33 ?_
    refine v_aload_n dX9_nightEnds_34 rfl ?_
    refine v_get (v := pA (M9.1 a0 1)) 8 1 rfl inX9 (by decide) tw318 dX9_nightEnds_35 (by rw [e10]; exact h3) rfl ?_
    refine v_if (fun h12 => ?_)
    refine v_get (v := pI (M9.1 (M9.1 a0 1) 1)) 0 1 rfl inX0 (by decide) tw132 dX9_nightEnds_38 h12 rfl ?_
    refine v_join (fun (t14 : Mem) => [some (pA a0), some (pI s2.1)]) (fun (t14 : Mem) => []) (fun (t14 : Mem) => t14) 56 (fun t14 => ?_) (fun j13 hj13 => ?_)
    · refine v_aload_n dX9_nightEnds_56 rfl ?_
      refine v_if (fun h15 => ?_)
      refine v_get (v := pA (t14.1 a0 10)) 8 10 rfl inX9 (by decide) tw338 dX9_nightEnds_57 h15 rfl ?_
      refine v_iload_n dX9_nightEnds_60 rfl ?_
      refine v_iconst dX9_nightEnds_61 (by decide) ?_
      refine v_if (fun h16 => ?_)
      refine v_iastore h16 dX9_nightEnds_62 ?_
      refine v_bM (fun M17 e18 => ?_)
      refine v_aload_n dX9_nightEnds_63 rfl ?_
      refine v_get (v := pA (M17.1 a0 9)) 8 9 rfl inX9 (by decide) tw337 dX9_nightEnds_64 (by rw [e18]; exact h15) rfl ?_
      refine v_iload_n dX9_nightEnds_67 rfl ?_
      refine v_iconst dX9_nightEnds_68 (by decide) ?_
      refine v_if (fun h19 => ?_)
      refine v_iastore h19 dX9_nightEnds_69 ?_
      refine v_bM (fun M20 e21 => ?_)
      refine v_iinc (ls' := [some (pA a0), some (pI (w32 (s2.1 + 1)))]) dX9_nightEnds_70 (by decide) rfl rfl ?_
      refine v_goto (tgt := 2) dX9_nightEnds_73 (by decide) ?_
      exact hrec1 (w32 (s2.1 + 1), M20)
    · refine v_icmp_lt (tgt := 56) dX9_nightEnds_41 (by decide) (fun c22 => ?_) (fun c22 => ?_)
      · exact hj13 M9
      · refine v_aload_n dX9_nightEnds_44 rfl ?_
        refine v_dup dX9_nightEnds_45 (by intro z hz; cases hz) ?_
        refine v_get (v := pI (M9.1 a0 13)) 8 13 rfl inX9 (by decide) tw342 dX9_nightEnds_46 (by rw [e10]; exact h3) rfl ?_
        refine v_iconst dX9_nightEnds_49 (by decide) ?_
        refine v_iload_n dX9_nightEnds_50 rfl ?_
        refine v_ishl dX9_nightEnds_51 ?_
        refine v_ior dX9_nightEnds_52 ?_
        refine v_put (x := bOr (M9.1 a0 13) (bShl 1 s2.1)) 8 13 rfl inX9 (by decide) tw342 (Or.inl rfl) rfl dX9_nightEnds_53 (by rw [e10]; exact h3) rfl id ?_
        refine v_bM (fun M23 e24 => ?_)
        exact hj13 M23
  · refine v_aload_n dX9_nightEnds_76 rfl ?_
    refine v_dup dX9_nightEnds_77 (by intro z hz; cases hz) ?_
    refine v_get (v := pI (s2.2.1 a0 14)) 8 14 rfl inX9 (by decide) tw344 dX9_nightEnds_78 h3 rfl ?_
    refine v_iconst dX9_nightEnds_81 (by decide) ?_
    refine v_iadd dX9_nightEnds_82 ?_
    refine v_put (x := w32 ((s2.2.1 a0 14) + 1)) 8 14 rfl inX9 (by decide) tw344 (Or.inl rfl) rfl dX9_nightEnds_83 h3 rfl id ?_
    refine v_bM (fun M25 e26 => ?_)
    exact v_return dX9_nightEnds_86 rfl rfl
theorem dX9_act_0 : decode cX9_act 0 = .ok (.aload_n 1, 1) := by decide +kernel
theorem dX9_act_1 : decode cX9_act 1 = .ok (.getfield 92, 3) := by decide +kernel
theorem dX9_act_4 : decode cX9_act 4 = .ok (.iload_n 2, 1) := by decide +kernel
theorem dX9_act_5 : decode cX9_act 5 = .ok (.iaload, 1) := by decide +kernel
theorem dX9_act_6 : decode cX9_act 6 = .ok (.istore_n 3, 1) := by decide +kernel
theorem dX9_act_7 : decode cX9_act 7 = .ok (.aload_n 1, 1) := by decide +kernel
theorem dX9_act_8 : decode cX9_act 8 = .ok (.getfield 95, 3) := by decide +kernel
theorem dX9_act_11 : decode cX9_act 11 = .ok (.iload_n 2, 1) := by decide +kernel
theorem dX9_act_12 : decode cX9_act 12 = .ok (.iaload, 1) := by decide +kernel
theorem dX9_act_13 : decode cX9_act 13 = .ok (.istore 4, 2) := by decide +kernel
theorem dX9_act_15 : decode cX9_act 15 = .ok (.aload_n 1, 1) := by decide +kernel
theorem dX9_act_16 : decode cX9_act 16 = .ok (.getfield 98, 3) := by decide +kernel
theorem dX9_act_19 : decode cX9_act 19 = .ok (.iload_n 2, 1) := by decide +kernel
theorem dX9_act_20 : decode cX9_act 20 = .ok (.iaload, 1) := by decide +kernel
theorem dX9_act_21 : decode cX9_act 21 = .ok (.istore 5, 2) := by decide +kernel
theorem dX9_act_23 : decode cX9_act 23 = .ok (.aload_n 1, 1) := by decide +kernel
theorem dX9_act_24 : decode cX9_act 24 = .ok (.getfield 101, 3) := by decide +kernel
theorem dX9_act_27 : decode cX9_act 27 = .ok (.iload_n 2, 1) := by decide +kernel
theorem dX9_act_28 : decode cX9_act 28 = .ok (.iaload, 1) := by decide +kernel
theorem dX9_act_29 : decode cX9_act 29 = .ok (.tableswitch 57 0 2 #[27, 37, 47], 27) := by decide +kernel
theorem dX9_act_56 : decode cX9_act 56 = .ok (.aload_n 0, 1) := by decide +kernel
theorem dX9_act_57 : decode cX9_act 57 = .ok (.iload_n 3, 1) := by decide +kernel
theorem dX9_act_58 : decode cX9_act 58 = .ok (.iload 4, 2) := by decide +kernel
theorem dX9_act_60 : decode cX9_act 60 = .ok (.iload 5, 2) := by decide +kernel
theorem dX9_act_62 : decode cX9_act 62 = .ok (.invokevirtual 104, 3) := by decide +kernel
theorem dX9_act_65 : decode cX9_act 65 = .ok (.ireturn, 1) := by decide +kernel
theorem dX9_act_66 : decode cX9_act 66 = .ok (.aload_n 0, 1) := by decide +kernel
theorem dX9_act_67 : decode cX9_act 67 = .ok (.iload_n 3, 1) := by decide +kernel
theorem dX9_act_68 : decode cX9_act 68 = .ok (.iload 4, 2) := by decide +kernel
theorem dX9_act_70 : decode cX9_act 70 = .ok (.iload 5, 2) := by decide +kernel
theorem dX9_act_72 : decode cX9_act 72 = .ok (.invokevirtual 108, 3) := by decide +kernel
theorem dX9_act_75 : decode cX9_act 75 = .ok (.ireturn, 1) := by decide +kernel
theorem dX9_act_76 : decode cX9_act 76 = .ok (.aload_n 0, 1) := by decide +kernel
theorem dX9_act_77 : decode cX9_act 77 = .ok (.iload_n 3, 1) := by decide +kernel
theorem dX9_act_78 : decode cX9_act 78 = .ok (.iload 4, 2) := by decide +kernel
theorem dX9_act_80 : decode cX9_act 80 = .ok (.iload 5, 2) := by decide +kernel
theorem dX9_act_82 : decode cX9_act 82 = .ok (.invokevirtual 111, 3) := by decide +kernel
theorem dX9_act_85 : decode cX9_act 85 = .ok (.ireturn, 1) := by decide +kernel
theorem dX9_act_86 : decode cX9_act 86 = .ok (.aload_n 0, 1) := by decide +kernel
theorem dX9_act_87 : decode cX9_act 87 = .ok (.invokevirtual 114, 3) := by decide +kernel
theorem dX9_act_90 : decode cX9_act 90 = .ok (.iconst 1, 1) := by decide +kernel
theorem dX9_act_91 : decode cX9_act 91 = .ok (.ireturn, 1) := by decide +kernel
abbrev mX9_act : MI := (yX9_act, cX9_act, 6, (some .boolean), noE)
theorem okX9_act : cok mX9_act 2 := ⟨tw752, tw8, by decide, by decide, by decide, by decide +kernel⟩
def fX9_act (M : Mem) (a0 a1 a2 : Int) : Option (Int × Mem) :=
  if M.2.1 a1 = 1 then if M.2.1 (M.1 a1 2) = 12 ∧ (0 : Int) ≤ a2 ∧ a2 < M.2.2.1 (M.1 a1 2) then if M.2.1 (M.1 a1 3) = 12 ∧ (0 : Int) ≤ a2 ∧ a2 < M.2.2.1 (M.1 a1 3) then if M.2.1 (M.1 a1 4) = 12 ∧ (0 : Int) ≤ a2 ∧ a2 < M.2.2.1 (M.1 a1 4) then if M.2.1 (M.1 a1 1) = 12 ∧ (0 : Int) ≤ a2 ∧ a2 < M.2.2.1 (M.1 a1 1) then if M.1 (M.1 a1 1) a2 = 0 then (if M.2.1 a0 = 8 then (fX9_takeOne M a0 (M.1 (M.1 a1 2) a2) (M.1 (M.1 a1 3) a2) (M.1 (M.1 a1 4) a2)).bind fun r7 => if r7.1 = 0 ∨ r7.1 = 1 then some (r7.1, r7.2) else none else none) else if M.1 (M.1 a1 1) a2 = 1 then (if M.2.1 a0 = 8 then (fX9_giveOne M a0 (M.1 (M.1 a1 2) a2) (M.1 (M.1 a1 3) a2) (M.1 (M.1 a1 4) a2)).bind fun r12 => if r12.1 = 0 ∨ r12.1 = 1 then some (r12.1, r12.2) else none else none) else if M.1 (M.1 a1 1) a2 = 2 then (if M.2.1 a0 = 8 then (fX9_setOff M a0 (M.1 (M.1 a1 2) a2) (M.1 (M.1 a1 3) a2) (M.1 (M.1 a1 4) a2)).bind fun r17 => if r17.1 = 0 ∨ r17.1 = 1 then some (r17.1, r17.2) else none else none) else if M.2.1 a0 = 8 then (fX9_nightEnds M a0).bind fun r21 => some (1, r21) else none else none else none else none else none else none
set_option maxRecDepth 100000 in
set_option maxHeartbeats 4000000 in
theorem kX9_act (d : Nat) (hd : 3 ≤ d) (M : Mem) (a0 a1 a2 : Int) : Ct mX9_act d 0 0 [pA a0, pA a1, pI a2] M dIM (fX9_act M a0 a1 a2) := by
  obtain ⟨d, rfl⟩ : ∃ k, d = k + 1 := ⟨d - 1, by omega⟩
  refine Ct.of 3 (fun _ _ _ => trivial) (by decide +kernel) rfl ?_
  unfold fX9_act
  refine v_aload_n dX9_act_0 rfl ?_
  refine v_if (fun h1 => ?_)
  refine v_get (v := pA (M.1 a1 2)) 1 2 rfl inX1 (by decide) tw156 dX9_act_1 h1 rfl ?_
  refine v_iload_n dX9_act_4 rfl ?_
  refine v_if (fun h2 => ?_)
  refine v_iaload h2 dX9_act_5 ?_
  refine v_istore_n (ls' := [some (pA a0), some (pA a1), some (pI a2), some (pI (M.1 (M.1 a1 2) a2)), none, none]) dX9_act_6 (by decide) rfl ?_
  refine v_aload_n dX9_act_7 rfl ?_
  refine v_get (v := pA (M.1 a1 3)) 1 3 rfl inX1 (by decide) tw159 dX9_act_8 h1 rfl ?_
  refine v_iload_n dX9_act_11 rfl ?_
  refine v_if (fun h3 => ?_)
  refine v_iaload h3 dX9_act_12 ?_
  refine v_istore (ls' := [some (pA a0), some (pA a1), some (pI a2), some (pI (M.1 (M.1 a1 2) a2)), some (pI (M.1 (M.1 a1 3) a2)), none]) dX9_act_13 (by decide) rfl ?_
  refine v_aload_n dX9_act_15 rfl ?_
  refine v_get (v := pA (M.1 a1 4)) 1 4 rfl inX1 (by decide) tw162 dX9_act_16 h1 rfl ?_
  refine v_iload_n dX9_act_19 rfl ?_
  refine v_if (fun h4 => ?_)
  refine v_iaload h4 dX9_act_20 ?_
  refine v_istore (ls' := [some (pA a0), some (pA a1), some (pI a2), some (pI (M.1 (M.1 a1 2) a2)), some (pI (M.1 (M.1 a1 3) a2)), some (pI (M.1 (M.1 a1 4) a2))]) dX9_act_21 (by decide) rfl ?_
  refine v_aload_n dX9_act_23 rfl ?_
  refine v_get (v := pA (M.1 a1 1)) 1 1 rfl inX1 (by decide) tw153 dX9_act_24 h1 rfl ?_
  refine v_iload_n dX9_act_27 rfl ?_
  refine v_if (fun h5 => ?_)
  refine v_iaload h5 dX9_act_28 ?_
  refine v_ite (fun h6 => ?_) (fun h6 => ?_)
  · refine v_tabIn (off := 27) (tgt := 56) dX9_act_29 h6 (by decide) ?_
    refine v_aload_n dX9_act_56 rfl ?_
    refine v_iload_n dX9_act_57 rfl ?_
    refine v_iload dX9_act_58 rfl ?_
    refine v_iload dX9_act_60 rfl ?_
    refine v_if (fun h9 => ?_)
    refine v_cV (mi := mX9_act) (c0 := 0) (c1 := 0) (As := [pI (M.1 (M.1 a1 2) a2), pI (M.1 (M.1 a1 3) a2), pI (M.1 (M.1 a1 4) a2)]) (st := []) (kX9_takeOne d (by omega) _ _ _ _ _) rfl h9 rfl okX9_takeOne (Or.inl tw753) tw754 tw755 rfl (Nat.le_of_ble_eq_true rfl) dX9_act_62 (fun r7 => [pI r7.1]) (fun r7 => r7.2) (fun _ => rfl) (fun _ => rfl) (fun r7 h8 => ?_) rfl
    refine v_if (fun h10 => ?_)
    exact v_breturn dX9_act_65 rfl h10 rfl
  · refine v_ite (fun h11 => ?_) (fun h11 => ?_)
    · refine v_tabIn (off := 37) (tgt := 66) dX9_act_29 h11 (by decide) ?_
      refine v_aload_n dX9_act_66 rfl ?_
      refine v_iload_n dX9_act_67 rfl ?_
      refine v_iload dX9_act_68 rfl ?_
      refine v_iload dX9_act_70 rfl ?_
      refine v_if (fun h14 => ?_)
      refine v_cV (mi := mX9_act) (c0 := 0) (c1 := 0) (As := [pI (M.1 (M.1 a1 2) a2), pI (M.1 (M.1 a1 3) a2), pI (M.1 (M.1 a1 4) a2)]) (st := []) (kX9_giveOne d (by omega) _ _ _ _ _) rfl h14 rfl okX9_giveOne (Or.inl tw768) tw769 tw770 rfl (Nat.le_of_ble_eq_true rfl) dX9_act_72 (fun r12 => [pI r12.1]) (fun r12 => r12.2) (fun _ => rfl) (fun _ => rfl) (fun r12 h13 => ?_) rfl
      refine v_if (fun h15 => ?_)
      exact v_breturn dX9_act_75 rfl h15 rfl
    · refine v_ite (fun h16 => ?_) (fun h16 => ?_)
      · refine v_tabIn (off := 47) (tgt := 76) dX9_act_29 h16 (by decide) ?_
        refine v_aload_n dX9_act_76 rfl ?_
        refine v_iload_n dX9_act_77 rfl ?_
        refine v_iload dX9_act_78 rfl ?_
        refine v_iload dX9_act_80 rfl ?_
        refine v_if (fun h19 => ?_)
        refine v_cV (mi := mX9_act) (c0 := 0) (c1 := 0) (As := [pI (M.1 (M.1 a1 2) a2), pI (M.1 (M.1 a1 3) a2), pI (M.1 (M.1 a1 4) a2)]) (st := []) (kX9_setOff d (by omega) _ _ _ _ _) rfl h19 rfl okX9_setOff (Or.inl tw777) tw778 tw779 rfl (Nat.le_of_ble_eq_true rfl) dX9_act_82 (fun r17 => [pI r17.1]) (fun r17 => r17.2) (fun _ => rfl) (fun _ => rfl) (fun r17 h18 => ?_) rfl
        refine v_if (fun h20 => ?_)
        exact v_breturn dX9_act_85 rfl h20 rfl
      · refine v_tabOut (tgt := 86) dX9_act_29 (by omega) (by decide) ?_
        refine v_aload_n dX9_act_86 rfl ?_
        refine v_if (fun h23 => ?_)
        refine v_cV (mi := mX9_act) (c0 := 0) (c1 := 0) (As := []) (st := []) (kX9_nightEnds d (by omega) _ _) rfl h23 rfl okX9_nightEnds (Or.inl tw793) tw794 tw795 rfl (Nat.le_of_ble_eq_true rfl) dX9_act_87 (fun r21 => []) (fun r21 => r21) (fun _ => rfl) (fun _ => rfl) (fun r21 h22 => ?_) rfl
        refine v_iconst dX9_act_90 (by decide) ?_
        exact v_breturn dX9_act_91 rfl (by decide) rfl
theorem dX9_follow_0 : decode cX9_follow 0 = .ok (.iload_n 2, 1) := by decide +kernel
theorem dX9_follow_1 : decode cX9_follow 1 = .ok (.aload_n 1, 1) := by decide +kernel
theorem dX9_follow_2 : decode cX9_follow 2 = .ok (.getfield 77, 3) := by decide +kernel
theorem dX9_follow_5 : decode cX9_follow 5 = .ok (.invokestatic 82, 3) := by decide +kernel
theorem dX9_follow_8 : decode cX9_follow 8 = .ok (.istore_n 3, 1) := by decide +kernel
theorem dX9_follow_9 : decode cX9_follow 9 = .ok (.aload_n 0, 1) := by decide +kernel
theorem dX9_follow_10 : decode cX9_follow 10 = .ok (.getfield 52, 3) := by decide +kernel
theorem dX9_follow_13 : decode cX9_follow 13 = .ok (.iload_n 3, 1) := by decide +kernel
theorem dX9_follow_14 : decode cX9_follow 14 = .ok (.if_icmp .ge 28, 3) := by decide +kernel
theorem dX9_follow_17 : decode cX9_follow 17 = .ok (.aload_n 0, 1) := by decide +kernel
theorem dX9_follow_18 : decode cX9_follow 18 = .ok (.aload_n 1, 1) := by decide +kernel
theorem dX9_follow_19 : decode cX9_follow 19 = .ok (.aload_n 0, 1) := by decide +kernel
theorem dX9_follow_20 : decode cX9_follow 20 = .ok (.getfield 52, 3) := by decide +kernel
theorem dX9_follow_23 : decode cX9_follow 23 = .ok (.invokevirtual 88, 3) := by decide +kernel
theorem dX9_follow_26 : decode cX9_follow 26 = .ok (.ifCond .eq 16, 3) := by decide +kernel
theorem dX9_follow_29 : decode cX9_follow 29 = .ok (.aload_n 0, 1) := by decide +kernel
theorem dX9_follow_30 : decode cX9_follow 30 = .ok (.dup, 1) := by decide +kernel
theorem dX9_follow_31 : decode cX9_follow 31 = .ok (.getfield 52, 3) := by decide +kernel
theorem dX9_follow_34 : decode cX9_follow 34 = .ok (.iconst 1, 1) := by decide +kernel
theorem dX9_follow_35 : decode cX9_follow 35 = .ok (.iadd, 1) := by decide +kernel
theorem dX9_follow_36 : decode cX9_follow 36 = .ok (.putfield 52, 3) := by decide +kernel
theorem dX9_follow_39 : decode cX9_follow 39 = .ok (.goto (-30), 3) := by decide +kernel
theorem dX9_follow_42 : decode cX9_follow 42 = .ok (.return_, 1) := by decide +kernel
abbrev mX9_follow : MI := (yX9_follow, cX9_follow, 4, none, noE)
theorem okX9_follow : cok mX9_follow 2 := ⟨tw747, tw8, by decide, by decide, by decide, by decide +kernel⟩
def fX9_follow (M : Mem) (a0 a1 a2 : Int) : Option Mem :=
  if M.2.1 a1 = 1 then iterC (fun (rec2 : Mem → Option Mem) (s3 : Mem) => if s3.2.1 a0 = 8 then if s3.1 a0 15 < imin a2 (M.1 a1 0) then ((fX9_act s3 a0 a1 (s3.1 a0 15)).bind fun r6 => if r6.1 = 0 then (some r6.2) else (if r6.2.2.1 a0 = 8 then bM (mst r6.2 a0 15 (w32 ((r6.2.1 a0 15) + 1))) fun M10 => rec2 M10 else none)) else (some s3) else none) BIG M else none
set_option maxRecDepth 100000 in
set_option maxHeartbeats 4000000 in
theorem kX9_follow (d : Nat) (hd : 4 ≤ d) (M : Mem) (a0 a1 a2 : Int) : Ct mX9_follow d 0 0 [pA a0, pA a1, pI a2] M dV (fX9_follow M a0 a1 a2) := by
  obtain ⟨d, rfl⟩ : ∃ k, d = k + 1 := ⟨d - 1, by omega⟩
  refine Ct.of 1 (fun _ _ _ => trivial) (by decide +kernel) rfl ?_
  unfold fX9_follow
  refine v_iload_n dX9_follow_0 rfl ?_
  refine v_aload_n dX9_follow_1 rfl ?_
  refine v_if (fun h1 => ?_)
  refine v_get (v := pI (M.1 a1 0)) 1 0 rfl inX1 (by decide) tw149 dX9_follow_2 h1 rfl ?_
  refine v_mmin (mi := mX9_follow) tw748 tw469 tw12 tw470 (Nat.le_of_ble_eq_true rfl) dX9_follow_5 ?_
  refine v_istore_n (ls' := [some (pA a0), some (pA a1), some (pI a2), some (pI (imin a2 (M.1 a1 0)))]) dX9_follow_8 (by decide) rfl ?_
  refine v_drop [some (pA a0), some (pA a1), none, some (pI (imin a2 (M.1 a1 0)))] (ls_s (ls_s (ls_n (ls_s ls_e)))) ?_
  refine v_loop (fun (s3 : Mem) => [some (pA a0), some (pA a1), none, some (pI (imin a2 (M.1 a1 0)))]) (fun (s3 : Mem) => s3) (s0 := M) ?_
  intro rec2 hrec2 s3
  refine v_aload_n dX9_follow_9 rfl ?_
  refine v_if (fun h4 => ?_)
  refine v_get (v := pI (s3.1 a0 15)) 8 15 rfl inX9 (by decide) tw346 dX9_follow_10 h4 rfl ?_
  refine v_iload_n dX9_follow_13 rfl ?_
  refine v_icmp_ge (tgt := 42) dX9_follow_14 (by decide) (fun c5 => ?_) (fun c5 => ?_)
  · refine v_aload_n dX9_follow_17 rfl ?_
    refine v_aload_n dX9_follow_18 rfl ?_
    refine v_aload_n dX9_follow_19 rfl ?_
    refine v_get (v := pI (s3.1 a0 15)) 8 15 rfl inX9 (by decide) tw346 dX9_follow_20 h4 rfl ?_
    refine v_cV (mi := mX9_follow) (c0 := 0) (c1 := 0) (As := [pA a1, pI (s3.1 a0 15)]) (st := []) (kX9_act d (by omega) _ _ _ _) rfl h4 rfl okX9_act (Or.inl tw749) tw751 tp15 rfl (Nat.le_of_ble_eq_true rfl) dX9_follow_23 (fun r6 => [pI r6.1]) (fun r6 => r6.2) (fun _ => rfl) (fun _ => rfl) (fun r6 h7 => ?_) rfl
    refine v_if_eq (tgt := 42) dX9_follow_26 (by decide) (fun c8 => ?_) (fun c8 => ?_)
    · exact v_return dX9_follow_42 rfl rfl
    · refine v_aload_n dX9_follow_29 rfl ?_
      refine v_dup dX9_follow_30 (by intro z hz; cases hz) ?_
      refine v_if (fun h9 => ?_)
      refine v_get (v := pI (r6.2.1 a0 15)) 8 15 rfl inX9 (by decide) tw346 dX9_follow_31 h9 rfl ?_
      refine v_iconst dX9_follow_34 (by decide) ?_
      refine v_iadd dX9_follow_35 ?_
      refine v_put (x := w32 ((r6.2.1 a0 15) + 1)) 8 15 rfl inX9 (by decide) tw346 (Or.inl rfl) rfl dX9_follow_36 h9 rfl id ?_
      refine v_bM (fun M10 e11 => ?_)
      refine v_goto (tgt := 9) dX9_follow_39 (by decide) ?_
      exact hrec2 M10
  · exact v_return dX9_follow_42 rfl rfl
theorem dX9_lackOf_0 : decode cX9_lackOf 0 = .ok (.iconst 0, 1) := by decide +kernel
theorem dX9_lackOf_1 : decode cX9_lackOf 1 = .ok (.aload_n 0, 1) := by decide +kernel
theorem dX9_lackOf_2 : decode cX9_lackOf 2 = .ok (.getfield 58, 3) := by decide +kernel
theorem dX9_lackOf_5 : decode cX9_lackOf 5 = .ok (.getfield 127, 3) := by decide +kernel
theorem dX9_lackOf_8 : decode cX9_lackOf 8 = .ok (.iload_n 1, 1) := by decide +kernel
theorem dX9_lackOf_9 : decode cX9_lackOf 9 = .ok (.iload_n 2, 1) := by decide +kernel
theorem dX9_lackOf_10 : decode cX9_lackOf 10 = .ok (.invokestatic 130, 3) := by decide +kernel
theorem dX9_lackOf_13 : decode cX9_lackOf 13 = .ok (.iaload, 1) := by decide +kernel
theorem dX9_lackOf_14 : decode cX9_lackOf 14 = .ok (.aload_n 0, 1) := by decide +kernel
theorem dX9_lackOf_15 : decode cX9_lackOf 15 = .ok (.getfield 9, 3) := by decide +kernel
theorem dX9_lackOf_18 : decode cX9_lackOf 18 = .ok (.iload_n 1, 1) := by decide +kernel
theorem dX9_lackOf_19 : decode cX9_lackOf 19 = .ok (.iload_n 2, 1) := by decide +kernel
theorem dX9_lackOf_20 : decode cX9_lackOf 20 = .ok (.invokestatic 130, 3) := by decide +kernel
theorem dX9_lackOf_23 : decode cX9_lackOf 23 = .ok (.iaload, 1) := by decide +kernel
theorem dX9_lackOf_24 : decode cX9_lackOf 24 = .ok (.isub, 1) := by decide +kernel
theorem dX9_lackOf_25 : decode cX9_lackOf 25 = .ok (.invokestatic 133, 3) := by decide +kernel
theorem dX9_lackOf_28 : decode cX9_lackOf 28 = .ok (.ireturn, 1) := by decide +kernel
abbrev mX9_lackOf : MI := (yX9_lackOf, cX9_lackOf, 3, (some .int), noE)
theorem okX9_lackOf : cok mX9_lackOf 2 := ⟨tw827, tw8, by decide, by decide, by decide, by decide +kernel⟩
def fX9_lackOf (M : Mem) (a0 a1 a2 : Int) : Option Int :=
  if M.2.1 a0 = 8 then if M.2.1 (M.1 a0 0) = 7 then (fX10_cell M a1 a2).bind fun r3 => if M.2.1 (M.1 (M.1 a0 0) 3) = 12 ∧ (0 : Int) ≤ r3 ∧ r3 < M.2.2.1 (M.1 (M.1 a0 0) 3) then (fX10_cell M a1 a2).bind fun r6 => if M.2.1 (M.1 a0 2) = 12 ∧ (0 : Int) ≤ r6 ∧ r6 < M.2.2.1 (M.1 a0 2) then some (imax 0 (w32 ((M.1 (M.1 (M.1 a0 0) 3) r3) - (M.1 (M.1 a0 2) r6)))) else none else none else none else none
set_option maxRecDepth 100000 in
set_option maxHeartbeats 4000000 in
theorem kX9_lackOf (d : Nat) (hd : 1 ≤ d) (M : Mem) (a0 a1 a2 : Int) : Ct mX9_lackOf d 0 0 [pA a0, pI a1, pI a2] M (dI M) (fX9_lackOf M a0 a1 a2) := by
  obtain ⟨d, rfl⟩ : ∃ k, d = k + 1 := ⟨d - 1, by omega⟩
  refine Ct.of 0 (fun _ _ _ => trivial) (by decide +kernel) rfl ?_
  unfold fX9_lackOf
  refine v_iconst dX9_lackOf_0 (by decide) ?_
  refine v_aload_n dX9_lackOf_1 rfl ?_
  refine v_if (fun h1 => ?_)
  refine v_get (v := pA (M.1 a0 0)) 8 0 rfl inX9 (by decide) tw315 dX9_lackOf_2 h1 rfl ?_
  refine v_if (fun h2 => ?_)
  refine v_get (v := pA (M.1 (M.1 a0 0) 3)) 7 3 rfl inX7 (by decide) tw73 dX9_lackOf_5 h2 rfl ?_
  refine v_iload_n dX9_lackOf_8 rfl ?_
  refine v_iload_n dX9_lackOf_9 rfl ?_
  refine v_cS (mi := mX9_lackOf) (c0 := 0) (c1 := 0) (As := [pI a1, pI a2]) (st := [pA (M.1 (M.1 a0 0) 3), pI 0]) (kX10_cell d (by omega) _ _ _) okX10_cell (Or.inr nw16) tw621 rfl (Nat.le_of_ble_eq_true rfl) dX9_lackOf_10 (fun r3 => [pI r3, pA (M.1 (M.1 a0 0) 3), pI 0]) (fun r3 => M) (fun _ => rfl) (fun _ => rfl) (fun r3 h4 => ?_) rfl
  refine v_if (fun h5 => ?_)
  refine v_iaload h5 dX9_lackOf_13 ?_
  refine v_aload_n dX9_lackOf_14 rfl ?_
  refine v_get (v := pA (M.1 a0 2)) 8 2 rfl inX9 (by decide) tw320 dX9_lackOf_15 h1 rfl ?_
  refine v_iload_n dX9_lackOf_18 rfl ?_
  refine v_iload_n dX9_lackOf_19 rfl ?_
  refine v_cS (mi := mX9_lackOf) (c0 := 0) (c1 := 0) (As := [pI a1, pI a2]) (st := [pA (M.1 a0 2), pI (M.1 (M.1 (M.1 a0 0) 3) r3), pI 0]) (kX10_cell d (by omega) _ _ _) okX10_cell (Or.inr nw16) tw621 rfl (Nat.le_of_ble_eq_true rfl) dX9_lackOf_20 (fun r6 => [pI r6, pA (M.1 a0 2), pI (M.1 (M.1 (M.1 a0 0) 3) r3), pI 0]) (fun r6 => M) (fun _ => rfl) (fun _ => rfl) (fun r6 h7 => ?_) rfl
  refine v_if (fun h8 => ?_)
  refine v_iaload h8 dX9_lackOf_23 ?_
  refine v_isub dX9_lackOf_24 ?_
  refine v_mmax (mi := mX9_lackOf) tw828 tw624 tw12 tw625 (Nat.le_of_ble_eq_true rfl) dX9_lackOf_25 ?_
  exact v_ireturn dX9_lackOf_28 rfl rfl
theorem dX9_drawBelow_0 : decode cX9_drawBelow 0 = .ok (.aload_n 0, 1) := by decide +kernel
theorem dX9_drawBelow_1 : decode cX9_drawBelow 1 = .ok (.aload_n 0, 1) := by decide +kernel
theorem dX9_drawBelow_2 : decode cX9_drawBelow 2 = .ok (.getfield 55, 3) := by decide +kernel
theorem dX9_drawBelow_5 : decode cX9_drawBelow 5 = .ok (.ldc 186, 2) := by decide +kernel
theorem dX9_drawBelow_7 : decode cX9_drawBelow 7 = .ok (.imul, 1) := by decide +kernel
theorem dX9_drawBelow_8 : decode cX9_drawBelow 8 = .ok (.sipush 12345, 3) := by decide +kernel
theorem dX9_drawBelow_11 : decode cX9_drawBelow 11 = .ok (.iadd, 1) := by decide +kernel
theorem dX9_drawBelow_12 : decode cX9_drawBelow 12 = .ok (.putfield 55, 3) := by decide +kernel
theorem dX9_drawBelow_15 : decode cX9_drawBelow 15 = .ok (.iload_n 1, 1) := by decide +kernel
theorem dX9_drawBelow_16 : decode cX9_drawBelow 16 = .ok (.ifCond .le 15, 3) := by decide +kernel
theorem dX9_drawBelow_19 : decode cX9_drawBelow 19 = .ok (.aload_n 0, 1) := by decide +kernel
theorem dX9_drawBelow_20 : decode cX9_drawBelow 20 = .ok (.getfield 55, 3) := by decide +kernel
theorem dX9_drawBelow_23 : decode cX9_drawBelow 23 = .ok (.bipush 16, 2) := by decide +kernel
theorem dX9_drawBelow_25 : decode cX9_drawBelow 25 = .ok (.iushr, 1) := by decide +kernel
theorem dX9_drawBelow_26 : decode cX9_drawBelow 26 = .ok (.iload_n 1, 1) := by decide +kernel
theorem dX9_drawBelow_27 : decode cX9_drawBelow 27 = .ok (.irem, 1) := by decide +kernel
theorem dX9_drawBelow_28 : decode cX9_drawBelow 28 = .ok (.goto 4, 3) := by decide +kernel
theorem dX9_drawBelow_31 : decode cX9_drawBelow 31 = .ok (.iconst 0, 1) := by decide +kernel
theorem dX9_drawBelow_32 : decode cX9_drawBelow 32 = .ok (.ireturn, 1) := by decide +kernel
abbrev mX9_drawBelow : MI := (yX9_drawBelow, cX9_drawBelow, 2, (some .int), noE)
theorem okX9_drawBelow : cok mX9_drawBelow 1 := ⟨tw1065, tw8, by decide, by decide, by decide, by decide +kernel⟩
def fX9_drawBelow (M : Mem) (a0 a1 : Int) : Option (Int × Mem) :=
  if M.2.1 a0 = 8 then bM (mst M a0 16 (w32 ((w32 ((M.1 a0 16) * 1103515245)) + 12345))) fun M2 => if 0 < a1 then (if a1 ≠ 0 then some ((bUshr (M2.1 a0 16) 16).tmod a1, M2) else none) else (some (0, M2)) else none
set_option maxRecDepth 100000 in
set_option maxHeartbeats 4000000 in
theorem kX9_drawBelow (d : Nat) (hd : 0 ≤ d) (M : Mem) (a0 a1 : Int) : Ct mX9_drawBelow d 0 0 [pA a0, pI a1] M dIM (fX9_drawBelow M a0 a1) := by
  refine Ct.of 0 (fun _ _ _ => trivial) (by decide +kernel) rfl ?_
  unfold fX9_drawBelow
  refine v_aload_n dX9_drawBelow_0 rfl ?_
  refine v_aload_n dX9_drawBelow_1 rfl ?_
  refine v_if (fun h1 => ?_)
  refine v_get (v := pI (M.1 a0 16)) 8 16 rfl inX9 (by decide) tw348 dX9_drawBelow_2 h1 rfl ?_
  refine v_ldc (n := 1103515245) dX9_drawBelow_5 (by decide) tw1066 ?_
  refine v_imul dX9_drawBelow_7 ?_
  refine v_sipush dX9_drawBelow_8 (by decide) ?_
  refine v_iadd dX9_drawBelow_11 ?_
  refine v_put (x := w32 ((w32 ((M.1 a0 16) * 1103515245)) + 12345)) 8 16 rfl inX9 (by decide) tw348 (Or.inl rfl) rfl dX9_drawBelow_12 h1 rfl id ?_
  refine v_bM (fun M2 e3 => ?_)
  refine v_iload_n dX9_drawBelow_15 rfl ?_
  refine v_if_le (tgt := 31) dX9_drawBelow_16 (by decide) (fun c4 => ?_) (fun c4 => ?_)
  · refine v_aload_n dX9_drawBelow_19 rfl ?_
    refine v_get (v := pI (M2.1 a0 16)) 8 16 rfl inX9 (by decide) tw348 dX9_drawBelow_20 (by rw [e3]; exact h1) rfl ?_
    refine v_bipush dX9_drawBelow_23 (by decide) ?_
    refine v_iushr dX9_drawBelow_25 ?_
    refine v_iload_n dX9_drawBelow_26 rfl ?_
    refine v_if (fun h5 => ?_)
    refine v_irem h5 dX9_drawBelow_27 ?_
    refine v_goto (tgt := 32) dX9_drawBelow_28 (by decide) ?_
    exact v_ireturn dX9_drawBelow_32 rfl rfl
  · refine v_iconst dX9_drawBelow_31 (by decide) ?_
    exact v_ireturn dX9_drawBelow_32 rfl rfl
theorem dX9_giveLeast_0 : decode cX9_giveLeast 0 = .ok (.iconst 0, 1) := by decide +kernel
theorem dX9_giveLeast_1 : decode cX9_giveLeast 1 = .ok (.istore_n 2, 1) := by decide +kernel
theorem dX9_giveLeast_2 : decode cX9_giveLeast 2 = .ok (.iload_n 2, 1) := by decide +kernel
theorem dX9_giveLeast_3 : decode cX9_giveLeast 3 = .ok (.iconst 5, 1) := by decide +kernel
theorem dX9_giveLeast_4 : decode cX9_giveLeast 4 = .ok (.if_icmp .ge 40, 3) := by decide +kernel
theorem dX9_giveLeast_7 : decode cX9_giveLeast 7 = .ok (.iconst 0, 1) := by decide +kernel
theorem dX9_giveLeast_8 : decode cX9_giveLeast 8 = .ok (.istore_n 3, 1) := by decide +kernel
theorem dX9_giveLeast_9 : decode cX9_giveLeast 9 = .ok (.iload_n 3, 1) := by decide +kernel
theorem dX9_giveLeast_10 : decode cX9_giveLeast 10 = .ok (.aload_n 0, 1) := by decide +kernel
theorem dX9_giveLeast_11 : decode cX9_giveLeast 11 = .ok (.getfield 58, 3) := by decide +kernel
theorem dX9_giveLeast_14 : decode cX9_giveLeast 14 = .ok (.getfield 177, 3) := by decide +kernel
theorem dX9_giveLeast_17 : decode cX9_giveLeast 17 = .ok (.if_icmp .ge 21, 3) := by decide +kernel
theorem dX9_giveLeast_20 : decode cX9_giveLeast 20 = .ok (.aload_n 0, 1) := by decide +kernel
theorem dX9_giveLeast_21 : decode cX9_giveLeast 21 = .ok (.iload_n 1, 1) := by decide +kernel
theorem dX9_giveLeast_22 : decode cX9_giveLeast 22 = .ok (.iload_n 3, 1) := by decide +kernel
theorem dX9_giveLeast_23 : decode cX9_giveLeast 23 = .ok (.iload_n 2, 1) := by decide +kernel
theorem dX9_giveLeast_24 : decode cX9_giveLeast 24 = .ok (.invokevirtual 108, 3) := by decide +kernel
theorem dX9_giveLeast_27 : decode cX9_giveLeast 27 = .ok (.ifCond .eq 5, 3) := by decide +kernel
theorem dX9_giveLeast_30 : decode cX9_giveLeast 30 = .ok (.iconst 1, 1) := by decide +kernel
theorem dX9_giveLeast_31 : decode cX9_giveLeast 31 = .ok (.ireturn, 1) := by decide +kernel
theorem dX9_giveLeast_32 : decode cX9_giveLeast 32 = .ok (.iinc 3 1, 3) := by decide +kernel
theorem dX9_giveLeast_35 : decode cX9_giveLeast 35 = .ok (.goto (-26), 3) := by decide +kernel
theorem dX9_giveLeast_38 : decode cX9_giveLeast 38 = .ok (.iinc 2 1, 3) := by decide +kernel
theorem dX9_giveLeast_41 : decode cX9_giveLeast 41 = .ok (.goto (-39), 3) := by decide +kernel
theorem dX9_giveLeast_44 : decode cX9_giveLeast 44 = .ok (.iconst 0, 1) := by decide +kernel
theorem dX9_giveLeast_45 : decode cX9_giveLeast 45 = .ok (.ireturn, 1) := by decide +kernel
abbrev mX9_giveLeast : MI := (yX9_giveLeast, cX9_giveLeast, 4, (some .boolean), noE)
theorem okX9_giveLeast : cok mX9_giveLeast 1 := ⟨tw1070, tw8, by decide, by decide, by decide, by decide +kernel⟩
def fX9_giveLeast (M : Mem) (a0 a1 : Int) : Option (Int × Mem) :=
  iterC (fun (rec1 : (Int × Mem) → Option (Int × Mem)) (s2 : Int × Mem) => if s2.1 < 5 then (iterC (fun (rec4 : (Int × Mem) → Option (Int × Mem)) (s5 : Int × Mem) => if s5.2.2.1 a0 = 8 then if s5.2.2.1 (s5.2.1 a0 0) = 7 then if s5.1 < s5.2.1 (s5.2.1 a0 0) 0 then ((fX9_giveOne s5.2 a0 a1 s5.1 s2.1).bind fun r9 => if r9.1 = 0 then (rec4 (w32 (s5.1 + 1), r9.2)) else (some (1, r9.2))) else (rec1 (w32 (s2.1 + 1), s5.2)) else none else none) BIG (0, s2.2)) else (some (0, s2.2))) BIG (0, M)
set_option maxRecDepth 100000 in
set_option maxHeartbeats 4000000 in
theorem kX9_giveLeast (d : Nat) (hd : 3 ≤ d) (M : Mem) (a0 a1 : Int) : Ct mX9_giveLeast d 0 0 [pA a0, pI a1] M dIM (fX9_giveLeast M a0 a1) := by
  obtain ⟨d, rfl⟩ : ∃ k, d = k + 1 := ⟨d - 1, by omega⟩
  refine Ct.of 2 (fun _ _ _ => trivial) (by decide +kernel) rfl ?_
  unfold fX9_giveLeast
  refine v_iconst dX9_giveLeast_0 (by decide) ?_
  refine v_istore_n (ls' := [some (pA a0), some (pI a1), some (pI 0), none]) dX9_giveLeast_1 (by decide) rfl ?_
  refine v_loop (fun (s2 : Int × Mem) => [some (pA a0), some (pI a1), some (pI s2.1), none]) (fun (s2 : Int × Mem) => s2.2) (s0 := (0, M)) ?_
  intro rec1 hrec1 s2
  refine v_iload_n dX9_giveLeast_2 rfl ?_
  refine v_iconst dX9_giveLeast_3 (by decide) ?_
  refine v_icmp_ge (tgt := 44) dX9_giveLeast_4 (by decide) (fun c3 => ?_) (fun c3 => ?_)
  · refine v_iconst dX9_giveLeast_7 (by decide) ?_
    refine v_istore_n (ls' := [some (pA a0), some (pI a1), some (pI s2.1), some (pI 0)]) dX9_giveLeast_8 (by decide) rfl ?_
    refine v_loop (fun (s5 : Int × Mem) => [some (pA a0), some (pI a1), some (pI s2.1), some (pI s5.1)]) (fun (s5 : Int × Mem) => s5.2) (s0 := (0, s2.2)) ?_
    intro rec4 hrec4 s5
    refine v_iload_n dX9_giveLeast_9 rfl ?_
    refine v_aload_n dX9_giveLeast_10 rfl ?_
    refine v_if (fun h6 => ?_)
    refine v_get (v := pA (s5.2.1 a0 0)) 8 0 rfl inX9 (by decide) tw315 dX9_giveLeast_11 h6 rfl ?_
    refine v_if (fun h7 => ?_)
    refine v_get (v := pI (s5.2.1 (s5.2.1 a0 0) 0)) 7 0 rfl inX7 (by decide) tw60 dX9_giveLeast_14 h7 rfl ?_
    refine v_icmp_ge (tgt := 38) dX9_giveLeast_17 (by decide) (fun c8 => ?_) (fun c8 => ?_)
    · refine v_aload_n dX9_giveLeast_20 rfl ?_
      refine v_iload_n dX9_giveLeast_21 rfl ?_
      refine v_iload_n dX9_giveLeast_22 rfl ?_
      refine v_iload_n dX9_giveLeast_23 rfl ?_
      refine v_cV (mi := mX9_giveLeast) (c0 := 0) (c1 := 0) (As := [pI a1, pI s5.1, pI s2.1]) (st := []) (kX9_giveOne d (by omega) _ _ _ _ _) rfl h6 rfl okX9_giveOne (Or.inl tw768) tw769 tw770 rfl (Nat.le_of_ble_eq_true rfl) dX9_giveLeast_24 (fun r9 => [pI r9.1]) (fun r9 => r9.2) (fun _ => rfl) (fun _ => rfl) (fun r9 h10 => ?_) rfl
      refine v_if_eq (tgt := 32) dX9_giveLeast_27 (by decide) (fun c11 => ?_) (fun c11 => ?_)
      · refine v_iinc (ls' := [some (pA a0), some (pI a1), some (pI s2.1), some (pI (w32 (s5.1 + 1)))]) dX9_giveLeast_32 (by decide) rfl rfl ?_
        refine v_goto (tgt := 9) dX9_giveLeast_35 (by decide) ?_
        exact hrec4 (w32 (s5.1 + 1), r9.2)
      · refine v_iconst dX9_giveLeast_30 (by decide) ?_
        exact v_breturn dX9_giveLeast_31 rfl (by decide) rfl
    · refine v_iinc (ls' := [some (pA a0), some (pI a1), some (pI (w32 (s2.1 + 1))), some (pI s5.1)]) dX9_giveLeast_38 (by decide) rfl rfl ?_
      refine v_goto (tgt := 2) dX9_giveLeast_41 (by decide) ?_
      exact v_drop [some (pA a0), some (pI a1), some (pI (w32 (s2.1 + 1))), none] (ls_s (ls_s (ls_s (ls_n ls_e)))) (hrec1 (w32 (s2.1 + 1), s5.2))
  · refine v_iconst dX9_giveLeast_44 (by decide) ?_
    exact v_breturn dX9_giveLeast_45 rfl (by decide) rfl
theorem dX9_drawDeeds_0 : decode cX9_drawDeeds 0 = .ok (.iconst 0, 1) := by decide +kernel
theorem dX9_drawDeeds_1 : decode cX9_drawDeeds 1 = .ok (.istore_n 2, 1) := by decide +kernel
theorem dX9_drawDeeds_2 : decode cX9_drawDeeds 2 = .ok (.iload_n 2, 1) := by decide +kernel
theorem dX9_drawDeeds_3 : decode cX9_drawDeeds 3 = .ok (.aload_n 0, 1) := by decide +kernel
theorem dX9_drawDeeds_4 : decode cX9_drawDeeds 4 = .ok (.getfield 58, 3) := by decide +kernel
theorem dX9_drawDeeds_7 : decode cX9_drawDeeds 7 = .ok (.getfield 148, 3) := by decide +kernel
theorem dX9_drawDeeds_10 : decode cX9_drawDeeds 10 = .ok (.iload_n 1, 1) := by decide +kernel
theorem dX9_drawDeeds_11 : decode cX9_drawDeeds 11 = .ok (.iaload, 1) := by decide +kernel
theorem dX9_drawDeeds_12 : decode cX9_drawDeeds 12 = .ok (.if_icmp .ge 37, 3) := by decide +kernel
theorem dX9_drawDeeds_15 : decode cX9_drawDeeds 15 = .ok (.aload_n 0, 1) := by decide +kernel
theorem dX9_drawDeeds_16 : decode cX9_drawDeeds 16 = .ok (.aload_n 0, 1) := by decide +kernel
theorem dX9_drawDeeds_17 : decode cX9_drawDeeds 17 = .ok (.getfield 58, 3) := by decide +kernel
theorem dX9_drawDeeds_20 : decode cX9_drawDeeds 20 = .ok (.getfield 177, 3) := by decide +kernel
theorem dX9_drawDeeds_23 : decode cX9_drawDeeds 23 = .ok (.invokevirtual 180, 3) := by decide +kernel
theorem dX9_drawDeeds_26 : decode cX9_drawDeeds 26 = .ok (.istore_n 3, 1) := by decide +kernel
theorem dX9_drawDeeds_27 : decode cX9_drawDeeds 27 = .ok (.aload_n 0, 1) := by decide +kernel
theorem dX9_drawDeeds_28 : decode cX9_drawDeeds 28 = .ok (.iconst 5, 1) := by decide +kernel
theorem dX9_drawDeeds_29 : decode cX9_drawDeeds 29 = .ok (.invokevirtual 180, 3) := by decide +kernel
theorem dX9_drawDeeds_32 : decode cX9_drawDeeds 32 = .ok (.istore 4, 2) := by decide +kernel
theorem dX9_drawDeeds_34 : decode cX9_drawDeeds 34 = .ok (.aload_n 0, 1) := by decide +kernel
theorem dX9_drawDeeds_35 : decode cX9_drawDeeds 35 = .ok (.iload_n 1, 1) := by decide +kernel
theorem dX9_drawDeeds_36 : decode cX9_drawDeeds 36 = .ok (.iload_n 3, 1) := by decide +kernel
theorem dX9_drawDeeds_37 : decode cX9_drawDeeds 37 = .ok (.iload 4, 2) := by decide +kernel
theorem dX9_drawDeeds_39 : decode cX9_drawDeeds 39 = .ok (.invokevirtual 104, 3) := by decide +kernel
theorem dX9_drawDeeds_42 : decode cX9_drawDeeds 42 = .ok (.pop, 1) := by decide +kernel
theorem dX9_drawDeeds_43 : decode cX9_drawDeeds 43 = .ok (.iinc 2 1, 3) := by decide +kernel
theorem dX9_drawDeeds_46 : decode cX9_drawDeeds 46 = .ok (.goto (-44), 3) := by decide +kernel
theorem dX9_drawDeeds_49 : decode cX9_drawDeeds 49 = .ok (.iconst 0, 1) := by decide +kernel
theorem dX9_drawDeeds_50 : decode cX9_drawDeeds 50 = .ok (.istore_n 2, 1) := by decide +kernel
theorem dX9_drawDeeds_51 : decode cX9_drawDeeds 51 = .ok (.iload_n 2, 1) := by decide +kernel
theorem dX9_drawDeeds_52 : decode cX9_drawDeeds 52 = .ok (.sipush 270, 3) := by decide +kernel
theorem dX9_drawDeeds_55 : decode cX9_drawDeeds 55 = .ok (.if_icmp .ge 25, 3) := by decide +kernel
theorem dX9_drawDeeds_58 : decode cX9_drawDeeds 58 = .ok (.aload_n 0, 1) := by decide +kernel
theorem dX9_drawDeeds_59 : decode cX9_drawDeeds 59 = .ok (.iload_n 1, 1) := by decide +kernel
theorem dX9_drawDeeds_60 : decode cX9_drawDeeds 60 = .ok (.invokevirtual 164, 3) := by decide +kernel
theorem dX9_drawDeeds_63 : decode cX9_drawDeeds 63 = .ok (.ifCond .le 17, 3) := by decide +kernel
theorem dX9_drawDeeds_66 : decode cX9_drawDeeds 66 = .ok (.aload_n 0, 1) := by decide +kernel
theorem dX9_drawDeeds_67 : decode cX9_drawDeeds 67 = .ok (.iload_n 1, 1) := by decide +kernel
theorem dX9_drawDeeds_68 : decode cX9_drawDeeds 68 = .ok (.invokevirtual 183, 3) := by decide +kernel
theorem dX9_drawDeeds_71 : decode cX9_drawDeeds 71 = .ok (.ifCond .eq 9, 3) := by decide +kernel
theorem dX9_drawDeeds_74 : decode cX9_drawDeeds 74 = .ok (.iinc 2 1, 3) := by decide +kernel
theorem dX9_drawDeeds_77 : decode cX9_drawDeeds 77 = .ok (.goto (-26), 3) := by decide +kernel
theorem dX9_drawDeeds_80 : decode cX9_drawDeeds 80 = .ok (.return_, 1) := by decide +kernel
abbrev mX9_drawDeeds : MI := (yX9_drawDeeds, cX9_drawDeeds, 5, none, noE)
theorem okX9_drawDeeds : cok mX9_drawDeeds 1 := ⟨tw1061, tw8, by decide, by decide, by decide, by decide +kernel⟩
def fX9_drawDeeds (M : Mem) (a0 a1 : Int) : Option Mem :=
  iterC (fun (rec1 : (Int × Mem) → Option Mem) (s2 : Int × Mem) => if s2.2.2.1 a0 = 8 then if s2.2.2.1 (s2.2.1 a0 0) = 7 then if s2.2.2.1 (s2.2.1 (s2.2.1 a0 0) 8) = 12 ∧ (0 : Int) ≤ a1 ∧ a1 < s2.2.2.2.1 (s2.2.1 (s2.2.1 a0 0) 8) then if s2.1 < s2.2.1 (s2.2.1 (s2.2.1 a0 0) 8) a1 then ((fX9_drawBelow s2.2 a0 (s2.2.1 (s2.2.1 a0 0) 0)).bind fun r7 => if r7.2.2.1 a0 = 8 then (fX9_drawBelow r7.2 a0 5).bind fun r9 => if r9.2.2.1 a0 = 8 then (fX9_takeOne r9.2 a0 a1 r7.1 r9.1).bind fun r12 => rec1 (w32 (s2.1 + 1), r12.2) else none else none) else (iterC (fun (rec15 : (Int × Mem) → Option Mem) (s16 : Int × Mem) => if s16.1 < 270 then (if s16.2.2.1 a0 = 8 then (fX9_owesOf s16.2 a0 a1).bind fun r18 => if 0 < r18 then ((fX9_giveLeast s16.2 a0 a1).bind fun r22 => if r22.1 = 0 then (some r22.2) else (rec15 (w32 (s16.1 + 1), r22.2))) else (some s16.2) else none) else (some s16.2)) BIG (0, s2.2)) else none else none else none) BIG (0, M)
set_option maxRecDepth 100000 in
set_option maxHeartbeats 4000000 in
theorem kX9_drawDeeds (d : Nat) (hd : 4 ≤ d) (M : Mem) (a0 a1 : Int) : Ct mX9_drawDeeds d 0 0 [pA a0, pI a1] M dV (fX9_drawDeeds M a0 a1) := by
  obtain ⟨d, rfl⟩ : ∃ k, d = k + 1 := ⟨d - 1, by omega⟩
  refine Ct.of 3 (fun _ _ _ => trivial) (by decide +kernel) rfl ?_
  unfold fX9_drawDeeds
  refine v_iconst dX9_drawDeeds_0 (by decide) ?_
  refine v_istore_n (ls' := [some (pA a0), some (pI a1), some (pI 0), none, none]) dX9_drawDeeds_1 (by decide) rfl ?_
  refine v_loop (fun (s2 : Int × Mem) => [some (pA a0), some (pI a1), some (pI s2.1), none, none]) (fun (s2 : Int × Mem) => s2.2) (s0 := (0, M)) ?_
  intro rec1 hrec1 s2
  refine v_iload_n dX9_drawDeeds_2 rfl ?_
  refine v_aload_n dX9_drawDeeds_3 rfl ?_
  refine v_if (fun h3 => ?_)
  refine v_get (v := pA (s2.2.1 a0 0)) 8 0 rfl inX9 (by decide) tw315 dX9_drawDeeds_4 h3 rfl ?_
  refine v_if (fun h4 => ?_)
  refine v_get (v := pA (s2.2.1 (s2.2.1 a0 0) 8)) 7 8 rfl inX7 (by decide) tw95 dX9_drawDeeds_7 h4 rfl ?_
  refine v_iload_n dX9_drawDeeds_10 rfl ?_
  refine v_if (fun h5 => ?_)
  refine v_iaload h5 dX9_drawDeeds_11 ?_
  refine v_icmp_ge (tgt := 49) dX9_drawDeeds_12 (by decide) (fun c6 => ?_) (fun c6 => ?_)
  · refine v_aload_n dX9_drawDeeds_15 rfl ?_
    refine v_aload_n dX9_drawDeeds_16 rfl ?_
    refine v_get (v := pA (s2.2.1 a0 0)) 8 0 rfl inX9 (by decide) tw315 dX9_drawDeeds_17 h3 rfl ?_
    refine v_get (v := pI (s2.2.1 (s2.2.1 a0 0) 0)) 7 0 rfl inX7 (by decide) tw60 dX9_drawDeeds_20 h4 rfl ?_
    refine v_cV (mi := mX9_drawDeeds) (c0 := 0) (c1 := 0) (As := [pI (s2.2.1 (s2.2.1 a0 0) 0)]) (st := []) (kX9_drawBelow d (by omega) _ _ _) rfl h3 rfl okX9_drawBelow (Or.inl tw1062) tw1064 tp24 rfl (Nat.le_of_ble_eq_true rfl) dX9_drawDeeds_23 (fun r7 => [pI r7.1]) (fun r7 => r7.2) (fun _ => rfl) (fun _ => rfl) (fun r7 h8 => ?_) rfl
    refine v_istore_n (ls' := [some (pA a0), some (pI a1), some (pI s2.1), some (pI r7.1), none]) dX9_drawDeeds_26 (by decide) rfl ?_
    refine v_aload_n dX9_drawDeeds_27 rfl ?_
    refine v_iconst dX9_drawDeeds_28 (by decide) ?_
    refine v_if (fun h11 => ?_)
    refine v_cV (mi := mX9_drawDeeds) (c0 := 0) (c1 := 0) (As := [pI 5]) (st := []) (kX9_drawBelow d (by omega) _ _ _) rfl h11 rfl okX9_drawBelow (Or.inl tw1062) tw1064 tp24 rfl (Nat.le_of_ble_eq_true rfl) dX9_drawDeeds_29 (fun r9 => [pI r9.1]) (fun r9 => r9.2) (fun _ => rfl) (fun _ => rfl) (fun r9 h10 => ?_) rfl
    refine v_istore (ls' := [some (pA a0), some (pI a1), some (pI s2.1), some (pI r7.1), some (pI r9.1)]) dX9_drawDeeds_32 (by decide) rfl ?_
    refine v_aload_n dX9_drawDeeds_34 rfl ?_
    refine v_iload_n dX9_drawDeeds_35 rfl ?_
    refine v_iload_n dX9_drawDeeds_36 rfl ?_
    refine v_iload dX9_drawDeeds_37 rfl ?_
    refine v_if (fun h14 => ?_)
    refine v_cV (mi := mX9_drawDeeds) (c0 := 0) (c1 := 0) (As := [pI a1, pI r7.1, pI r9.1]) (st := []) (kX9_takeOne d (by omega) _ _ _ _ _) rfl h14 rfl okX9_takeOne (Or.inl tw753) tw754 tw755 rfl (Nat.le_of_ble_eq_true rfl) dX9_drawDeeds_39 (fun r12 => [pI r12.1]) (fun r12 => r12.2) (fun _ => rfl) (fun _ => rfl) (fun r12 h13 => ?_) rfl
    refine v_pop dX9_drawDeeds_42 (by intro z hz; cases hz) ?_
    refine v_iinc (ls' := [some (pA a0), some (pI a1), some (pI (w32 (s2.1 + 1))), some (pI r7.1), some (pI r9.1)]) dX9_drawDeeds_43 (by decide) rfl rfl ?_
    refine v_goto (tgt := 2) dX9_drawDeeds_46 (by decide) ?_
    exact v_drop [some (pA a0), some (pI a1), some (pI (w32 (s2.1 + 1))), none, none] (ls_s (ls_s (ls_s (ls_n (ls_n ls_e))))) (hrec1 (w32 (s2.1 + 1), r12.2))
  · refine v_iconst dX9_drawDeeds_49 (by decide) ?_
    refine v_istore_n (ls' := [some (pA a0), some (pI a1), some (pI 0), none, none]) dX9_drawDeeds_50 (by decide) rfl ?_
    refine v_loop (fun (s16 : Int × Mem) => [some (pA a0), some (pI a1), some (pI s16.1), none, none]) (fun (s16 : Int × Mem) => s16.2) (s0 := (0, s2.2)) ?_
    intro rec15 hrec15 s16
    refine v_iload_n dX9_drawDeeds_51 rfl ?_
    refine v_sipush dX9_drawDeeds_52 (by decide) ?_
    refine v_icmp_ge (tgt := 80) dX9_drawDeeds_55 (by decide) (fun c17 => ?_) (fun c17 => ?_)
    · refine v_aload_n dX9_drawDeeds_58 rfl ?_
      refine v_iload_n dX9_drawDeeds_59 rfl ?_
      refine v_if (fun h20 => ?_)
      refine v_cV (mi := mX9_drawDeeds) (c0 := 0) (c1 := 0) (As := [pI a1]) (st := []) (kX9_owesOf d (by omega) _ _ _) rfl h20 rfl okX9_owesOf (Or.inl tw785) tw786 tw787 rfl (Nat.le_of_ble_eq_true rfl) dX9_drawDeeds_60 (fun r18 => [pI r18]) (fun r18 => s16.2) (fun _ => rfl) (fun _ => rfl) (fun r18 h19 => ?_) rfl
      refine v_if_le (tgt := 80) dX9_drawDeeds_63 (by decide) (fun c21 => ?_) (fun c21 => ?_)
      · refine v_aload_n dX9_drawDeeds_66 rfl ?_
        refine v_iload_n dX9_drawDeeds_67 rfl ?_
        refine v_cV (mi := mX9_drawDeeds) (c0 := 0) (c1 := 0) (As := [pI a1]) (st := []) (kX9_giveLeast d (by omega) _ _ _) rfl h20 rfl okX9_giveLeast (Or.inl tw1067) tw1069 tp25 rfl (Nat.le_of_ble_eq_true rfl) dX9_drawDeeds_68 (fun r22 => [pI r22.1]) (fun r22 => r22.2) (fun _ => rfl) (fun _ => rfl) (fun r22 h23 => ?_) rfl
        refine v_if_eq (tgt := 80) dX9_drawDeeds_71 (by decide) (fun c24 => ?_) (fun c24 => ?_)
        · exact v_return dX9_drawDeeds_80 rfl rfl
        · refine v_iinc (ls' := [some (pA a0), some (pI a1), some (pI (w32 (s16.1 + 1))), none, none]) dX9_drawDeeds_74 (by decide) rfl rfl ?_
          refine v_goto (tgt := 51) dX9_drawDeeds_77 (by decide) ?_
          exact hrec15 (w32 (s16.1 + 1), r22.2)
      · exact v_return dX9_drawDeeds_80 rfl rfl
    · exact v_return dX9_drawDeeds_80 rfl rfl
theorem dX9_drawNights_0 : decode cX9_drawNights 0 = .ok (.aload_n 0, 1) := by decide +kernel
theorem dX9_drawNights_1 : decode cX9_drawNights 1 = .ok (.iload_n 1, 1) := by decide +kernel
theorem dX9_drawNights_2 : decode cX9_drawNights 2 = .ok (.putfield 55, 3) := by decide +kernel
theorem dX9_drawNights_5 : decode cX9_drawNights 5 = .ok (.iconst 0, 1) := by decide +kernel
theorem dX9_drawNights_6 : decode cX9_drawNights 6 = .ok (.istore_n 3, 1) := by decide +kernel
theorem dX9_drawNights_7 : decode cX9_drawNights 7 = .ok (.iload_n 3, 1) := by decide +kernel
theorem dX9_drawNights_8 : decode cX9_drawNights 8 = .ok (.iload_n 2, 1) := by decide +kernel
theorem dX9_drawNights_9 : decode cX9_drawNights 9 = .ok (.if_icmp .ge 49, 3) := by decide +kernel
theorem dX9_drawNights_12 : decode cX9_drawNights 12 = .ok (.iconst 0, 1) := by decide +kernel
theorem dX9_drawNights_13 : decode cX9_drawNights 13 = .ok (.istore 4, 2) := by decide +kernel
theorem dX9_drawNights_15 : decode cX9_drawNights 15 = .ok (.iload 4, 2) := by decide +kernel
theorem dX9_drawNights_17 : decode cX9_drawNights 17 = .ok (.aload_n 0, 1) := by decide +kernel
theorem dX9_drawNights_18 : decode cX9_drawNights 18 = .ok (.getfield 58, 3) := by decide +kernel
theorem dX9_drawNights_21 : decode cX9_drawNights 21 = .ok (.getfield 167, 3) := by decide +kernel
theorem dX9_drawNights_24 : decode cX9_drawNights 24 = .ok (.if_icmp .ge 24, 3) := by decide +kernel
theorem dX9_drawNights_27 : decode cX9_drawNights 27 = .ok (.aload_n 0, 1) := by decide +kernel
theorem dX9_drawNights_28 : decode cX9_drawNights 28 = .ok (.iload 4, 2) := by decide +kernel
theorem dX9_drawNights_30 : decode cX9_drawNights 30 = .ok (.invokevirtual 139, 3) := by decide +kernel
theorem dX9_drawNights_33 : decode cX9_drawNights 33 = .ok (.ifCond .eq 9, 3) := by decide +kernel
theorem dX9_drawNights_36 : decode cX9_drawNights 36 = .ok (.aload_n 0, 1) := by decide +kernel
theorem dX9_drawNights_37 : decode cX9_drawNights 37 = .ok (.iload 4, 2) := by decide +kernel
theorem dX9_drawNights_39 : decode cX9_drawNights 39 = .ok (.invokevirtual 173, 3) := by decide +kernel
theorem dX9_drawNights_42 : decode cX9_drawNights 42 = .ok (.iinc 4 1, 3) := by decide +kernel
theorem dX9_drawNights_45 : decode cX9_drawNights 45 = .ok (.goto (-30), 3) := by decide +kernel
theorem dX9_drawNights_48 : decode cX9_drawNights 48 = .ok (.aload_n 0, 1) := by decide +kernel
theorem dX9_drawNights_49 : decode cX9_drawNights 49 = .ok (.invokevirtual 114, 3) := by decide +kernel
theorem dX9_drawNights_52 : decode cX9_drawNights 52 = .ok (.iinc 3 1, 3) := by decide +kernel
theorem dX9_drawNights_55 : decode cX9_drawNights 55 = .ok (.goto (-48), 3) := by decide +kernel
theorem dX9_drawNights_58 : decode cX9_drawNights 58 = .ok (.return_, 1) := by decide +kernel
abbrev mX9_drawNights : MI := (yX9_drawNights, cX9_drawNights, 5, none, noE)
theorem okX9_drawNights : cok mX9_drawNights 2 := ⟨tw1057, tw8, by decide, by decide, by decide, by decide +kernel⟩
def fX9_drawNights (M : Mem) (a0 a1 a2 : Int) : Option Mem :=
  if M.2.1 a0 = 8 then bM (mst M a0 16 a1) fun M2 => iterC (fun (rec4 : (Int × Mem) → Option Mem) (s5 : Int × Mem) => if s5.1 < a2 then (iterC (fun (rec7 : (Int × Mem) → Option Mem) (s8 : Int × Mem) => if s8.2.2.1 a0 = 8 then if s8.2.2.1 (s8.2.1 a0 0) = 7 then if s8.1 < s8.2.1 (s8.2.1 a0 0) 1 then ((fX9_isFree s8.2 a0 s8.1).bind fun r12 => if r12 = 0 then (rec7 (w32 (s8.1 + 1), s8.2)) else ((fX9_drawDeeds s8.2 a0 s8.1).bind fun r15 => rec7 (w32 (s8.1 + 1), r15))) else ((fX9_nightEnds s8.2 a0).bind fun r17 => rec4 (w32 (s5.1 + 1), r17)) else none else none) BIG (0, s5.2)) else (some s5.2)) BIG (0, M2) else none
set_option maxRecDepth 100000 in
set_option maxHeartbeats 4000000 in
theorem kX9_drawNights (d : Nat) (hd : 5 ≤ d) (M : Mem) (a0 a1 a2 : Int) : Ct mX9_drawNights d 0 0 [pA a0, pI a1, pI a2] M dV (fX9_drawNights M a0 a1 a2) := by
  obtain ⟨d, rfl⟩ : ∃ k, d = k + 1 := ⟨d - 1, by omega⟩
  refine Ct.of 2 (fun _ _ _ => trivial) (by decide +kernel) rfl ?_
  unfold fX9_drawNights
  refine v_aload_n dX9_drawNights_0 rfl ?_
  refine v_iload_n dX9_drawNights_1 rfl ?_
  refine v_if (fun h1 => ?_)
  refine v_put (x := a1) 8 16 rfl inX9 (by decide) tw348 (Or.inl rfl) rfl dX9_drawNights_2 h1 rfl id ?_
  refine v_bM (fun M2 e3 => ?_)
  refine v_iconst dX9_drawNights_5 (by decide) ?_
  refine v_istore_n (ls' := [some (pA a0), some (pI a1), some (pI a2), some (pI 0), none]) dX9_drawNights_6 (by decide) rfl ?_
  refine v_drop [some (pA a0), none, some (pI a2), some (pI 0), none] (ls_s (ls_n (ls_s (ls_s (ls_n ls_e))))) ?_
  refine v_loop (fun (s5 : Int × Mem) => [some (pA a0), none, some (pI a2), some (pI s5.1), none]) (fun (s5 : Int × Mem) => s5.2) (s0 := (0, M2)) ?_
  intro rec4 hrec4 s5
  refine v_iload_n dX9_drawNights_7 rfl ?_
  refine v_iload_n dX9_drawNights_8 rfl ?_
  refine v_icmp_ge (tgt := 58) dX9_drawNights_9 (by decide) (fun c6 => ?_) (fun c6 => ?_)
  · refine v_iconst dX9_drawNights_12 (by decide) ?_
    refine v_istore (ls' := [some (pA a0), none, some (pI a2), some (pI s5.1), some (pI 0)]) dX9_drawNights_13 (by decide) rfl ?_
    refine v_loop (fun (s8 : Int × Mem) => [some (pA a0), none, some (pI a2), some (pI s5.1), some (pI s8.1)]) (fun (s8 : Int × Mem) => s8.2) (s0 := (0, s5.2)) ?_
    intro rec7 hrec7 s8
    refine v_iload dX9_drawNights_15 rfl ?_
    refine v_aload_n dX9_drawNights_17 rfl ?_
    refine v_if (fun h9 => ?_)
    refine v_get (v := pA (s8.2.1 a0 0)) 8 0 rfl inX9 (by decide) tw315 dX9_drawNights_18 h9 rfl ?_
    refine v_if (fun h10 => ?_)
    refine v_get (v := pI (s8.2.1 (s8.2.1 a0 0) 1)) 7 1 rfl inX7 (by decide) tw65 dX9_drawNights_21 h10 rfl ?_
    refine v_icmp_ge (tgt := 48) dX9_drawNights_24 (by decide) (fun c11 => ?_) (fun c11 => ?_)
    · refine v_aload_n dX9_drawNights_27 rfl ?_
      refine v_iload dX9_drawNights_28 rfl ?_
      refine v_cV (mi := mX9_drawNights) (c0 := 0) (c1 := 0) (As := [pI s8.1]) (st := []) (kX9_isFree d (by omega) _ _ _) rfl h9 rfl okX9_isFree (Or.inl tw757) tw758 tw759 rfl (Nat.le_of_ble_eq_true rfl) dX9_drawNights_30 (fun r12 => [pI r12]) (fun r12 => s8.2) (fun _ => rfl) (fun _ => rfl) (fun r12 h13 => ?_) rfl
      refine v_if_eq (tgt := 42) dX9_drawNights_33 (by decide) (fun c14 => ?_) (fun c14 => ?_)
      · refine v_iinc (ls' := [some (pA a0), none, some (pI a2), some (pI s5.1), some (pI (w32 (s8.1 + 1)))]) dX9_drawNights_42 (by decide) rfl rfl ?_
        refine v_goto (tgt := 15) dX9_drawNights_45 (by decide) ?_
        exact hrec7 (w32 (s8.1 + 1), s8.2)
      · refine v_aload_n dX9_drawNights_36 rfl ?_
        refine v_iload dX9_drawNights_37 rfl ?_
        refine v_cV (mi := mX9_drawNights) (c0 := 0) (c1 := 0) (As := [pI s8.1]) (st := []) (kX9_drawDeeds d (by omega) _ _ _) rfl h9 rfl okX9_drawDeeds (Or.inl tw1058) tw1060 tp23 rfl (Nat.le_of_ble_eq_true rfl) dX9_drawNights_39 (fun r15 => []) (fun r15 => r15) (fun _ => rfl) (fun _ => rfl) (fun r15 h16 => ?_) rfl
        refine v_iinc (ls' := [some (pA a0), none, some (pI a2), some (pI s5.1), some (pI (w32 (s8.1 + 1)))]) dX9_drawNights_42 (by decide) rfl rfl ?_
        refine v_goto (tgt := 15) dX9_drawNights_45 (by decide) ?_
        exact hrec7 (w32 (s8.1 + 1), r15)
    · refine v_aload_n dX9_drawNights_48 rfl ?_
      refine v_cV (mi := mX9_drawNights) (c0 := 0) (c1 := 0) (As := []) (st := []) (kX9_nightEnds d (by omega) _ _) rfl h9 rfl okX9_nightEnds (Or.inl tw793) tw794 tw795 rfl (Nat.le_of_ble_eq_true rfl) dX9_drawNights_49 (fun r17 => []) (fun r17 => r17) (fun _ => rfl) (fun _ => rfl) (fun r17 h18 => ?_) rfl
      refine v_iinc (ls' := [some (pA a0), none, some (pI a2), some (pI (w32 (s5.1 + 1))), some (pI s8.1)]) dX9_drawNights_52 (by decide) rfl rfl ?_
      refine v_goto (tgt := 7) dX9_drawNights_55 (by decide) ?_
      exact v_drop [some (pA a0), none, some (pI a2), some (pI (w32 (s5.1 + 1))), none] (ls_s (ls_n (ls_s (ls_s (ls_n ls_e))))) (hrec4 (w32 (s5.1 + 1), r17))
  · exact v_return dX9_drawNights_58 rfl rfl
theorem dX8_want_0 : decode cX8_want 0 = .ok (.iconst 0, 1) := by decide +kernel
theorem dX8_want_1 : decode cX8_want 1 = .ok (.istore_n 1, 1) := by decide +kernel
theorem dX8_want_2 : decode cX8_want 2 = .ok (.iconst 0, 1) := by decide +kernel
theorem dX8_want_3 : decode cX8_want 3 = .ok (.istore_n 2, 1) := by decide +kernel
theorem dX8_want_4 : decode cX8_want 4 = .ok (.iload_n 2, 1) := by decide +kernel
theorem dX8_want_5 : decode cX8_want 5 = .ok (.aload_n 0, 1) := by decide +kernel
theorem dX8_want_6 : decode cX8_want 6 = .ok (.getfield 28, 3) := by decide +kernel
theorem dX8_want_9 : decode cX8_want 9 = .ok (.getfield 59, 3) := by decide +kernel
theorem dX8_want_12 : decode cX8_want 12 = .ok (.if_icmp .ge 31, 3) := by decide +kernel
theorem dX8_want_15 : decode cX8_want 15 = .ok (.iconst 0, 1) := by decide +kernel
theorem dX8_want_16 : decode cX8_want 16 = .ok (.istore_n 3, 1) := by decide +kernel
theorem dX8_want_17 : decode cX8_want 17 = .ok (.iload_n 3, 1) := by decide +kernel
theorem dX8_want_18 : decode cX8_want 18 = .ok (.iconst 5, 1) := by decide +kernel
theorem dX8_want_19 : decode cX8_want 19 = .ok (.if_icmp .ge 18, 3) := by decide +kernel
theorem dX8_want_22 : decode cX8_want 22 = .ok (.iload_n 1, 1) := by decide +kernel
theorem dX8_want_23 : decode cX8_want 23 = .ok (.aload_n 0, 1) := by decide +kernel
theorem dX8_want_24 : decode cX8_want 24 = .ok (.iload_n 2, 1) := by decide +kernel
theorem dX8_want_25 : decode cX8_want 25 = .ok (.iload_n 3, 1) := by decide +kernel
theorem dX8_want_26 : decode cX8_want 26 = .ok (.invokevirtual 62, 3) := by decide +kernel
theorem dX8_want_29 : decode cX8_want 29 = .ok (.iadd, 1) := by decide +kernel
theorem dX8_want_30 : decode cX8_want 30 = .ok (.istore_n 1, 1) := by decide +kernel
theorem dX8_want_31 : decode cX8_want 31 = .ok (.iinc 3 1, 3) := by decide +kernel
theorem dX8_want_34 : decode cX8_want 34 = .ok (.goto (-17), 3) := by decide +kernel
theorem dX8_want_37 : decode cX8_want 37 = .ok (.iinc 2 1, 3) := by decide +kernel
theorem dX8_want_40 : decode cX8_want 40 = .ok (.goto (-36), 3) := by decide +kernel
theorem dX8_want_43 : decode cX8_want 43 = .ok (.iload_n 1, 1) := by decide +kernel
theorem dX8_want_44 : decode cX8_want 44 = .ok (.ireturn, 1) := by decide +kernel
abbrev mX8_want : MI := (yX8_want, cX8_want, 4, (some .int), noE)
theorem okX8_want : cok mX8_want 1 := ⟨tw823, tw18, by decide, by decide, by decide, by decide +kernel⟩
def fX8_want (M : Mem) (a0 : Int) : Option Int :=
  iterC (fun (rec1 : (Int × Int) → Option Int) (s2 : Int × Int) => if M.2.1 a0 = 8 then if M.2.1 (M.1 a0 0) = 7 then if s2.2 < M.1 (M.1 a0 0) 0 then (iterC (fun (rec6 : (Int × Int) → Option Int) (s7 : Int × Int) => if s7.2 < 5 then ((fX9_lackOf M a0 s2.2 s7.2).bind fun r9 => rec6 (w32 (s7.1 + r9), w32 (s7.2 + 1))) else (rec1 (s7.1, w32 (s2.2 + 1)))) BIG (s2.1, 0)) else (some s2.1) else none else none) BIG (0, 0)
set_option maxRecDepth 100000 in
set_option maxHeartbeats 4000000 in
theorem kX8_want (d : Nat) (hd : 2 ≤ d) (M : Mem) (a0 : Int) : Ct mX8_want d 0 0 [pA a0] M (dI M) (fX8_want M a0) := by
  obtain ⟨d, rfl⟩ : ∃ k, d = k + 1 := ⟨d - 1, by omega⟩
  refine Ct.of 3 (fun _ _ _ => trivial) (by decide +kernel) rfl ?_
  unfold fX8_want
  refine v_iconst dX8_want_0 (by decide) ?_
  refine v_istore_n (ls' := [some (pA a0), some (pI 0), none, none]) dX8_want_1 (by decide) rfl ?_
  refine v_iconst dX8_want_2 (by decide) ?_
  refine v_istore_n (ls' := [some (pA a0), some (pI 0), some (pI 0), none]) dX8_want_3 (by decide) rfl ?_
  refine v_loop (fun (s2 : Int × Int) => [some (pA a0), some (pI s2.1), some (pI s2.2), none]) (fun (s2 : Int × Int) => M) (s0 := (0, 0)) ?_
  intro rec1 hrec1 s2
  refine v_iload_n dX8_want_4 rfl ?_
  refine v_aload_n dX8_want_5 rfl ?_
  refine v_if (fun h3 => ?_)
  refine v_get (v := pA (M.1 a0 0)) 8 0 rfl inX9 (by decide) tw316 dX8_want_6 h3 rfl ?_
  refine v_if (fun h4 => ?_)
  refine v_get (v := pI (M.1 (M.1 a0 0) 0)) 7 0 rfl inX7 (by decide) tw57 dX8_want_9 h4 rfl ?_
  refine v_icmp_ge (tgt := 43) dX8_want_12 (by decide) (fun c5 => ?_) (fun c5 => ?_)
  · refine v_iconst dX8_want_15 (by decide) ?_
    refine v_istore_n (ls' := [some (pA a0), some (pI s2.1), some (pI s2.2), some (pI 0)]) dX8_want_16 (by decide) rfl ?_
    refine v_loop (fun (s7 : Int × Int) => [some (pA a0), some (pI s7.1), some (pI s2.2), some (pI s7.2)]) (fun (s7 : Int × Int) => M) (s0 := (s2.1, 0)) ?_
    intro rec6 hrec6 s7
    refine v_iload_n dX8_want_17 rfl ?_
    refine v_iconst dX8_want_18 (by decide) ?_
    refine v_icmp_ge (tgt := 37) dX8_want_19 (by decide) (fun c8 => ?_) (fun c8 => ?_)
    · refine v_iload_n dX8_want_22 rfl ?_
      refine v_aload_n dX8_want_23 rfl ?_
      refine v_iload_n dX8_want_24 rfl ?_
      refine v_iload_n dX8_want_25 rfl ?_
      refine v_cV (mi := mX8_want) (c0 := 0) (c1 := 0) (As := [pI s2.2, pI s7.2]) (st := [pI s7.1]) (kX9_lackOf d (by omega) _ _ _ _) rfl h3 rfl okX9_lackOf (Or.inl tw824) tw825 tw826 rfl (Nat.le_of_ble_eq_true rfl) dX8_want_26 (fun r9 => [pI r9, pI s7.1]) (fun r9 => M) (fun _ => rfl) (fun _ => rfl) (fun r9 h10 => ?_) rfl
      refine v_iadd dX8_want_29 ?_
      refine v_istore_n (ls' := [some (pA a0), some (pI (w32 (s7.1 + r9))), some (pI s2.2), some (pI s7.2)]) dX8_want_30 (by decide) rfl ?_
      refine v_iinc (ls' := [some (pA a0), some (pI (w32 (s7.1 + r9))), some (pI s2.2), some (pI (w32 (s7.2 + 1)))]) dX8_want_31 (by decide) rfl rfl ?_
      refine v_goto (tgt := 17) dX8_want_34 (by decide) ?_
      exact hrec6 (w32 (s7.1 + r9), w32 (s7.2 + 1))
    · refine v_iinc (ls' := [some (pA a0), some (pI s7.1), some (pI (w32 (s2.2 + 1))), some (pI s7.2)]) dX8_want_37 (by decide) rfl rfl ?_
      refine v_goto (tgt := 4) dX8_want_40 (by decide) ?_
      exact v_drop [some (pA a0), some (pI s7.1), some (pI (w32 (s2.2 + 1))), none] (ls_s (ls_s (ls_s (ls_n ls_e)))) (hrec1 (s7.1, w32 (s2.2 + 1)))
  · refine v_iload_n dX8_want_43 rfl ?_
    exact v_ireturn dX8_want_44 rfl rfl
theorem dX8_pious_0 : decode cX8_pious 0 = .ok (.iconst (-1), 1) := by decide +kernel
theorem dX8_pious_1 : decode cX8_pious 1 = .ok (.istore_n 1, 1) := by decide +kernel
theorem dX8_pious_2 : decode cX8_pious 2 = .ok (.iconst 0, 1) := by decide +kernel
theorem dX8_pious_3 : decode cX8_pious 3 = .ok (.istore_n 2, 1) := by decide +kernel
theorem dX8_pious_4 : decode cX8_pious 4 = .ok (.iload_n 2, 1) := by decide +kernel
theorem dX8_pious_5 : decode cX8_pious 5 = .ok (.aload_n 0, 1) := by decide +kernel
theorem dX8_pious_6 : decode cX8_pious 6 = .ok (.getfield 28, 3) := by decide +kernel
theorem dX8_pious_9 : decode cX8_pious 9 = .ok (.getfield 66, 3) := by decide +kernel
theorem dX8_pious_12 : decode cX8_pious 12 = .ok (.if_icmp .ge 29, 3) := by decide +kernel
theorem dX8_pious_15 : decode cX8_pious 15 = .ok (.iload_n 1, 1) := by decide +kernel
theorem dX8_pious_16 : decode cX8_pious 16 = .ok (.iconst (-1), 1) := by decide +kernel
theorem dX8_pious_17 : decode cX8_pious 17 = .ok (.if_icmp .eq 16, 3) := by decide +kernel
theorem dX8_pious_20 : decode cX8_pious 20 = .ok (.aload_n 0, 1) := by decide +kernel
theorem dX8_pious_21 : decode cX8_pious 21 = .ok (.iload_n 2, 1) := by decide +kernel
theorem dX8_pious_22 : decode cX8_pious 22 = .ok (.invokevirtual 52, 3) := by decide +kernel
theorem dX8_pious_25 : decode cX8_pious 25 = .ok (.aload_n 0, 1) := by decide +kernel
theorem dX8_pious_26 : decode cX8_pious 26 = .ok (.iload_n 1, 1) := by decide +kernel
theorem dX8_pious_27 : decode cX8_pious 27 = .ok (.invokevirtual 52, 3) := by decide +kernel
theorem dX8_pious_30 : decode cX8_pious 30 = .ok (.if_icmp .ge 5, 3) := by decide +kernel
theorem dX8_pious_33 : decode cX8_pious 33 = .ok (.iload_n 2, 1) := by decide +kernel
theorem dX8_pious_34 : decode cX8_pious 34 = .ok (.istore_n 1, 1) := by decide +kernel
theorem dX8_pious_35 : decode cX8_pious 35 = .ok (.iinc 2 1, 3) := by decide +kernel
theorem dX8_pious_38 : decode cX8_pious 38 = .ok (.goto (-34), 3) := by decide +kernel
theorem dX8_pious_41 : decode cX8_pious 41 = .ok (.iload_n 1, 1) := by decide +kernel
theorem dX8_pious_42 : decode cX8_pious 42 = .ok (.ireturn, 1) := by decide +kernel
abbrev mX8_pious : MI := (yX8_pious, cX8_pious, 3, (some .int), noE)
theorem okX8_pious : cok mX8_pious 1 := ⟨tw831, tw18, by decide, by decide, by decide, by decide +kernel⟩
def fX8_pious (M : Mem) (a0 : Int) : Option Int :=
  iterC (fun (rec1 : (Int × Int) → Option Int) (s2 : Int × Int) => if M.2.1 a0 = 8 then if M.2.1 (M.1 a0 0) = 7 then if s2.2 < M.1 (M.1 a0 0) 1 then (if s2.1 = (-1) then (rec1 (s2.2, w32 (s2.2 + 1))) else ((fX9_owesOf M a0 s2.2).bind fun r7 => (fX9_owesOf M a0 s2.1).bind fun r9 => if r7 < r9 then (rec1 (s2.2, w32 (s2.2 + 1))) else (rec1 (s2.1, w32 (s2.2 + 1))))) else (some s2.1) else none else none) BIG ((-1), 0)
set_option maxRecDepth 100000 in
set_option maxHeartbeats 4000000 in
theorem kX8_pious (d : Nat) (hd : 2 ≤ d) (M : Mem) (a0 : Int) : Ct mX8_pious d 0 0 [pA a0] M (dI M) (fX8_pious M a0) := by
  obtain ⟨d, rfl⟩ : ∃ k, d = k + 1 := ⟨d - 1, by omega⟩
  refine Ct.of 2 (fun _ _ _ => trivial) (by decide +kernel) rfl ?_
  unfold fX8_pious
  refine v_iconst dX8_pious_0 (by decide) ?_
  refine v_istore_n (ls' := [some (pA a0), some (pI (-1)), none]) dX8_pious_1 (by decide) rfl ?_
  refine v_iconst dX8_pious_2 (by decide) ?_
  refine v_istore_n (ls' := [some (pA a0), some (pI (-1)), some (pI 0)]) dX8_pious_3 (by decide) rfl ?_
  refine v_loop (fun (s2 : Int × Int) => [some (pA a0), some (pI s2.1), some (pI s2.2)]) (fun (s2 : Int × Int) => M) (s0 := ((-1), 0)) ?_
  intro rec1 hrec1 s2
  refine v_iload_n dX8_pious_4 rfl ?_
  refine v_aload_n dX8_pious_5 rfl ?_
  refine v_if (fun h3 => ?_)
  refine v_get (v := pA (M.1 a0 0)) 8 0 rfl inX9 (by decide) tw316 dX8_pious_6 h3 rfl ?_
  refine v_if (fun h4 => ?_)
  refine v_get (v := pI (M.1 (M.1 a0 0) 1)) 7 1 rfl inX7 (by decide) tw63 dX8_pious_9 h4 rfl ?_
  refine v_icmp_ge (tgt := 41) dX8_pious_12 (by decide) (fun c5 => ?_) (fun c5 => ?_)
  · refine v_iload_n dX8_pious_15 rfl ?_
    refine v_iconst dX8_pious_16 (by decide) ?_
    refine v_icmp_eq (tgt := 33) dX8_pious_17 (by decide) (fun c6 => ?_) (fun c6 => ?_)
    · refine v_iload_n dX8_pious_33 rfl ?_
      refine v_istore_n (ls' := [some (pA a0), some (pI s2.2), some (pI s2.2)]) dX8_pious_34 (by decide) rfl ?_
      refine v_iinc (ls' := [some (pA a0), some (pI s2.2), some (pI (w32 (s2.2 + 1)))]) dX8_pious_35 (by decide) rfl rfl ?_
      refine v_goto (tgt := 4) dX8_pious_38 (by decide) ?_
      exact hrec1 (s2.2, w32 (s2.2 + 1))
    · refine v_aload_n dX8_pious_20 rfl ?_
      refine v_iload_n dX8_pious_21 rfl ?_
      refine v_cV (mi := mX8_pious) (c0 := 0) (c1 := 0) (As := [pI s2.2]) (st := []) (kX9_owesOf d (by omega) _ _ _) rfl h3 rfl okX9_owesOf (Or.inl tw832) tw786 tw787 rfl (Nat.le_of_ble_eq_true rfl) dX8_pious_22 (fun r7 => [pI r7]) (fun r7 => M) (fun _ => rfl) (fun _ => rfl) (fun r7 h8 => ?_) rfl
      refine v_aload_n dX8_pious_25 rfl ?_
      refine v_iload_n dX8_pious_26 rfl ?_
      refine v_cV (mi := mX8_pious) (c0 := 0) (c1 := 0) (As := [pI s2.1]) (st := [pI r7]) (kX9_owesOf d (by omega) _ _ _) rfl h3 rfl okX9_owesOf (Or.inl tw832) tw786 tw787 rfl (Nat.le_of_ble_eq_true rfl) dX8_pious_27 (fun r9 => [pI r9, pI r7]) (fun r9 => M) (fun _ => rfl) (fun _ => rfl) (fun r9 h10 => ?_) rfl
      refine v_icmp_ge (tgt := 35) dX8_pious_30 (by decide) (fun c11 => ?_) (fun c11 => ?_)
      · refine v_iload_n dX8_pious_33 rfl ?_
        refine v_istore_n (ls' := [some (pA a0), some (pI s2.2), some (pI s2.2)]) dX8_pious_34 (by decide) rfl ?_
        refine v_iinc (ls' := [some (pA a0), some (pI s2.2), some (pI (w32 (s2.2 + 1)))]) dX8_pious_35 (by decide) rfl rfl ?_
        refine v_goto (tgt := 4) dX8_pious_38 (by decide) ?_
        exact hrec1 (s2.2, w32 (s2.2 + 1))
      · refine v_iinc (ls' := [some (pA a0), some (pI s2.1), some (pI (w32 (s2.2 + 1)))]) dX8_pious_35 (by decide) rfl rfl ?_
        refine v_goto (tgt := 4) dX8_pious_38 (by decide) ?_
        exact hrec1 (s2.1, w32 (s2.2 + 1))
  · refine v_iload_n dX8_pious_41 rfl ?_
    exact v_ireturn dX8_pious_42 rfl rfl
theorem dX8_tookFrom_0 : decode cX8_tookFrom 0 = .ok (.iconst 0, 1) := by decide +kernel
theorem dX8_tookFrom_1 : decode cX8_tookFrom 1 = .ok (.istore_n 3, 1) := by decide +kernel
theorem dX8_tookFrom_2 : decode cX8_tookFrom 2 = .ok (.iconst 0, 1) := by decide +kernel
theorem dX8_tookFrom_3 : decode cX8_tookFrom 3 = .ok (.istore 4, 2) := by decide +kernel
theorem dX8_tookFrom_5 : decode cX8_tookFrom 5 = .ok (.iload 4, 2) := by decide +kernel
theorem dX8_tookFrom_7 : decode cX8_tookFrom 7 = .ok (.iconst 5, 1) := by decide +kernel
theorem dX8_tookFrom_8 : decode cX8_tookFrom 8 = .ok (.if_icmp .ge 24, 3) := by decide +kernel
theorem dX8_tookFrom_11 : decode cX8_tookFrom 11 = .ok (.iload_n 3, 1) := by decide +kernel
theorem dX8_tookFrom_12 : decode cX8_tookFrom 12 = .ok (.aload_n 0, 1) := by decide +kernel
theorem dX8_tookFrom_13 : decode cX8_tookFrom 13 = .ok (.getfield 72, 3) := by decide +kernel
theorem dX8_tookFrom_16 : decode cX8_tookFrom 16 = .ok (.iload_n 1, 1) := by decide +kernel
theorem dX8_tookFrom_17 : decode cX8_tookFrom 17 = .ok (.iload_n 2, 1) := by decide +kernel
theorem dX8_tookFrom_18 : decode cX8_tookFrom 18 = .ok (.iload 4, 2) := by decide +kernel
theorem dX8_tookFrom_20 : decode cX8_tookFrom 20 = .ok (.invokestatic 75, 3) := by decide +kernel
theorem dX8_tookFrom_23 : decode cX8_tookFrom 23 = .ok (.iaload, 1) := by decide +kernel
theorem dX8_tookFrom_24 : decode cX8_tookFrom 24 = .ok (.iadd, 1) := by decide +kernel
theorem dX8_tookFrom_25 : decode cX8_tookFrom 25 = .ok (.istore_n 3, 1) := by decide +kernel
theorem dX8_tookFrom_26 : decode cX8_tookFrom 26 = .ok (.iinc 4 1, 3) := by decide +kernel
theorem dX8_tookFrom_29 : decode cX8_tookFrom 29 = .ok (.goto (-24), 3) := by decide +kernel
theorem dX8_tookFrom_32 : decode cX8_tookFrom 32 = .ok (.iload_n 3, 1) := by decide +kernel
theorem dX8_tookFrom_33 : decode cX8_tookFrom 33 = .ok (.ireturn, 1) := by decide +kernel
abbrev mX8_tookFrom : MI := (yX8_tookFrom, cX8_tookFrom, 5, (some .int), noE)
theorem okX8_tookFrom : cok mX8_tookFrom 3 := ⟨tw842, tw18, by decide, by decide, by decide, by decide +kernel⟩
def fX8_tookFrom (M : Mem) (a0 a1 a2 : Int) : Option Int :=
  iterC (fun (rec1 : (Int × Int) → Option Int) (s2 : Int × Int) => if s2.2 < 5 then (if M.2.1 a0 = 8 then (fX10_cell_ M a1 a2 s2.2).bind fun r5 => if M.2.1 (M.1 a0 4) = 12 ∧ (0 : Int) ≤ r5 ∧ r5 < M.2.2.1 (M.1 a0 4) then rec1 (w32 (s2.1 + (M.1 (M.1 a0 4) r5)), w32 (s2.2 + 1)) else none else none) else (some s2.1)) BIG (0, 0)
set_option maxRecDepth 100000 in
set_option maxHeartbeats 4000000 in
theorem kX8_tookFrom (d : Nat) (hd : 1 ≤ d) (M : Mem) (a0 a1 a2 : Int) : Ct mX8_tookFrom d 0 0 [pA a0, pI a1, pI a2] M (dI M) (fX8_tookFrom M a0 a1 a2) := by
  obtain ⟨d, rfl⟩ : ∃ k, d = k + 1 := ⟨d - 1, by omega⟩
  refine Ct.of 2 (fun _ _ _ => trivial) (by decide +kernel) rfl ?_
  unfold fX8_tookFrom
  refine v_iconst dX8_tookFrom_0 (by decide) ?_
  refine v_istore_n (ls' := [some (pA a0), some (pI a1), some (pI a2), some (pI 0), none]) dX8_tookFrom_1 (by decide) rfl ?_
  refine v_iconst dX8_tookFrom_2 (by decide) ?_
  refine v_istore (ls' := [some (pA a0), some (pI a1), some (pI a2), some (pI 0), some (pI 0)]) dX8_tookFrom_3 (by decide) rfl ?_
  refine v_loop (fun (s2 : Int × Int) => [some (pA a0), some (pI a1), some (pI a2), some (pI s2.1), some (pI s2.2)]) (fun (s2 : Int × Int) => M) (s0 := (0, 0)) ?_
  intro rec1 hrec1 s2
  refine v_iload dX8_tookFrom_5 rfl ?_
  refine v_iconst dX8_tookFrom_7 (by decide) ?_
  refine v_icmp_ge (tgt := 32) dX8_tookFrom_8 (by decide) (fun c3 => ?_) (fun c3 => ?_)
  · refine v_iload_n dX8_tookFrom_11 rfl ?_
    refine v_aload_n dX8_tookFrom_12 rfl ?_
    refine v_if (fun h4 => ?_)
    refine v_get (v := pA (M.1 a0 4)) 8 4 rfl inX9 (by decide) tw327 dX8_tookFrom_13 h4 rfl ?_
    refine v_iload_n dX8_tookFrom_16 rfl ?_
    refine v_iload_n dX8_tookFrom_17 rfl ?_
    refine v_iload dX8_tookFrom_18 rfl ?_
    refine v_cS (mi := mX8_tookFrom) (c0 := 0) (c1 := 0) (As := [pI a1, pI a2, pI s2.2]) (st := [pA (M.1 a0 4), pI s2.1]) (kX10_cell_ d (by omega) _ _ _ _) okX10_cell_ (Or.inr nw18) tw766 rfl (Nat.le_of_ble_eq_true rfl) dX8_tookFrom_20 (fun r5 => [pI r5, pA (M.1 a0 4), pI s2.1]) (fun r5 => M) (fun _ => rfl) (fun _ => rfl) (fun r5 h6 => ?_) rfl
    refine v_if (fun h7 => ?_)
    refine v_iaload h7 dX8_tookFrom_23 ?_
    refine v_iadd dX8_tookFrom_24 ?_
    refine v_istore_n (ls' := [some (pA a0), some (pI a1), some (pI a2), some (pI (w32 (s2.1 + (M.1 (M.1 a0 4) r5)))), some (pI s2.2)]) dX8_tookFrom_25 (by decide) rfl ?_
    refine v_iinc (ls' := [some (pA a0), some (pI a1), some (pI a2), some (pI (w32 (s2.1 + (M.1 (M.1 a0 4) r5)))), some (pI (w32 (s2.2 + 1)))]) dX8_tookFrom_26 (by decide) rfl rfl ?_
    refine v_goto (tgt := 5) dX8_tookFrom_29 (by decide) ?_
    exact hrec1 (w32 (s2.1 + (M.1 (M.1 a0 4) r5)), w32 (s2.2 + 1))
  · refine v_iload_n dX8_tookFrom_32 rfl ?_
    exact v_ireturn dX8_tookFrom_33 rfl rfl
theorem dX8_lost_0 : decode cX8_lost 0 = .ok (.iconst 0, 1) := by decide +kernel
theorem dX8_lost_1 : decode cX8_lost 1 = .ok (.istore_n 2, 1) := by decide +kernel
theorem dX8_lost_2 : decode cX8_lost 2 = .ok (.iconst 0, 1) := by decide +kernel
theorem dX8_lost_3 : decode cX8_lost 3 = .ok (.istore_n 3, 1) := by decide +kernel
theorem dX8_lost_4 : decode cX8_lost 4 = .ok (.iload_n 3, 1) := by decide +kernel
theorem dX8_lost_5 : decode cX8_lost 5 = .ok (.aload_n 0, 1) := by decide +kernel
theorem dX8_lost_6 : decode cX8_lost 6 = .ok (.getfield 28, 3) := by decide +kernel
theorem dX8_lost_9 : decode cX8_lost 9 = .ok (.getfield 66, 3) := by decide +kernel
theorem dX8_lost_12 : decode cX8_lost 12 = .ok (.if_icmp .ge 18, 3) := by decide +kernel
theorem dX8_lost_15 : decode cX8_lost 15 = .ok (.iload_n 2, 1) := by decide +kernel
theorem dX8_lost_16 : decode cX8_lost 16 = .ok (.aload_n 0, 1) := by decide +kernel
theorem dX8_lost_17 : decode cX8_lost 17 = .ok (.iload_n 3, 1) := by decide +kernel
theorem dX8_lost_18 : decode cX8_lost 18 = .ok (.iload_n 1, 1) := by decide +kernel
theorem dX8_lost_19 : decode cX8_lost 19 = .ok (.invokestatic 69, 3) := by decide +kernel
theorem dX8_lost_22 : decode cX8_lost 22 = .ok (.iadd, 1) := by decide +kernel
theorem dX8_lost_23 : decode cX8_lost 23 = .ok (.istore_n 2, 1) := by decide +kernel
theorem dX8_lost_24 : decode cX8_lost 24 = .ok (.iinc 3 1, 3) := by decide +kernel
theorem dX8_lost_27 : decode cX8_lost 27 = .ok (.goto (-23), 3) := by decide +kernel
theorem dX8_lost_30 : decode cX8_lost 30 = .ok (.iload_n 2, 1) := by decide +kernel
theorem dX8_lost_31 : decode cX8_lost 31 = .ok (.ireturn, 1) := by decide +kernel
abbrev mX8_lost : MI := (yX8_lost, cX8_lost, 4, (some .int), noE)
theorem okX8_lost : cok mX8_lost 2 := ⟨tw839, tw18, by decide, by decide, by decide, by decide +kernel⟩
def fX8_lost (M : Mem) (a0 a1 : Int) : Option Int :=
  iterC (fun (rec1 : (Int × Int) → Option Int) (s2 : Int × Int) => if M.2.1 a0 = 8 then if M.2.1 (M.1 a0 0) = 7 then if s2.2 < M.1 (M.1 a0 0) 1 then ((fX8_tookFrom M a0 s2.2 a1).bind fun r6 => rec1 (w32 (s2.1 + r6), w32 (s2.2 + 1))) else (some s2.1) else none else none) BIG (0, 0)
set_option maxRecDepth 100000 in
set_option maxHeartbeats 4000000 in
theorem kX8_lost (d : Nat) (hd : 2 ≤ d) (M : Mem) (a0 a1 : Int) : Ct mX8_lost d 0 0 [pA a0, pI a1] M (dI M) (fX8_lost M a0 a1) := by
  obtain ⟨d, rfl⟩ : ∃ k, d = k + 1 := ⟨d - 1, by omega⟩
  refine Ct.of 2 (fun _ _ _ => trivial) (by decide +kernel) rfl ?_
  unfold fX8_lost
  refine v_iconst dX8_lost_0 (by decide) ?_
  refine v_istore_n (ls' := [some (pA a0), some (pI a1), some (pI 0), none]) dX8_lost_1 (by decide) rfl ?_
  refine v_iconst dX8_lost_2 (by decide) ?_
  refine v_istore_n (ls' := [some (pA a0), some (pI a1), some (pI 0), some (pI 0)]) dX8_lost_3 (by decide) rfl ?_
  refine v_loop (fun (s2 : Int × Int) => [some (pA a0), some (pI a1), some (pI s2.1), some (pI s2.2)]) (fun (s2 : Int × Int) => M) (s0 := (0, 0)) ?_
  intro rec1 hrec1 s2
  refine v_iload_n dX8_lost_4 rfl ?_
  refine v_aload_n dX8_lost_5 rfl ?_
  refine v_if (fun h3 => ?_)
  refine v_get (v := pA (M.1 a0 0)) 8 0 rfl inX9 (by decide) tw316 dX8_lost_6 h3 rfl ?_
  refine v_if (fun h4 => ?_)
  refine v_get (v := pI (M.1 (M.1 a0 0) 1)) 7 1 rfl inX7 (by decide) tw63 dX8_lost_9 h4 rfl ?_
  refine v_icmp_ge (tgt := 30) dX8_lost_12 (by decide) (fun c5 => ?_) (fun c5 => ?_)
  · refine v_iload_n dX8_lost_15 rfl ?_
    refine v_aload_n dX8_lost_16 rfl ?_
    refine v_iload_n dX8_lost_17 rfl ?_
    refine v_iload_n dX8_lost_18 rfl ?_
    refine v_cS (mi := mX8_lost) (c0 := 0) (c1 := 0) (As := [pA a0, pI s2.2, pI a1]) (st := [pI s2.1]) (kX8_tookFrom d (by omega) _ _ _ _) okX8_tookFrom (Or.inl tw840) tw841 rfl (Nat.le_of_ble_eq_true rfl) dX8_lost_19 (fun r6 => [pI r6, pI s2.1]) (fun r6 => M) (fun _ => rfl) (fun _ => rfl) (fun r6 h7 => ?_) rfl
    refine v_iadd dX8_lost_22 ?_
    refine v_istore_n (ls' := [some (pA a0), some (pI a1), some (pI (w32 (s2.1 + r6))), some (pI s2.2)]) dX8_lost_23 (by decide) rfl ?_
    refine v_iinc (ls' := [some (pA a0), some (pI a1), some (pI (w32 (s2.1 + r6))), some (pI (w32 (s2.2 + 1)))]) dX8_lost_24 (by decide) rfl rfl ?_
    refine v_goto (tgt := 4) dX8_lost_27 (by decide) ?_
    exact hrec1 (w32 (s2.1 + r6), w32 (s2.2 + 1))
  · refine v_iload_n dX8_lost_30 rfl ?_
    exact v_ireturn dX8_lost_31 rfl rfl
theorem dX8_seenOf_0 : decode cX8_seenOf 0 = .ok (.iload_n 1, 1) := by decide +kernel
theorem dX8_seenOf_1 : decode cX8_seenOf 1 = .ok (.bipush 6, 2) := by decide +kernel
theorem dX8_seenOf_3 : decode cX8_seenOf 3 = .ok (.if_icmp .ne 26, 3) := by decide +kernel
theorem dX8_seenOf_6 : decode cX8_seenOf 6 = .ok (.aload_n 0, 1) := by decide +kernel
theorem dX8_seenOf_7 : decode cX8_seenOf 7 = .ok (.getfield 28, 3) := by decide +kernel
theorem dX8_seenOf_10 : decode cX8_seenOf 10 = .ok (.iload_n 2, 1) := by decide +kernel
theorem dX8_seenOf_11 : decode cX8_seenOf 11 = .ok (.invokevirtual 32, 3) := by decide +kernel
theorem dX8_seenOf_14 : decode cX8_seenOf 14 = .ok (.ifCond .eq 11, 3) := by decide +kernel
theorem dX8_seenOf_17 : decode cX8_seenOf 17 = .ok (.aload_n 0, 1) := by decide +kernel
theorem dX8_seenOf_18 : decode cX8_seenOf 18 = .ok (.iload_n 2, 1) := by decide +kernel
theorem dX8_seenOf_19 : decode cX8_seenOf 19 = .ok (.invokestatic 38, 3) := by decide +kernel
theorem dX8_seenOf_22 : decode cX8_seenOf 22 = .ok (.goto 6, 3) := by decide +kernel
theorem dX8_seenOf_25 : decode cX8_seenOf 25 = .ok (.sipush (-1000), 3) := by decide +kernel
theorem dX8_seenOf_28 : decode cX8_seenOf 28 = .ok (.ireturn, 1) := by decide +kernel
theorem dX8_seenOf_29 : decode cX8_seenOf 29 = .ok (.aload_n 0, 1) := by decide +kernel
theorem dX8_seenOf_30 : decode cX8_seenOf 30 = .ok (.getfield 28, 3) := by decide +kernel
theorem dX8_seenOf_33 : decode cX8_seenOf 33 = .ok (.iload_n 2, 1) := by decide +kernel
theorem dX8_seenOf_34 : decode cX8_seenOf 34 = .ok (.invokevirtual 42, 3) := by decide +kernel
theorem dX8_seenOf_37 : decode cX8_seenOf 37 = .ok (.ifCond .ne 7, 3) := by decide +kernel
theorem dX8_seenOf_40 : decode cX8_seenOf 40 = .ok (.sipush (-1000), 3) := by decide +kernel
theorem dX8_seenOf_43 : decode cX8_seenOf 43 = .ok (.ireturn, 1) := by decide +kernel
theorem dX8_seenOf_44 : decode cX8_seenOf 44 = .ok (.iload_n 1, 1) := by decide +kernel
theorem dX8_seenOf_45 : decode cX8_seenOf 45 = .ok (.tableswitch 47 2 4 #[27, 34, 41], 27) := by decide +kernel
theorem dX8_seenOf_72 : decode cX8_seenOf 72 = .ok (.aload_n 0, 1) := by decide +kernel
theorem dX8_seenOf_73 : decode cX8_seenOf 73 = .ok (.getfield 45, 3) := by decide +kernel
theorem dX8_seenOf_76 : decode cX8_seenOf 76 = .ok (.iload_n 2, 1) := by decide +kernel
theorem dX8_seenOf_77 : decode cX8_seenOf 77 = .ok (.iaload, 1) := by decide +kernel
theorem dX8_seenOf_78 : decode cX8_seenOf 78 = .ok (.ireturn, 1) := by decide +kernel
theorem dX8_seenOf_79 : decode cX8_seenOf 79 = .ok (.aload_n 0, 1) := by decide +kernel
theorem dX8_seenOf_80 : decode cX8_seenOf 80 = .ok (.getfield 49, 3) := by decide +kernel
theorem dX8_seenOf_83 : decode cX8_seenOf 83 = .ok (.iload_n 2, 1) := by decide +kernel
theorem dX8_seenOf_84 : decode cX8_seenOf 84 = .ok (.iaload, 1) := by decide +kernel
theorem dX8_seenOf_85 : decode cX8_seenOf 85 = .ok (.ireturn, 1) := by decide +kernel
theorem dX8_seenOf_86 : decode cX8_seenOf 86 = .ok (.aload_n 0, 1) := by decide +kernel
theorem dX8_seenOf_87 : decode cX8_seenOf 87 = .ok (.iload_n 2, 1) := by decide +kernel
theorem dX8_seenOf_88 : decode cX8_seenOf 88 = .ok (.invokevirtual 52, 3) := by decide +kernel
theorem dX8_seenOf_91 : decode cX8_seenOf 91 = .ok (.ireturn, 1) := by decide +kernel
theorem dX8_seenOf_92 : decode cX8_seenOf 92 = .ok (.aload_n 0, 1) := by decide +kernel
theorem dX8_seenOf_93 : decode cX8_seenOf 93 = .ok (.getfield 56, 3) := by decide +kernel
theorem dX8_seenOf_96 : decode cX8_seenOf 96 = .ok (.iload_n 2, 1) := by decide +kernel
theorem dX8_seenOf_97 : decode cX8_seenOf 97 = .ok (.iaload, 1) := by decide +kernel
theorem dX8_seenOf_98 : decode cX8_seenOf 98 = .ok (.ireturn, 1) := by decide +kernel
abbrev mX8_seenOf : MI := (yX8_seenOf, cX8_seenOf, 3, (some .int), noE)
theorem okX8_seenOf : cok mX8_seenOf 3 := ⟨tw835, tw18, by decide, by decide, by decide, by decide +kernel⟩
def fX8_seenOf (M : Mem) (a0 a1 a2 : Int) : Option Int :=
  if a1 = 6 then (if M.2.1 a0 = 8 then if M.2.1 (M.1 a0 0) = 7 then (fX7_isHouse M (M.1 a0 0) a2).bind fun r3 => if r3 = 0 then (some (-1000)) else ((fX8_lost M a0 a2).bind fun r7 => some r7) else none else none) else (if M.2.1 a0 = 8 then if M.2.1 (M.1 a0 0) = 7 then (fX7_isThief M (M.1 a0 0) a2).bind fun r10 => if r10 = 0 then (some (-1000)) else (if a1 = 2 then (if M.2.1 (M.1 a0 6) = 12 ∧ (0 : Int) ≤ a2 ∧ a2 < M.2.2.1 (M.1 a0 6) then some (M.1 (M.1 a0 6) a2) else none) else if a1 = 3 then (if M.2.1 (M.1 a0 7) = 12 ∧ (0 : Int) ≤ a2 ∧ a2 < M.2.2.1 (M.1 a0 7) then some (M.1 (M.1 a0 7) a2) else none) else if a1 = 4 then ((fX9_owesOf M a0 a2).bind fun r19 => some r19) else if M.2.1 (M.1 a0 8) = 12 ∧ (0 : Int) ≤ a2 ∧ a2 < M.2.2.1 (M.1 a0 8) then some (M.1 (M.1 a0 8) a2) else none) else none else none)
set_option maxRecDepth 100000 in
set_option maxHeartbeats 4000000 in
theorem kX8_seenOf (d : Nat) (hd : 3 ≤ d) (M : Mem) (a0 a1 a2 : Int) : Ct mX8_seenOf d 0 0 [pA a0, pI a1, pI a2] M (dI M) (fX8_seenOf M a0 a1 a2) := by
  obtain ⟨d, rfl⟩ : ∃ k, d = k + 1 := ⟨d - 1, by omega⟩
  refine Ct.of 0 (fun _ _ _ => trivial) (by decide +kernel) rfl ?_
  unfold fX8_seenOf
  refine v_iload_n dX8_seenOf_0 rfl ?_
  refine v_bipush dX8_seenOf_1 (by decide) ?_
  refine v_icmp_ne (tgt := 29) dX8_seenOf_3 (by decide) (fun c1 => ?_) (fun c1 => ?_)
  · refine v_aload_n dX8_seenOf_6 rfl ?_
    refine v_if (fun h2 => ?_)
    refine v_get (v := pA (M.1 a0 0)) 8 0 rfl inX9 (by decide) tw316 dX8_seenOf_7 h2 rfl ?_
    refine v_iload_n dX8_seenOf_10 rfl ?_
    refine v_if (fun h5 => ?_)
    refine v_cV (mi := mX8_seenOf) (c0 := 0) (c1 := 0) (As := [pI a2]) (st := []) (kX7_isHouse d (by omega) _ _ _) rfl h5 rfl okX7_isHouse (Or.inl tw836) tw685 tw686 rfl (Nat.le_of_ble_eq_true rfl) dX8_seenOf_11 (fun r3 => [pI r3]) (fun r3 => M) (fun _ => rfl) (fun _ => rfl) (fun r3 h4 => ?_) rfl
    refine v_if_eq (tgt := 25) dX8_seenOf_14 (by decide) (fun c6 => ?_) (fun c6 => ?_)
    · refine v_sipush dX8_seenOf_25 (by decide) ?_
      exact v_ireturn dX8_seenOf_28 rfl rfl
    · refine v_aload_n dX8_seenOf_17 rfl ?_
      refine v_iload_n dX8_seenOf_18 rfl ?_
      refine v_cS (mi := mX8_seenOf) (c0 := 0) (c1 := 0) (As := [pA a0, pI a2]) (st := []) (kX8_lost d (by omega) _ _ _) okX8_lost (Or.inl tw837) tw838 rfl (Nat.le_of_ble_eq_true rfl) dX8_seenOf_19 (fun r7 => [pI r7]) (fun r7 => M) (fun _ => rfl) (fun _ => rfl) (fun r7 h8 => ?_) rfl
      refine v_goto (tgt := 28) dX8_seenOf_22 (by decide) ?_
      exact v_ireturn dX8_seenOf_28 rfl rfl
  · refine v_aload_n dX8_seenOf_29 rfl ?_
    refine v_if (fun h9 => ?_)
    refine v_get (v := pA (M.1 a0 0)) 8 0 rfl inX9 (by decide) tw316 dX8_seenOf_30 h9 rfl ?_
    refine v_iload_n dX8_seenOf_33 rfl ?_
    refine v_if (fun h12 => ?_)
    refine v_cV (mi := mX8_seenOf) (c0 := 0) (c1 := 0) (As := [pI a2]) (st := []) (kX7_isThief d (by omega) _ _ _) rfl h12 rfl okX7_isThief (Or.inl tw844) tw692 tw693 rfl (Nat.le_of_ble_eq_true rfl) dX8_seenOf_34 (fun r10 => [pI r10]) (fun r10 => M) (fun _ => rfl) (fun _ => rfl) (fun r10 h11 => ?_) rfl
    refine v_if_ne (tgt := 44) dX8_seenOf_37 (by decide) (fun c13 => ?_) (fun c13 => ?_)
    · refine v_sipush dX8_seenOf_40 (by decide) ?_
      exact v_ireturn dX8_seenOf_43 rfl rfl
    · refine v_iload_n dX8_seenOf_44 rfl ?_
      refine v_ite (fun h14 => ?_) (fun h14 => ?_)
      · refine v_tabIn (off := 27) (tgt := 72) dX8_seenOf_45 h14 (by decide) ?_
        refine v_aload_n dX8_seenOf_72 rfl ?_
        refine v_get (v := pA (M.1 a0 6)) 8 6 rfl inX9 (by decide) tw332 dX8_seenOf_73 h9 rfl ?_
        refine v_iload_n dX8_seenOf_76 rfl ?_
        refine v_if (fun h15 => ?_)
        refine v_iaload h15 dX8_seenOf_77 ?_
        exact v_ireturn dX8_seenOf_78 rfl rfl
      · refine v_ite (fun h16 => ?_) (fun h16 => ?_)
        · refine v_tabIn (off := 34) (tgt := 79) dX8_seenOf_45 h16 (by decide) ?_
          refine v_aload_n dX8_seenOf_79 rfl ?_
          refine v_get (v := pA (M.1 a0 7)) 8 7 rfl inX9 (by decide) tw334 dX8_seenOf_80 h9 rfl ?_
          refine v_iload_n dX8_seenOf_83 rfl ?_
          refine v_if (fun h17 => ?_)
          refine v_iaload h17 dX8_seenOf_84 ?_
          exact v_ireturn dX8_seenOf_85 rfl rfl
        · refine v_ite (fun h18 => ?_) (fun h18 => ?_)
          · refine v_tabIn (off := 41) (tgt := 86) dX8_seenOf_45 h18 (by decide) ?_
            refine v_aload_n dX8_seenOf_86 rfl ?_
            refine v_iload_n dX8_seenOf_87 rfl ?_
            refine v_cV (mi := mX8_seenOf) (c0 := 0) (c1 := 0) (As := [pI a2]) (st := []) (kX9_owesOf d (by omega) _ _ _) rfl h9 rfl okX9_owesOf (Or.inl tw832) tw786 tw787 rfl (Nat.le_of_ble_eq_true rfl) dX8_seenOf_88 (fun r19 => [pI r19]) (fun r19 => M) (fun _ => rfl) (fun _ => rfl) (fun r19 h20 => ?_) rfl
            exact v_ireturn dX8_seenOf_91 rfl rfl
          · refine v_tabOut (tgt := 92) dX8_seenOf_45 (by omega) (by decide) ?_
            refine v_aload_n dX8_seenOf_92 rfl ?_
            refine v_get (v := pA (M.1 a0 8)) 8 8 rfl inX9 (by decide) tw336 dX8_seenOf_93 h9 rfl ?_
            refine v_iload_n dX8_seenOf_96 rfl ?_
            refine v_if (fun h21 => ?_)
            refine v_iaload h21 dX8_seenOf_97 ?_
            exact v_ireturn dX8_seenOf_98 rfl rfl
theorem dX8_seen_0 : decode cX8_seen 0 = .ok (.iload_n 1, 1) := by decide +kernel
theorem dX8_seen_1 : decode cX8_seen 1 = .ok (.tableswitch 42 1 3 #[27, 32, 37], 27) := by decide +kernel
theorem dX8_seen_28 : decode cX8_seen 28 = .ok (.aload_n 0, 1) := by decide +kernel
theorem dX8_seen_29 : decode cX8_seen 29 = .ok (.invokestatic 9, 3) := by decide +kernel
theorem dX8_seen_32 : decode cX8_seen 32 = .ok (.ireturn, 1) := by decide +kernel
theorem dX8_seen_33 : decode cX8_seen 33 = .ok (.aload_n 0, 1) := by decide +kernel
theorem dX8_seen_34 : decode cX8_seen 34 = .ok (.getfield 15, 3) := by decide +kernel
theorem dX8_seen_37 : decode cX8_seen 37 = .ok (.ireturn, 1) := by decide +kernel
theorem dX8_seen_38 : decode cX8_seen 38 = .ok (.aload_n 0, 1) := by decide +kernel
theorem dX8_seen_39 : decode cX8_seen 39 = .ok (.invokestatic 21, 3) := by decide +kernel
theorem dX8_seen_42 : decode cX8_seen 42 = .ok (.ireturn, 1) := by decide +kernel
theorem dX8_seen_43 : decode cX8_seen 43 = .ok (.iload_n 1, 1) := by decide +kernel
theorem dX8_seen_44 : decode cX8_seen 44 = .ok (.bipush 20, 2) := by decide +kernel
theorem dX8_seen_46 : decode cX8_seen 46 = .ok (.if_icmp .lt 24, 3) := by decide +kernel
theorem dX8_seen_49 : decode cX8_seen 49 = .ok (.iload_n 1, 1) := by decide +kernel
theorem dX8_seen_50 : decode cX8_seen 50 = .ok (.bipush 70, 2) := by decide +kernel
theorem dX8_seen_52 : decode cX8_seen 52 = .ok (.if_icmp .ge 18, 3) := by decide +kernel
theorem dX8_seen_55 : decode cX8_seen 55 = .ok (.aload_n 0, 1) := by decide +kernel
theorem dX8_seen_56 : decode cX8_seen 56 = .ok (.iload_n 1, 1) := by decide +kernel
theorem dX8_seen_57 : decode cX8_seen 57 = .ok (.bipush 10, 2) := by decide +kernel
theorem dX8_seen_59 : decode cX8_seen 59 = .ok (.idiv, 1) := by decide +kernel
theorem dX8_seen_60 : decode cX8_seen 60 = .ok (.iload_n 1, 1) := by decide +kernel
theorem dX8_seen_61 : decode cX8_seen 61 = .ok (.bipush 10, 2) := by decide +kernel
theorem dX8_seen_63 : decode cX8_seen 63 = .ok (.irem, 1) := by decide +kernel
theorem dX8_seen_64 : decode cX8_seen 64 = .ok (.invokestatic 24, 3) := by decide +kernel
theorem dX8_seen_67 : decode cX8_seen 67 = .ok (.goto 6, 3) := by decide +kernel
theorem dX8_seen_70 : decode cX8_seen 70 = .ok (.sipush (-1000), 3) := by decide +kernel
theorem dX8_seen_73 : decode cX8_seen 73 = .ok (.ireturn, 1) := by decide +kernel
abbrev mX8_seen : MI := (yX8_seen, cX8_seen, 2, (some .int), noE)
theorem okX8_seen : cok mX8_seen 2 := ⟨tw820, tw18, by decide, by decide, by decide, by decide +kernel⟩
def fX8_seen (M : Mem) (a0 a1 : Int) : Option Int :=
  if a1 = 1 then ((fX8_want M a0).bind fun r2 => some r2) else if a1 = 2 then (if M.2.1 a0 = 8 then some (M.1 a0 13) else none) else if a1 = 3 then ((fX8_pious M a0).bind fun r7 => some r7) else if a1 < 20 then (some (-1000)) else (if a1 < 70 then ((fX8_seenOf M a0 (w32 (a1.tdiv 10)) (a1.tmod 10)).bind fun r11 => some r11) else (some (-1000)))
set_option maxRecDepth 100000 in
set_option maxHeartbeats 4000000 in
theorem kX8_seen (d : Nat) (hd : 4 ≤ d) (M : Mem) (a0 a1 : Int) : Ct mX8_seen d 0 0 [pA a0, pI a1] M (dI M) (fX8_seen M a0 a1) := by
  obtain ⟨d, rfl⟩ : ∃ k, d = k + 1 := ⟨d - 1, by omega⟩
  refine Ct.of 0 (fun _ _ _ => trivial) (by decide +kernel) rfl ?_
  unfold fX8_seen
  refine v_iload_n dX8_seen_0 rfl ?_
  refine v_ite (fun h1 => ?_) (fun h1 => ?_)
  · refine v_tabIn (off := 27) (tgt := 28) dX8_seen_1 h1 (by decide) ?_
    refine v_aload_n dX8_seen_28 rfl ?_
    refine v_cS (mi := mX8_seen) (c0 := 0) (c1 := 0) (As := [pA a0]) (st := []) (kX8_want d (by omega) _ _) okX8_want (Or.inl tw821) tw822 rfl (Nat.le_of_ble_eq_true rfl) dX8_seen_29 (fun r2 => [pI r2]) (fun r2 => M) (fun _ => rfl) (fun _ => rfl) (fun r2 h3 => ?_) rfl
    exact v_ireturn dX8_seen_32 rfl rfl
  · refine v_ite (fun h4 => ?_) (fun h4 => ?_)
    · refine v_tabIn (off := 32) (tgt := 33) dX8_seen_1 h4 (by decide) ?_
      refine v_aload_n dX8_seen_33 rfl ?_
      refine v_if (fun h5 => ?_)
      refine v_get (v := pI (M.1 a0 13)) 8 13 rfl inX9 (by decide) tw343 dX8_seen_34 h5 rfl ?_
      exact v_ireturn dX8_seen_37 rfl rfl
    · refine v_ite (fun h6 => ?_) (fun h6 => ?_)
      · refine v_tabIn (off := 37) (tgt := 38) dX8_seen_1 h6 (by decide) ?_
        refine v_aload_n dX8_seen_38 rfl ?_
        refine v_cS (mi := mX8_seen) (c0 := 0) (c1 := 0) (As := [pA a0]) (st := []) (kX8_pious d (by omega) _ _) okX8_pious (Or.inl tw829) tw830 rfl (Nat.le_of_ble_eq_true rfl) dX8_seen_39 (fun r7 => [pI r7]) (fun r7 => M) (fun _ => rfl) (fun _ => rfl) (fun r7 h8 => ?_) rfl
        exact v_ireturn dX8_seen_42 rfl rfl
      · refine v_tabOut (tgt := 43) dX8_seen_1 (by omega) (by decide) ?_
        refine v_iload_n dX8_seen_43 rfl ?_
        refine v_bipush dX8_seen_44 (by decide) ?_
        refine v_icmp_lt (tgt := 70) dX8_seen_46 (by decide) (fun c9 => ?_) (fun c9 => ?_)
        · refine v_sipush dX8_seen_70 (by decide) ?_
          exact v_ireturn dX8_seen_73 rfl rfl
        · refine v_iload_n dX8_seen_49 rfl ?_
          refine v_bipush dX8_seen_50 (by decide) ?_
          refine v_icmp_ge (tgt := 70) dX8_seen_52 (by decide) (fun c10 => ?_) (fun c10 => ?_)
          · refine v_aload_n dX8_seen_55 rfl ?_
            refine v_iload_n dX8_seen_56 rfl ?_
            refine v_bipush dX8_seen_57 (by decide) ?_
            refine v_idiv (by decide) dX8_seen_59 ?_
            refine v_iload_n dX8_seen_60 rfl ?_
            refine v_bipush dX8_seen_61 (by decide) ?_
            refine v_irem (by decide) dX8_seen_63 ?_
            refine v_cS (mi := mX8_seen) (c0 := 0) (c1 := 0) (As := [pA a0, pI (w32 (a1.tdiv 10)), pI (a1.tmod 10)]) (st := []) (kX8_seenOf d (by omega) _ _ _ _) okX8_seenOf (Or.inl tw833) tw834 rfl (Nat.le_of_ble_eq_true rfl) dX8_seen_64 (fun r11 => [pI r11]) (fun r11 => M) (fun _ => rfl) (fun _ => rfl) (fun r11 h12 => ?_) rfl
            refine v_goto (tgt := 73) dX8_seen_67 (by decide) ?_
            exact v_ireturn dX8_seen_73 rfl rfl
          · refine v_sipush dX8_seen_70 (by decide) ?_
            exact v_ireturn dX8_seen_73 rfl rfl
theorem dX8_isOdd_0 : decode cX8_isOdd 0 = .ok (.aload_n 0, 1) := by decide +kernel
theorem dX8_isOdd_1 : decode cX8_isOdd 1 = .ok (.getfield 86, 3) := by decide +kernel
theorem dX8_isOdd_4 : decode cX8_isOdd 4 = .ok (.aload_n 0, 1) := by decide +kernel
theorem dX8_isOdd_5 : decode cX8_isOdd 5 = .ok (.getfield 45, 3) := by decide +kernel
theorem dX8_isOdd_8 : decode cX8_isOdd 8 = .ok (.iload_n 1, 1) := by decide +kernel
theorem dX8_isOdd_9 : decode cX8_isOdd 9 = .ok (.iaload, 1) := by decide +kernel
theorem dX8_isOdd_10 : decode cX8_isOdd 10 = .ok (.invokevirtual 90, 3) := by decide +kernel
theorem dX8_isOdd_13 : decode cX8_isOdd 13 = .ok (.ifCond .le 7, 3) := by decide +kernel
theorem dX8_isOdd_16 : decode cX8_isOdd 16 = .ok (.iconst 1, 1) := by decide +kernel
theorem dX8_isOdd_17 : decode cX8_isOdd 17 = .ok (.goto 4, 3) := by decide +kernel
theorem dX8_isOdd_20 : decode cX8_isOdd 20 = .ok (.iconst 0, 1) := by decide +kernel
theorem dX8_isOdd_21 : decode cX8_isOdd 21 = .ok (.ireturn, 1) := by decide +kernel
abbrev mX8_isOdd : MI := (yX8_isOdd, cX8_isOdd, 2, (some .boolean), noE)
theorem okX8_isOdd : cok mX8_isOdd 2 := ⟨tw810, tw18, by decide, by decide, by decide, by decide +kernel⟩
def fX8_isOdd (M : Mem) (a0 a1 : Int) : Option Int :=
  if M.2.1 a0 = 8 then if M.2.1 (M.1 a0 6) = 12 ∧ (0 : Int) ≤ a1 ∧ a1 < M.2.2.1 (M.1 a0 6) then if M.2.1 (M.1 a0 1) = 0 then (fX0_oddOf M (M.1 a0 1) (M.1 (M.1 a0 6) a1)).bind fun r3 => if 0 < r3 then (some 1) else (some 0) else none else none else none
set_option maxRecDepth 100000 in
set_option maxHeartbeats 4000000 in
theorem kX8_isOdd (d : Nat) (hd : 1 ≤ d) (M : Mem) (a0 a1 : Int) : Ct mX8_isOdd d 0 0 [pA a0, pI a1] M (dI M) (fX8_isOdd M a0 a1) := by
  obtain ⟨d, rfl⟩ : ∃ k, d = k + 1 := ⟨d - 1, by omega⟩
  refine Ct.of 0 (fun _ _ _ => trivial) (by decide +kernel) rfl ?_
  unfold fX8_isOdd
  refine v_aload_n dX8_isOdd_0 rfl ?_
  refine v_if (fun h1 => ?_)
  refine v_get (v := pA (M.1 a0 1)) 8 1 rfl inX9 (by decide) tw319 dX8_isOdd_1 h1 rfl ?_
  refine v_aload_n dX8_isOdd_4 rfl ?_
  refine v_get (v := pA (M.1 a0 6)) 8 6 rfl inX9 (by decide) tw332 dX8_isOdd_5 h1 rfl ?_
  refine v_iload_n dX8_isOdd_8 rfl ?_
  refine v_if (fun h2 => ?_)
  refine v_iaload h2 dX8_isOdd_9 ?_
  refine v_if (fun h5 => ?_)
  refine v_cV (mi := mX8_isOdd) (c0 := 0) (c1 := 0) (As := [pI (M.1 (M.1 a0 6) a1)]) (st := []) (kX0_oddOf d (by omega) _ _ _) rfl h5 rfl okX0_oddOf (Or.inl tw811) tw812 tw813 rfl (Nat.le_of_ble_eq_true rfl) dX8_isOdd_10 (fun r3 => [pI r3]) (fun r3 => M) (fun _ => rfl) (fun _ => rfl) (fun r3 h4 => ?_) rfl
  refine v_if_le (tgt := 20) dX8_isOdd_13 (by decide) (fun c6 => ?_) (fun c6 => ?_)
  · refine v_iconst dX8_isOdd_16 (by decide) ?_
    refine v_goto (tgt := 21) dX8_isOdd_17 (by decide) ?_
    exact v_breturn dX8_isOdd_21 rfl (by decide) rfl
  · refine v_iconst dX8_isOdd_20 (by decide) ?_
    exact v_breturn dX8_isOdd_21 rfl (by decide) rfl
theorem dX8_placeInQueue_0 : decode cX8_placeInQueue 0 = .ok (.iconst 0, 1) := by decide +kernel
theorem dX8_placeInQueue_1 : decode cX8_placeInQueue 1 = .ok (.istore_n 2, 1) := by decide +kernel
theorem dX8_placeInQueue_2 : decode cX8_placeInQueue 2 = .ok (.iconst 0, 1) := by decide +kernel
theorem dX8_placeInQueue_3 : decode cX8_placeInQueue 3 = .ok (.istore_n 3, 1) := by decide +kernel
theorem dX8_placeInQueue_4 : decode cX8_placeInQueue 4 = .ok (.iload_n 3, 1) := by decide +kernel
theorem dX8_placeInQueue_5 : decode cX8_placeInQueue 5 = .ok (.aload_n 0, 1) := by decide +kernel
theorem dX8_placeInQueue_6 : decode cX8_placeInQueue 6 = .ok (.getfield 28, 3) := by decide +kernel
theorem dX8_placeInQueue_9 : decode cX8_placeInQueue 9 = .ok (.getfield 66, 3) := by decide +kernel
theorem dX8_placeInQueue_12 : decode cX8_placeInQueue 12 = .ok (.if_icmp .ge 35, 3) := by decide +kernel
theorem dX8_placeInQueue_15 : decode cX8_placeInQueue 15 = .ok (.aload_n 0, 1) := by decide +kernel
theorem dX8_placeInQueue_16 : decode cX8_placeInQueue 16 = .ok (.iload_n 3, 1) := by decide +kernel
theorem dX8_placeInQueue_17 : decode cX8_placeInQueue 17 = .ok (.invokestatic 79, 3) := by decide +kernel
theorem dX8_placeInQueue_20 : decode cX8_placeInQueue 20 = .ok (.ifCond .eq 21, 3) := by decide +kernel
theorem dX8_placeInQueue_23 : decode cX8_placeInQueue 23 = .ok (.aload_n 0, 1) := by decide +kernel
theorem dX8_placeInQueue_24 : decode cX8_placeInQueue 24 = .ok (.getfield 95, 3) := by decide +kernel
theorem dX8_placeInQueue_27 : decode cX8_placeInQueue 27 = .ok (.iload_n 3, 1) := by decide +kernel
theorem dX8_placeInQueue_28 : decode cX8_placeInQueue 28 = .ok (.iaload, 1) := by decide +kernel
theorem dX8_placeInQueue_29 : decode cX8_placeInQueue 29 = .ok (.aload_n 0, 1) := by decide +kernel
theorem dX8_placeInQueue_30 : decode cX8_placeInQueue 30 = .ok (.getfield 95, 3) := by decide +kernel
theorem dX8_placeInQueue_33 : decode cX8_placeInQueue 33 = .ok (.iload_n 1, 1) := by decide +kernel
theorem dX8_placeInQueue_34 : decode cX8_placeInQueue 34 = .ok (.iaload, 1) := by decide +kernel
theorem dX8_placeInQueue_35 : decode cX8_placeInQueue 35 = .ok (.if_icmp .ge 6, 3) := by decide +kernel
theorem dX8_placeInQueue_38 : decode cX8_placeInQueue 38 = .ok (.iinc 2 1, 3) := by decide +kernel
theorem dX8_placeInQueue_41 : decode cX8_placeInQueue 41 = .ok (.iinc 3 1, 3) := by decide +kernel
theorem dX8_placeInQueue_44 : decode cX8_placeInQueue 44 = .ok (.goto (-40), 3) := by decide +kernel
theorem dX8_placeInQueue_47 : decode cX8_placeInQueue 47 = .ok (.iload_n 2, 1) := by decide +kernel
theorem dX8_placeInQueue_48 : decode cX8_placeInQueue 48 = .ok (.ireturn, 1) := by decide +kernel
abbrev mX8_placeInQueue : MI := (yX8_placeInQueue, cX8_placeInQueue, 4, (some .int), noE)
theorem okX8_placeInQueue : cok mX8_placeInQueue 2 := ⟨tw817, tw18, by decide, by decide, by decide, by decide +kernel⟩
def fX8_placeInQueue (M : Mem) (a0 a1 : Int) : Option Int :=
  iterC (fun (rec1 : (Int × Int) → Option Int) (s2 : Int × Int) => if M.2.1 a0 = 8 then if M.2.1 (M.1 a0 0) = 7 then if s2.2 < M.1 (M.1 a0 0) 1 then ((fX8_isOdd M a0 s2.2).bind fun r6 => if r6 = 0 then (rec1 (s2.1, w32 (s2.2 + 1))) else (if M.2.1 (M.1 a0 11) = 12 ∧ (0 : Int) ≤ s2.2 ∧ s2.2 < M.2.2.1 (M.1 a0 11) then if M.2.1 (M.1 a0 11) = 12 ∧ (0 : Int) ≤ a1 ∧ a1 < M.2.2.1 (M.1 a0 11) then if M.1 (M.1 a0 11) s2.2 < M.1 (M.1 a0 11) a1 then (rec1 (w32 (s2.1 + 1), w32 (s2.2 + 1))) else (rec1 (s2.1, w32 (s2.2 + 1))) else none else none)) else (some s2.1) else none else none) BIG (0, 0)
set_option maxRecDepth 100000 in
set_option maxHeartbeats 4000000 in
theorem kX8_placeInQueue (d : Nat) (hd : 2 ≤ d) (M : Mem) (a0 a1 : Int) : Ct mX8_placeInQueue d 0 0 [pA a0, pI a1] M (dI M) (fX8_placeInQueue M a0 a1) := by
  obtain ⟨d, rfl⟩ : ∃ k, d = k + 1 := ⟨d - 1, by omega⟩
  refine Ct.of 2 (fun _ _ _ => trivial) (by decide +kernel) rfl ?_
  unfold fX8_placeInQueue
  refine v_iconst dX8_placeInQueue_0 (by decide) ?_
  refine v_istore_n (ls' := [some (pA a0), some (pI a1), some (pI 0), none]) dX8_placeInQueue_1 (by decide) rfl ?_
  refine v_iconst dX8_placeInQueue_2 (by decide) ?_
  refine v_istore_n (ls' := [some (pA a0), some (pI a1), some (pI 0), some (pI 0)]) dX8_placeInQueue_3 (by decide) rfl ?_
  refine v_loop (fun (s2 : Int × Int) => [some (pA a0), some (pI a1), some (pI s2.1), some (pI s2.2)]) (fun (s2 : Int × Int) => M) (s0 := (0, 0)) ?_
  intro rec1 hrec1 s2
  refine v_iload_n dX8_placeInQueue_4 rfl ?_
  refine v_aload_n dX8_placeInQueue_5 rfl ?_
  refine v_if (fun h3 => ?_)
  refine v_get (v := pA (M.1 a0 0)) 8 0 rfl inX9 (by decide) tw316 dX8_placeInQueue_6 h3 rfl ?_
  refine v_if (fun h4 => ?_)
  refine v_get (v := pI (M.1 (M.1 a0 0) 1)) 7 1 rfl inX7 (by decide) tw63 dX8_placeInQueue_9 h4 rfl ?_
  refine v_icmp_ge (tgt := 47) dX8_placeInQueue_12 (by decide) (fun c5 => ?_) (fun c5 => ?_)
  · refine v_aload_n dX8_placeInQueue_15 rfl ?_
    refine v_iload_n dX8_placeInQueue_16 rfl ?_
    refine v_cS (mi := mX8_placeInQueue) (c0 := 0) (c1 := 0) (As := [pA a0, pI s2.2]) (st := []) (kX8_isOdd d (by omega) _ _ _) okX8_isOdd (Or.inl tw808) tw809 rfl (Nat.le_of_ble_eq_true rfl) dX8_placeInQueue_17 (fun r6 => [pI r6]) (fun r6 => M) (fun _ => rfl) (fun _ => rfl) (fun r6 h7 => ?_) rfl
    refine v_if_eq (tgt := 41) dX8_placeInQueue_20 (by decide) (fun c8 => ?_) (fun c8 => ?_)
    · refine v_iinc (ls' := [some (pA a0), some (pI a1), some (pI s2.1), some (pI (w32 (s2.2 + 1)))]) dX8_placeInQueue_41 (by decide) rfl rfl ?_
      refine v_goto (tgt := 4) dX8_placeInQueue_44 (by decide) ?_
      exact hrec1 (s2.1, w32 (s2.2 + 1))
    · refine v_aload_n dX8_placeInQueue_23 rfl ?_
      refine v_get (v := pA (M.1 a0 11)) 8 11 rfl inX9 (by decide) tw340 dX8_placeInQueue_24 h3 rfl ?_
      refine v_iload_n dX8_placeInQueue_27 rfl ?_
      refine v_if (fun h9 => ?_)
      refine v_iaload h9 dX8_placeInQueue_28 ?_
      refine v_aload_n dX8_placeInQueue_29 rfl ?_
      refine v_get (v := pA (M.1 a0 11)) 8 11 rfl inX9 (by decide) tw340 dX8_placeInQueue_30 h3 rfl ?_
      refine v_iload_n dX8_placeInQueue_33 rfl ?_
      refine v_if (fun h10 => ?_)
      refine v_iaload h10 dX8_placeInQueue_34 ?_
      refine v_icmp_ge (tgt := 41) dX8_placeInQueue_35 (by decide) (fun c11 => ?_) (fun c11 => ?_)
      · refine v_iinc (ls' := [some (pA a0), some (pI a1), some (pI (w32 (s2.1 + 1))), some (pI s2.2)]) dX8_placeInQueue_38 (by decide) rfl rfl ?_
        refine v_iinc (ls' := [some (pA a0), some (pI a1), some (pI (w32 (s2.1 + 1))), some (pI (w32 (s2.2 + 1)))]) dX8_placeInQueue_41 (by decide) rfl rfl ?_
        refine v_goto (tgt := 4) dX8_placeInQueue_44 (by decide) ?_
        exact hrec1 (w32 (s2.1 + 1), w32 (s2.2 + 1))
      · refine v_iinc (ls' := [some (pA a0), some (pI a1), some (pI s2.1), some (pI (w32 (s2.2 + 1)))]) dX8_placeInQueue_41 (by decide) rfl rfl ?_
        refine v_goto (tgt := 4) dX8_placeInQueue_44 (by decide) ?_
        exact hrec1 (s2.1, w32 (s2.2 + 1))
  · refine v_iload_n dX8_placeInQueue_47 rfl ?_
    exact v_ireturn dX8_placeInQueue_48 rfl rfl
theorem dX8_queued_0 : decode cX8_queued 0 = .ok (.iconst 0, 1) := by decide +kernel
theorem dX8_queued_1 : decode cX8_queued 1 = .ok (.istore_n 2, 1) := by decide +kernel
theorem dX8_queued_2 : decode cX8_queued 2 = .ok (.iload_n 2, 1) := by decide +kernel
theorem dX8_queued_3 : decode cX8_queued 3 = .ok (.aload_n 0, 1) := by decide +kernel
theorem dX8_queued_4 : decode cX8_queued 4 = .ok (.getfield 28, 3) := by decide +kernel
theorem dX8_queued_7 : decode cX8_queued 7 = .ok (.getfield 66, 3) := by decide +kernel
theorem dX8_queued_10 : decode cX8_queued 10 = .ok (.if_icmp .ge 28, 3) := by decide +kernel
theorem dX8_queued_13 : decode cX8_queued 13 = .ok (.aload_n 0, 1) := by decide +kernel
theorem dX8_queued_14 : decode cX8_queued 14 = .ok (.iload_n 2, 1) := by decide +kernel
theorem dX8_queued_15 : decode cX8_queued 15 = .ok (.invokestatic 79, 3) := by decide +kernel
theorem dX8_queued_18 : decode cX8_queued 18 = .ok (.ifCond .eq 14, 3) := by decide +kernel
theorem dX8_queued_21 : decode cX8_queued 21 = .ok (.aload_n 0, 1) := by decide +kernel
theorem dX8_queued_22 : decode cX8_queued 22 = .ok (.iload_n 2, 1) := by decide +kernel
theorem dX8_queued_23 : decode cX8_queued 23 = .ok (.invokestatic 83, 3) := by decide +kernel
theorem dX8_queued_26 : decode cX8_queued 26 = .ok (.iload_n 1, 1) := by decide +kernel
theorem dX8_queued_27 : decode cX8_queued 27 = .ok (.if_icmp .ne 5, 3) := by decide +kernel
theorem dX8_queued_30 : decode cX8_queued 30 = .ok (.iload_n 2, 1) := by decide +kernel
theorem dX8_queued_31 : decode cX8_queued 31 = .ok (.ireturn, 1) := by decide +kernel
theorem dX8_queued_32 : decode cX8_queued 32 = .ok (.iinc 2 1, 3) := by decide +kernel
theorem dX8_queued_35 : decode cX8_queued 35 = .ok (.goto (-33), 3) := by decide +kernel
theorem dX8_queued_38 : decode cX8_queued 38 = .ok (.iconst (-1), 1) := by decide +kernel
theorem dX8_queued_39 : decode cX8_queued 39 = .ok (.ireturn, 1) := by decide +kernel
abbrev mX8_queued : MI := (yX8_queued, cX8_queued, 3, (some .int), noE)
theorem okX8_queued : cok mX8_queued 2 := ⟨tw807, tw18, by decide, by decide, by decide, by decide +kernel⟩
def fX8_queued (M : Mem) (a0 a1 : Int) : Option Int :=
  iterC (fun (rec1 : Int → Option Int) (s2 : Int) => if M.2.1 a0 = 8 then if M.2.1 (M.1 a0 0) = 7 then if s2 < M.1 (M.1 a0 0) 1 then ((fX8_isOdd M a0 s2).bind fun r6 => if r6 = 0 then (rec1 (w32 (s2 + 1))) else ((fX8_placeInQueue M a0 s2).bind fun r9 => if r9 = a1 then (some s2) else (rec1 (w32 (s2 + 1))))) else (some (-1)) else none else none) BIG 0
set_option maxRecDepth 100000 in
set_option maxHeartbeats 4000000 in
theorem kX8_queued (d : Nat) (hd : 3 ≤ d) (M : Mem) (a0 a1 : Int) : Ct mX8_queued d 0 0 [pA a0, pI a1] M (dI M) (fX8_queued M a0 a1) := by
  obtain ⟨d, rfl⟩ : ∃ k, d = k + 1 := ⟨d - 1, by omega⟩
  refine Ct.of 1 (fun _ _ _ => trivial) (by decide +kernel) rfl ?_
  unfold fX8_queued
  refine v_iconst dX8_queued_0 (by decide) ?_
  refine v_istore_n (ls' := [some (pA a0), some (pI a1), some (pI 0)]) dX8_queued_1 (by decide) rfl ?_
  refine v_loop (fun (s2 : Int) => [some (pA a0), some (pI a1), some (pI s2)]) (fun (s2 : Int) => M) (s0 := 0) ?_
  intro rec1 hrec1 s2
  refine v_iload_n dX8_queued_2 rfl ?_
  refine v_aload_n dX8_queued_3 rfl ?_
  refine v_if (fun h3 => ?_)
  refine v_get (v := pA (M.1 a0 0)) 8 0 rfl inX9 (by decide) tw316 dX8_queued_4 h3 rfl ?_
  refine v_if (fun h4 => ?_)
  refine v_get (v := pI (M.1 (M.1 a0 0) 1)) 7 1 rfl inX7 (by decide) tw63 dX8_queued_7 h4 rfl ?_
  refine v_icmp_ge (tgt := 38) dX8_queued_10 (by decide) (fun c5 => ?_) (fun c5 => ?_)
  · refine v_aload_n dX8_queued_13 rfl ?_
    refine v_iload_n dX8_queued_14 rfl ?_
    refine v_cS (mi := mX8_queued) (c0 := 0) (c1 := 0) (As := [pA a0, pI s2]) (st := []) (kX8_isOdd d (by omega) _ _ _) okX8_isOdd (Or.inl tw808) tw809 rfl (Nat.le_of_ble_eq_true rfl) dX8_queued_15 (fun r6 => [pI r6]) (fun r6 => M) (fun _ => rfl) (fun _ => rfl) (fun r6 h7 => ?_) rfl
    refine v_if_eq (tgt := 32) dX8_queued_18 (by decide) (fun c8 => ?_) (fun c8 => ?_)
    · refine v_iinc (ls' := [some (pA a0), some (pI a1), some (pI (w32 (s2 + 1)))]) dX8_queued_32 (by decide) rfl rfl ?_
      refine v_goto (tgt := 2) dX8_queued_35 (by decide) ?_
      exact hrec1 (w32 (s2 + 1))
    · refine v_aload_n dX8_queued_21 rfl ?_
      refine v_iload_n dX8_queued_22 rfl ?_
      refine v_cS (mi := mX8_queued) (c0 := 0) (c1 := 0) (As := [pA a0, pI s2]) (st := []) (kX8_placeInQueue d (by omega) _ _ _) okX8_placeInQueue (Or.inl tw815) tw816 rfl (Nat.le_of_ble_eq_true rfl) dX8_queued_23 (fun r9 => [pI r9]) (fun r9 => M) (fun _ => rfl) (fun _ => rfl) (fun r9 h10 => ?_) rfl
      refine v_iload_n dX8_queued_26 rfl ?_
      refine v_icmp_ne (tgt := 32) dX8_queued_27 (by decide) (fun c11 => ?_) (fun c11 => ?_)
      · refine v_iload_n dX8_queued_30 rfl ?_
        exact v_ireturn dX8_queued_31 rfl rfl
      · refine v_iinc (ls' := [some (pA a0), some (pI a1), some (pI (w32 (s2 + 1)))]) dX8_queued_32 (by decide) rfl rfl ?_
        refine v_goto (tgt := 2) dX8_queued_35 (by decide) ?_
        exact hrec1 (w32 (s2 + 1))
  · refine v_iconst dX8_queued_38 (by decide) ?_
    exact v_ireturn dX8_queued_39 rfl rfl
theorem dX8_isReached_0 : decode cX8_isReached 0 = .ok (.iconst 0, 1) := by decide +kernel
theorem dX8_isReached_1 : decode cX8_isReached 1 = .ok (.istore_n 3, 1) := by decide +kernel
theorem dX8_isReached_2 : decode cX8_isReached 2 = .ok (.iload_n 3, 1) := by decide +kernel
theorem dX8_isReached_3 : decode cX8_isReached 3 = .ok (.aload_n 0, 1) := by decide +kernel
theorem dX8_isReached_4 : decode cX8_isReached 4 = .ok (.getfield 28, 3) := by decide +kernel
theorem dX8_isReached_7 : decode cX8_isReached 7 = .ok (.getfield 66, 3) := by decide +kernel
theorem dX8_isReached_10 : decode cX8_isReached 10 = .ok (.if_icmp .ge 60, 3) := by decide +kernel
theorem dX8_isReached_13 : decode cX8_isReached 13 = .ok (.iload_n 1, 1) := by decide +kernel
theorem dX8_isReached_14 : decode cX8_isReached 14 = .ok (.iload_n 3, 1) := by decide +kernel
theorem dX8_isReached_15 : decode cX8_isReached 15 = .ok (.ishr, 1) := by decide +kernel
theorem dX8_isReached_16 : decode cX8_isReached 16 = .ok (.iconst 1, 1) := by decide +kernel
theorem dX8_isReached_17 : decode cX8_isReached 17 = .ok (.iand, 1) := by decide +kernel
theorem dX8_isReached_18 : decode cX8_isReached 18 = .ok (.iconst 1, 1) := by decide +kernel
theorem dX8_isReached_19 : decode cX8_isReached 19 = .ok (.if_icmp .ne 23, 3) := by decide +kernel
theorem dX8_isReached_22 : decode cX8_isReached 22 = .ok (.aload_n 0, 1) := by decide +kernel
theorem dX8_isReached_23 : decode cX8_isReached 23 = .ok (.iload_n 3, 1) := by decide +kernel
theorem dX8_isReached_24 : decode cX8_isReached 24 = .ok (.invokevirtual 131, 3) := by decide +kernel
theorem dX8_isReached_27 : decode cX8_isReached 27 = .ok (.ifCond .eq 15, 3) := by decide +kernel
theorem dX8_isReached_30 : decode cX8_isReached 30 = .ok (.aload_n 0, 1) := by decide +kernel
theorem dX8_isReached_31 : decode cX8_isReached 31 = .ok (.iload_n 3, 1) := by decide +kernel
theorem dX8_isReached_32 : decode cX8_isReached 32 = .ok (.invokevirtual 52, 3) := by decide +kernel
theorem dX8_isReached_35 : decode cX8_isReached 35 = .ok (.ifCond .le 7, 3) := by decide +kernel
theorem dX8_isReached_38 : decode cX8_isReached 38 = .ok (.iconst 1, 1) := by decide +kernel
theorem dX8_isReached_39 : decode cX8_isReached 39 = .ok (.goto 4, 3) := by decide +kernel
theorem dX8_isReached_42 : decode cX8_isReached 42 = .ok (.iconst 0, 1) := by decide +kernel
theorem dX8_isReached_43 : decode cX8_isReached 43 = .ok (.istore 4, 2) := by decide +kernel
theorem dX8_isReached_45 : decode cX8_isReached 45 = .ok (.iload 4, 2) := by decide +kernel
theorem dX8_isReached_47 : decode cX8_isReached 47 = .ok (.ifCond .eq 17, 3) := by decide +kernel
theorem dX8_isReached_50 : decode cX8_isReached 50 = .ok (.aload_n 0, 1) := by decide +kernel
theorem dX8_isReached_51 : decode cX8_isReached 51 = .ok (.getfield 28, 3) := by decide +kernel
theorem dX8_isReached_54 : decode cX8_isReached 54 = .ok (.iload_n 3, 1) := by decide +kernel
theorem dX8_isReached_55 : decode cX8_isReached 55 = .ok (.iload_n 2, 1) := by decide +kernel
theorem dX8_isReached_56 : decode cX8_isReached 56 = .ok (.invokevirtual 138, 3) := by decide +kernel
theorem dX8_isReached_59 : decode cX8_isReached 59 = .ok (.ifCond .ne 5, 3) := by decide +kernel
theorem dX8_isReached_62 : decode cX8_isReached 62 = .ok (.iconst 1, 1) := by decide +kernel
theorem dX8_isReached_63 : decode cX8_isReached 63 = .ok (.ireturn, 1) := by decide +kernel
theorem dX8_isReached_64 : decode cX8_isReached 64 = .ok (.iinc 3 1, 3) := by decide +kernel
theorem dX8_isReached_67 : decode cX8_isReached 67 = .ok (.goto (-65), 3) := by decide +kernel
theorem dX8_isReached_70 : decode cX8_isReached 70 = .ok (.iconst 0, 1) := by decide +kernel
theorem dX8_isReached_71 : decode cX8_isReached 71 = .ok (.ireturn, 1) := by decide +kernel
abbrev mX8_isReached : MI := (yX8_isReached, cX8_isReached, 5, (some .boolean), noE)
theorem okX8_isReached : cok mX8_isReached 3 := ⟨tw1087, tw18, by decide, by decide, by decide, by decide +kernel⟩
def fX8_isReached (M : Mem) (a0 a1 a2 : Int) : Option Int :=
  iterC (fun (rec1 : Int → Option Int) (s2 : Int) => if M.2.1 a0 = 8 then if M.2.1 (M.1 a0 0) = 7 then if s2 < M.1 (M.1 a0 0) 1 then (jn (fun (t7 : Int) => if t7 = 0 then (rec1 (w32 (s2 + 1))) else ((fX7_areKin M (M.1 a0 0) s2 a2).bind fun r9 => if r9 = 0 then (some 1) else (rec1 (w32 (s2 + 1))))) (fun (j6 : Int → Option Int) => jn (fun (t13 : Unit) => j6 0) (fun (j12 : Unit → Option Int) => if bAnd (bShr a1 s2) 1 = 1 then ((fX9_isFree M a0 s2).bind fun r15 => if r15 = 0 then (j12 ()) else ((fX9_owesOf M a0 s2).bind fun r18 => if 0 < r18 then (j6 1) else (j12 ()))) else (j12 ())))) else (some 0) else none else none) BIG 0
set_option maxRecDepth 100000 in
set_option maxHeartbeats 4000000 in
theorem kX8_isReached (d : Nat) (hd : 2 ≤ d) (M : Mem) (a0 a1 a2 : Int) : Ct mX8_isReached d 0 0 [pA a0, pI a1, pI a2] M (dI M) (fX8_isReached M a0 a1 a2) := by
  obtain ⟨d, rfl⟩ : ∃ k, d = k + 1 := ⟨d - 1, by omega⟩
  refine Ct.of 2 (fun _ _ _ => trivial) (by decide +kernel) rfl ?_
  unfold fX8_isReached
  refine v_iconst dX8_isReached_0 (by decide) ?_
  refine v_istore_n (ls' := [some (pA a0), some (pI a1), some (pI a2), some (pI 0), none]) dX8_isReached_1 (by decide) rfl ?_
  refine v_loop (fun (s2 : Int) => [some (pA a0), some (pI a1), some (pI a2), some (pI s2), none]) (fun (s2 : Int) => M) (s0 := 0) ?_
  intro rec1 hrec1 s2
  refine v_iload_n dX8_isReached_2 rfl ?_
  refine v_aload_n dX8_isReached_3 rfl ?_
  refine v_if (fun h3 => ?_)
  refine v_get (v := pA (M.1 a0 0)) 8 0 rfl inX9 (by decide) tw316 dX8_isReached_4 h3 rfl ?_
  refine v_if (fun h4 => ?_)
  refine v_get (v := pI (M.1 (M.1 a0 0) 1)) 7 1 rfl inX7 (by decide) tw63 dX8_isReached_7 h4 rfl ?_
  refine v_icmp_ge (tgt := 70) dX8_isReached_10 (by decide) (fun c5 => ?_) (fun c5 => ?_)
  · refine v_iload_n dX8_isReached_13 rfl ?_
    refine v_iload_n dX8_isReached_14 rfl ?_
    refine v_ishr dX8_isReached_15 ?_
    refine v_iconst dX8_isReached_16 (by decide) ?_
    refine v_iand dX8_isReached_17 ?_
    refine v_iconst dX8_isReached_18 (by decide) ?_
    refine v_join (fun (t7 : Int) => [some (pA a0), some (pI a1), some (pI a2), some (pI s2), none]) (fun (t7 : Int) => [pI t7]) (fun (t7 : Int) => M) 43 (fun t7 => ?_) (fun j6 hj6 => ?_)
    · refine v_istore (ls' := [some (pA a0), some (pI a1), some (pI a2), some (pI s2), some (pI t7)]) dX8_isReached_43 (by decide) rfl ?_
      refine v_iload dX8_isReached_45 rfl ?_
      refine v_if_eq (tgt := 64) dX8_isReached_47 (by decide) (fun c8 => ?_) (fun c8 => ?_)
      · refine v_iinc (ls' := [some (pA a0), some (pI a1), some (pI a2), some (pI (w32 (s2 + 1))), some (pI t7)]) dX8_isReached_64 (by decide) rfl rfl ?_
        refine v_goto (tgt := 2) dX8_isReached_67 (by decide) ?_
        exact v_drop [some (pA a0), some (pI a1), some (pI a2), some (pI (w32 (s2 + 1))), none] (ls_s (ls_s (ls_s (ls_s (ls_n ls_e))))) (hrec1 (w32 (s2 + 1)))
      · refine v_aload_n dX8_isReached_50 rfl ?_
        refine v_get (v := pA (M.1 a0 0)) 8 0 rfl inX9 (by decide) tw316 dX8_isReached_51 h3 rfl ?_
        refine v_iload_n dX8_isReached_54 rfl ?_
        refine v_iload_n dX8_isReached_55 rfl ?_
        refine v_cV (mi := mX8_isReached) (c0 := 0) (c1 := 0) (As := [pI s2, pI a2]) (st := []) (kX7_areKin d (by omega) _ _ _ _) rfl h4 rfl okX7_areKin (Or.inl tw1088) tw782 tw783 rfl (Nat.le_of_ble_eq_true rfl) dX8_isReached_56 (fun r9 => [pI r9]) (fun r9 => M) (fun _ => rfl) (fun _ => rfl) (fun r9 h10 => ?_) rfl
        refine v_if_ne (tgt := 64) dX8_isReached_59 (by decide) (fun c11 => ?_) (fun c11 => ?_)
        · refine v_iconst dX8_isReached_62 (by decide) ?_
          exact v_breturn dX8_isReached_63 rfl (by decide) rfl
        · refine v_iinc (ls' := [some (pA a0), some (pI a1), some (pI a2), some (pI (w32 (s2 + 1))), some (pI t7)]) dX8_isReached_64 (by decide) rfl rfl ?_
          refine v_goto (tgt := 2) dX8_isReached_67 (by decide) ?_
          exact v_drop [some (pA a0), some (pI a1), some (pI a2), some (pI (w32 (s2 + 1))), none] (ls_s (ls_s (ls_s (ls_s (ls_n ls_e))))) (hrec1 (w32 (s2 + 1)))
    · refine v_join (fun (t13 : Unit) => [some (pA a0), some (pI a1), some (pI a2), some (pI s2), none]) (fun (t13 : Unit) => []) (fun (t13 : Unit) => M) 42 (fun t13 => ?_) (fun j12 hj12 => ?_)
      · refine v_iconst dX8_isReached_42 (by decide) ?_
        exact hj6 0
      · refine v_icmp_ne (tgt := 42) dX8_isReached_19 (by decide) (fun c14 => ?_) (fun c14 => ?_)
        · refine v_aload_n dX8_isReached_22 rfl ?_
          refine v_iload_n dX8_isReached_23 rfl ?_
          refine v_cV (mi := mX8_isReached) (c0 := 0) (c1 := 0) (As := [pI s2]) (st := []) (kX9_isFree d (by omega) _ _ _) rfl h3 rfl okX9_isFree (Or.inl tw1084) tw758 tw759 rfl (Nat.le_of_ble_eq_true rfl) dX8_isReached_24 (fun r15 => [pI r15]) (fun r15 => M) (fun _ => rfl) (fun _ => rfl) (fun r15 h16 => ?_) rfl
          refine v_if_eq (tgt := 42) dX8_isReached_27 (by decide) (fun c17 => ?_) (fun c17 => ?_)
          · exact hj12 ()
          · refine v_aload_n dX8_isReached_30 rfl ?_
            refine v_iload_n dX8_isReached_31 rfl ?_
            refine v_cV (mi := mX8_isReached) (c0 := 0) (c1 := 0) (As := [pI s2]) (st := []) (kX9_owesOf d (by omega) _ _ _) rfl h3 rfl okX9_owesOf (Or.inl tw832) tw786 tw787 rfl (Nat.le_of_ble_eq_true rfl) dX8_isReached_32 (fun r18 => [pI r18]) (fun r18 => M) (fun _ => rfl) (fun _ => rfl) (fun r18 h19 => ?_) rfl
            refine v_if_le (tgt := 42) dX8_isReached_35 (by decide) (fun c20 => ?_) (fun c20 => ?_)
            · refine v_iconst dX8_isReached_38 (by decide) ?_
              refine v_goto (tgt := 43) dX8_isReached_39 (by decide) ?_
              exact hj6 1
            · exact hj12 ()
        · exact hj12 ()
  · refine v_iconst dX8_isReached_70 (by decide) ?_
    exact v_breturn dX8_isReached_71 rfl (by decide) rfl
theorem dX8_cut_0 : decode cX8_cut 0 = .ok (.iconst 0, 1) := by decide +kernel
theorem dX8_cut_1 : decode cX8_cut 1 = .ok (.istore_n 2, 1) := by decide +kernel
theorem dX8_cut_2 : decode cX8_cut 2 = .ok (.iconst 0, 1) := by decide +kernel
theorem dX8_cut_3 : decode cX8_cut 3 = .ok (.istore_n 3, 1) := by decide +kernel
theorem dX8_cut_4 : decode cX8_cut 4 = .ok (.iload_n 3, 1) := by decide +kernel
theorem dX8_cut_5 : decode cX8_cut 5 = .ok (.aload_n 0, 1) := by decide +kernel
theorem dX8_cut_6 : decode cX8_cut 6 = .ok (.getfield 28, 3) := by decide +kernel
theorem dX8_cut_9 : decode cX8_cut 9 = .ok (.getfield 66, 3) := by decide +kernel
theorem dX8_cut_12 : decode cX8_cut 12 = .ok (.if_icmp .ge 67, 3) := by decide +kernel
theorem dX8_cut_15 : decode cX8_cut 15 = .ok (.aload_n 0, 1) := by decide +kernel
theorem dX8_cut_16 : decode cX8_cut 16 = .ok (.iload_n 3, 1) := by decide +kernel
theorem dX8_cut_17 : decode cX8_cut 17 = .ok (.invokevirtual 52, 3) := by decide +kernel
theorem dX8_cut_20 : decode cX8_cut 20 = .ok (.istore 4, 2) := by decide +kernel
theorem dX8_cut_22 : decode cX8_cut 22 = .ok (.aload_n 0, 1) := by decide +kernel
theorem dX8_cut_23 : decode cX8_cut 23 = .ok (.iload_n 3, 1) := by decide +kernel
theorem dX8_cut_24 : decode cX8_cut 24 = .ok (.invokevirtual 131, 3) := by decide +kernel
theorem dX8_cut_27 : decode cX8_cut 27 = .ok (.ifCond .ne 6, 3) := by decide +kernel
theorem dX8_cut_30 : decode cX8_cut 30 = .ok (.goto 43, 3) := by decide +kernel
theorem dX8_cut_33 : decode cX8_cut 33 = .ok (.iload 4, 2) := by decide +kernel
theorem dX8_cut_35 : decode cX8_cut 35 = .ok (.ifCond .le 19, 3) := by decide +kernel
theorem dX8_cut_38 : decode cX8_cut 38 = .ok (.iload_n 1, 1) := by decide +kernel
theorem dX8_cut_39 : decode cX8_cut 39 = .ok (.iload_n 3, 1) := by decide +kernel
theorem dX8_cut_40 : decode cX8_cut 40 = .ok (.ishr, 1) := by decide +kernel
theorem dX8_cut_41 : decode cX8_cut 41 = .ok (.iconst 1, 1) := by decide +kernel
theorem dX8_cut_42 : decode cX8_cut 42 = .ok (.iand, 1) := by decide +kernel
theorem dX8_cut_43 : decode cX8_cut 43 = .ok (.ifCond .ne 11, 3) := by decide +kernel
theorem dX8_cut_46 : decode cX8_cut 46 = .ok (.iload_n 2, 1) := by decide +kernel
theorem dX8_cut_47 : decode cX8_cut 47 = .ok (.iload 4, 2) := by decide +kernel
theorem dX8_cut_49 : decode cX8_cut 49 = .ok (.iadd, 1) := by decide +kernel
theorem dX8_cut_50 : decode cX8_cut 50 = .ok (.istore_n 2, 1) := by decide +kernel
theorem dX8_cut_51 : decode cX8_cut 51 = .ok (.goto 22, 3) := by decide +kernel
theorem dX8_cut_54 : decode cX8_cut 54 = .ok (.iload 4, 2) := by decide +kernel
theorem dX8_cut_56 : decode cX8_cut 56 = .ok (.ifCond .ge 17, 3) := by decide +kernel
theorem dX8_cut_59 : decode cX8_cut 59 = .ok (.aload_n 0, 1) := by decide +kernel
theorem dX8_cut_60 : decode cX8_cut 60 = .ok (.iload_n 1, 1) := by decide +kernel
theorem dX8_cut_61 : decode cX8_cut 61 = .ok (.iload_n 3, 1) := by decide +kernel
theorem dX8_cut_62 : decode cX8_cut 62 = .ok (.invokestatic 134, 3) := by decide +kernel
theorem dX8_cut_65 : decode cX8_cut 65 = .ok (.ifCond .eq 8, 3) := by decide +kernel
theorem dX8_cut_68 : decode cX8_cut 68 = .ok (.iload_n 2, 1) := by decide +kernel
theorem dX8_cut_69 : decode cX8_cut 69 = .ok (.iload 4, 2) := by decide +kernel
theorem dX8_cut_71 : decode cX8_cut 71 = .ok (.isub, 1) := by decide +kernel
theorem dX8_cut_72 : decode cX8_cut 72 = .ok (.istore_n 2, 1) := by decide +kernel
theorem dX8_cut_73 : decode cX8_cut 73 = .ok (.iinc 3 1, 3) := by decide +kernel
theorem dX8_cut_76 : decode cX8_cut 76 = .ok (.goto (-72), 3) := by decide +kernel
theorem dX8_cut_79 : decode cX8_cut 79 = .ok (.iload_n 2, 1) := by decide +kernel
theorem dX8_cut_80 : decode cX8_cut 80 = .ok (.ireturn, 1) := by decide +kernel
abbrev mX8_cut : MI := (yX8_cut, cX8_cut, 5, (some .int), noE)
theorem okX8_cut : cok mX8_cut 2 := ⟨tw1083, tw18, by decide, by decide, by decide, by decide +kernel⟩
def fX8_cut (M : Mem) (a0 a1 : Int) : Option Int :=
  iterC (fun (rec1 : (Int × Int) → Option Int) (s2 : Int × Int) => if M.2.1 a0 = 8 then if M.2.1 (M.1 a0 0) = 7 then if s2.2 < M.1 (M.1 a0 0) 1 then ((fX9_owesOf M a0 s2.2).bind fun r6 => (fX9_isFree M a0 s2.2).bind fun r8 => if r8 = 0 then (rec1 (s2.1, w32 (s2.2 + 1))) else (jn (fun (t12 : Unit) => if r6 < 0 then ((fX8_isReached M a0 a1 s2.2).bind fun r14 => if r14 = 0 then (rec1 (s2.1, w32 (s2.2 + 1))) else (rec1 (w32 (s2.1 - r6), w32 (s2.2 + 1)))) else (rec1 (s2.1, w32 (s2.2 + 1)))) (fun (j11 : Unit → Option Int) => if 0 < r6 then (if bAnd (bShr a1 s2.2) 1 = 0 then (rec1 (w32 (s2.1 + r6), w32 (s2.2 + 1))) else (j11 ())) else (j11 ())))) else (some s2.1) else none else none) BIG (0, 0)
set_option maxRecDepth 100000 in
set_option maxHeartbeats 4000000 in
theorem kX8_cut (d : Nat) (hd : 3 ≤ d) (M : Mem) (a0 a1 : Int) : Ct mX8_cut d 0 0 [pA a0, pI a1] M (dI M) (fX8_cut M a0 a1) := by
  obtain ⟨d, rfl⟩ : ∃ k, d = k + 1 := ⟨d - 1, by omega⟩
  refine Ct.of 3 (fun _ _ _ => trivial) (by decide +kernel) rfl ?_
  unfold fX8_cut
  refine v_iconst dX8_cut_0 (by decide) ?_
  refine v_istore_n (ls' := [some (pA a0), some (pI a1), some (pI 0), none, none]) dX8_cut_1 (by decide) rfl ?_
  refine v_iconst dX8_cut_2 (by decide) ?_
  refine v_istore_n (ls' := [some (pA a0), some (pI a1), some (pI 0), some (pI 0), none]) dX8_cut_3 (by decide) rfl ?_
  refine v_loop (fun (s2 : Int × Int) => [some (pA a0), some (pI a1), some (pI s2.1), some (pI s2.2), none]) (fun (s2 : Int × Int) => M) (s0 := (0, 0)) ?_
  intro rec1 hrec1 s2
  refine v_iload_n dX8_cut_4 rfl ?_
  refine v_aload_n dX8_cut_5 rfl ?_
  refine v_if (fun h3 => ?_)
  refine v_get (v := pA (M.1 a0 0)) 8 0 rfl inX9 (by decide) tw316 dX8_cut_6 h3 rfl ?_
  refine v_if (fun h4 => ?_)
  refine v_get (v := pI (M.1 (M.1 a0 0) 1)) 7 1 rfl inX7 (by decide) tw63 dX8_cut_9 h4 rfl ?_
  refine v_icmp_ge (tgt := 79) dX8_cut_12 (by decide) (fun c5 => ?_) (fun c5 => ?_)
  · refine v_aload_n dX8_cut_15 rfl ?_
    refine v_iload_n dX8_cut_16 rfl ?_
    refine v_cV (mi := mX8_cut) (c0 := 0) (c1 := 0) (As := [pI s2.2]) (st := []) (kX9_owesOf d (by omega) _ _ _) rfl h3 rfl okX9_owesOf (Or.inl tw832) tw786 tw787 rfl (Nat.le_of_ble_eq_true rfl) dX8_cut_17 (fun r6 => [pI r6]) (fun r6 => M) (fun _ => rfl) (fun _ => rfl) (fun r6 h7 => ?_) rfl
    refine v_istore (ls' := [some (pA a0), some (pI a1), some (pI s2.1), some (pI s2.2), some (pI r6)]) dX8_cut_20 (by decide) rfl ?_
    refine v_aload_n dX8_cut_22 rfl ?_
    refine v_iload_n dX8_cut_23 rfl ?_
    refine v_cV (mi := mX8_cut) (c0 := 0) (c1 := 0) (As := [pI s2.2]) (st := []) (kX9_isFree d (by omega) _ _ _) rfl h3 rfl okX9_isFree (Or.inl tw1084) tw758 tw759 rfl (Nat.le_of_ble_eq_true rfl) dX8_cut_24 (fun r8 => [pI r8]) (fun r8 => M) (fun _ => rfl) (fun _ => rfl) (fun r8 h9 => ?_) rfl
    refine v_if_ne (tgt := 33) dX8_cut_27 (by decide) (fun c10 => ?_) (fun c10 => ?_)
    · refine v_goto (tgt := 73) dX8_cut_30 (by decide) ?_
      refine v_iinc (ls' := [some (pA a0), some (pI a1), some (pI s2.1), some (pI (w32 (s2.2 + 1))), some (pI r6)]) dX8_cut_73 (by decide) rfl rfl ?_
      refine v_goto (tgt := 4) dX8_cut_76 (by decide) ?_
      exact v_drop [some (pA a0), some (pI a1), some (pI s2.1), some (pI (w32 (s2.2 + 1))), none] (ls_s (ls_s (ls_s (ls_s (ls_n ls_e))))) (hrec1 (s2.1, w32 (s2.2 + 1)))
    · refine v_iload dX8_cut_33 rfl ?_
      refine v_join (fun (t12 : Unit) => [some (pA a0), some (pI a1), some (pI s2.1), some (pI s2.2), some (pI r6)]) (fun (t12 : Unit) => []) (fun (t12 : Unit) => M) 54 (fun t12 => ?_) (fun j11 hj11 => ?_)
      · refine v_iload dX8_cut_54 rfl ?_
        refine v_if_ge (tgt := 73) dX8_cut_56 (by decide) (fun c13 => ?_) (fun c13 => ?_)
        · refine v_aload_n dX8_cut_59 rfl ?_
          refine v_iload_n dX8_cut_60 rfl ?_
          refine v_iload_n dX8_cut_61 rfl ?_
          refine v_cS (mi := mX8_cut) (c0 := 0) (c1 := 0) (As := [pA a0, pI a1, pI s2.2]) (st := []) (kX8_isReached d (by omega) _ _ _ _) okX8_isReached (Or.inl tw1085) tw1086 rfl (Nat.le_of_ble_eq_true rfl) dX8_cut_62 (fun r14 => [pI r14]) (fun r14 => M) (fun _ => rfl) (fun _ => rfl) (fun r14 h15 => ?_) rfl
          refine v_if_eq (tgt := 73) dX8_cut_65 (by decide) (fun c16 => ?_) (fun c16 => ?_)
          · refine v_iinc (ls' := [some (pA a0), some (pI a1), some (pI s2.1), some (pI (w32 (s2.2 + 1))), some (pI r6)]) dX8_cut_73 (by decide) rfl rfl ?_
            refine v_goto (tgt := 4) dX8_cut_76 (by decide) ?_
            exact v_drop [some (pA a0), some (pI a1), some (pI s2.1), some (pI (w32 (s2.2 + 1))), none] (ls_s (ls_s (ls_s (ls_s (ls_n ls_e))))) (hrec1 (s2.1, w32 (s2.2 + 1)))
          · refine v_iload_n dX8_cut_68 rfl ?_
            refine v_iload dX8_cut_69 rfl ?_
            refine v_isub dX8_cut_71 ?_
            refine v_istore_n (ls' := [some (pA a0), some (pI a1), some (pI (w32 (s2.1 - r6))), some (pI s2.2), some (pI r6)]) dX8_cut_72 (by decide) rfl ?_
            refine v_iinc (ls' := [some (pA a0), some (pI a1), some (pI (w32 (s2.1 - r6))), some (pI (w32 (s2.2 + 1))), some (pI r6)]) dX8_cut_73 (by decide) rfl rfl ?_
            refine v_goto (tgt := 4) dX8_cut_76 (by decide) ?_
            exact v_drop [some (pA a0), some (pI a1), some (pI (w32 (s2.1 - r6))), some (pI (w32 (s2.2 + 1))), none] (ls_s (ls_s (ls_s (ls_s (ls_n ls_e))))) (hrec1 (w32 (s2.1 - r6), w32 (s2.2 + 1)))
        · refine v_iinc (ls' := [some (pA a0), some (pI a1), some (pI s2.1), some (pI (w32 (s2.2 + 1))), some (pI r6)]) dX8_cut_73 (by decide) rfl rfl ?_
          refine v_goto (tgt := 4) dX8_cut_76 (by decide) ?_
          exact v_drop [some (pA a0), some (pI a1), some (pI s2.1), some (pI (w32 (s2.2 + 1))), none] (ls_s (ls_s (ls_s (ls_s (ls_n ls_e))))) (hrec1 (s2.1, w32 (s2.2 + 1)))
      · refine v_if_le (tgt := 54) dX8_cut_35 (by decide) (fun c17 => ?_) (fun c17 => ?_)
        · refine v_iload_n dX8_cut_38 rfl ?_
          refine v_iload_n dX8_cut_39 rfl ?_
          refine v_ishr dX8_cut_40 ?_
          refine v_iconst dX8_cut_41 (by decide) ?_
          refine v_iand dX8_cut_42 ?_
          refine v_if_ne (tgt := 54) dX8_cut_43 (by decide) (fun c18 => ?_) (fun c18 => ?_)
          · refine v_iload_n dX8_cut_46 rfl ?_
            refine v_iload dX8_cut_47 rfl ?_
            refine v_iadd dX8_cut_49 ?_
            refine v_istore_n (ls' := [some (pA a0), some (pI a1), some (pI (w32 (s2.1 + r6))), some (pI s2.2), some (pI r6)]) dX8_cut_50 (by decide) rfl ?_
            refine v_goto (tgt := 73) dX8_cut_51 (by decide) ?_
            refine v_iinc (ls' := [some (pA a0), some (pI a1), some (pI (w32 (s2.1 + r6))), some (pI (w32 (s2.2 + 1))), some (pI r6)]) dX8_cut_73 (by decide) rfl rfl ?_
            refine v_goto (tgt := 4) dX8_cut_76 (by decide) ?_
            exact v_drop [some (pA a0), some (pI a1), some (pI (w32 (s2.1 + r6))), some (pI (w32 (s2.2 + 1))), none] (ls_s (ls_s (ls_s (ls_s (ls_n ls_e))))) (hrec1 (w32 (s2.1 + r6), w32 (s2.2 + 1)))
          · exact hj11 ()
        · exact hj11 ()
  · refine v_iload_n dX8_cut_79 rfl ?_
    exact v_ireturn dX8_cut_80 rfl rfl
theorem dX8_settle_0 : decode cX8_settle 0 = .ok (.aload_n 0, 1) := by decide +kernel
theorem dX8_settle_1 : decode cX8_settle 1 = .ok (.iconst 0, 1) := by decide +kernel
theorem dX8_settle_2 : decode cX8_settle 2 = .ok (.invokestatic 123, 3) := by decide +kernel
theorem dX8_settle_5 : decode cX8_settle 5 = .ok (.istore_n 1, 1) := by decide +kernel
theorem dX8_settle_6 : decode cX8_settle 6 = .ok (.iconst 1, 1) := by decide +kernel
theorem dX8_settle_7 : decode cX8_settle 7 = .ok (.istore_n 2, 1) := by decide +kernel
theorem dX8_settle_8 : decode cX8_settle 8 = .ok (.iload_n 2, 1) := by decide +kernel
theorem dX8_settle_9 : decode cX8_settle 9 = .ok (.iconst 1, 1) := by decide +kernel
theorem dX8_settle_10 : decode cX8_settle 10 = .ok (.aload_n 0, 1) := by decide +kernel
theorem dX8_settle_11 : decode cX8_settle 11 = .ok (.getfield 28, 3) := by decide +kernel
theorem dX8_settle_14 : decode cX8_settle 14 = .ok (.getfield 66, 3) := by decide +kernel
theorem dX8_settle_17 : decode cX8_settle 17 = .ok (.ishl, 1) := by decide +kernel
theorem dX8_settle_18 : decode cX8_settle 18 = .ok (.if_icmp .ge 19, 3) := by decide +kernel
theorem dX8_settle_21 : decode cX8_settle 21 = .ok (.iload_n 1, 1) := by decide +kernel
theorem dX8_settle_22 : decode cX8_settle 22 = .ok (.aload_n 0, 1) := by decide +kernel
theorem dX8_settle_23 : decode cX8_settle 23 = .ok (.iload_n 2, 1) := by decide +kernel
theorem dX8_settle_24 : decode cX8_settle 24 = .ok (.invokestatic 123, 3) := by decide +kernel
theorem dX8_settle_27 : decode cX8_settle 27 = .ok (.invokestatic 126, 3) := by decide +kernel
theorem dX8_settle_30 : decode cX8_settle 30 = .ok (.istore_n 1, 1) := by decide +kernel
theorem dX8_settle_31 : decode cX8_settle 31 = .ok (.iinc 2 1, 3) := by decide +kernel
theorem dX8_settle_34 : decode cX8_settle 34 = .ok (.goto (-26), 3) := by decide +kernel
theorem dX8_settle_37 : decode cX8_settle 37 = .ok (.iload_n 1, 1) := by decide +kernel
theorem dX8_settle_38 : decode cX8_settle 38 = .ok (.ireturn, 1) := by decide +kernel
abbrev mX8_settle : MI := (yX8_settle, cX8_settle, 3, (some .int), noE)
theorem okX8_settle : cok mX8_settle 1 := ⟨tw1080, tw18, by decide, by decide, by decide, by decide +kernel⟩
def fX8_settle (M : Mem) (a0 : Int) : Option Int :=
  (fX8_cut M a0 0).bind fun r1 => iterC (fun (rec3 : (Int × Int) → Option Int) (s4 : Int × Int) => if M.2.1 a0 = 8 then if M.2.1 (M.1 a0 0) = 7 then if s4.2 < bShl 1 (M.1 (M.1 a0 0) 1) then ((fX8_cut M a0 s4.2).bind fun r8 => rec3 (imin s4.1 r8, w32 (s4.2 + 1))) else (some s4.1) else none else none) BIG (r1, 1)
set_option maxRecDepth 100000 in
set_option maxHeartbeats 4000000 in
theorem kX8_settle (d : Nat) (hd : 4 ≤ d) (M : Mem) (a0 : Int) : Ct mX8_settle d 0 0 [pA a0] M (dI M) (fX8_settle M a0) := by
  obtain ⟨d, rfl⟩ : ∃ k, d = k + 1 := ⟨d - 1, by omega⟩
  refine Ct.of 2 (fun _ _ _ => trivial) (by decide +kernel) rfl ?_
  unfold fX8_settle
  refine v_aload_n dX8_settle_0 rfl ?_
  refine v_iconst dX8_settle_1 (by decide) ?_
  refine v_cS (mi := mX8_settle) (c0 := 0) (c1 := 0) (As := [pA a0, pI 0]) (st := []) (kX8_cut d (by omega) _ _ _) okX8_cut (Or.inl tw1081) tw1082 rfl (Nat.le_of_ble_eq_true rfl) dX8_settle_2 (fun r1 => [pI r1]) (fun r1 => M) (fun _ => rfl) (fun _ => rfl) (fun r1 h2 => ?_) rfl
  refine v_istore_n (ls' := [some (pA a0), some (pI r1), none]) dX8_settle_5 (by decide) rfl ?_
  refine v_iconst dX8_settle_6 (by decide) ?_
  refine v_istore_n (ls' := [some (pA a0), some (pI r1), some (pI 1)]) dX8_settle_7 (by decide) rfl ?_
  refine v_loop (fun (s4 : Int × Int) => [some (pA a0), some (pI s4.1), some (pI s4.2)]) (fun (s4 : Int × Int) => M) (s0 := (r1, 1)) ?_
  intro rec3 hrec3 s4
  refine v_iload_n dX8_settle_8 rfl ?_
  refine v_iconst dX8_settle_9 (by decide) ?_
  refine v_aload_n dX8_settle_10 rfl ?_
  refine v_if (fun h5 => ?_)
  refine v_get (v := pA (M.1 a0 0)) 8 0 rfl inX9 (by decide) tw316 dX8_settle_11 h5 rfl ?_
  refine v_if (fun h6 => ?_)
  refine v_get (v := pI (M.1 (M.1 a0 0) 1)) 7 1 rfl inX7 (by decide) tw63 dX8_settle_14 h6 rfl ?_
  refine v_ishl dX8_settle_17 ?_
  refine v_icmp_ge (tgt := 37) dX8_settle_18 (by decide) (fun c7 => ?_) (fun c7 => ?_)
  · refine v_iload_n dX8_settle_21 rfl ?_
    refine v_aload_n dX8_settle_22 rfl ?_
    refine v_iload_n dX8_settle_23 rfl ?_
    refine v_cS (mi := mX8_settle) (c0 := 0) (c1 := 0) (As := [pA a0, pI s4.2]) (st := [pI s4.1]) (kX8_cut d (by omega) _ _ _) okX8_cut (Or.inl tw1081) tw1082 rfl (Nat.le_of_ble_eq_true rfl) dX8_settle_24 (fun r8 => [pI r8, pI s4.1]) (fun r8 => M) (fun _ => rfl) (fun _ => rfl) (fun r8 h9 => ?_) rfl
    refine v_mmin (mi := mX8_settle) tw1089 tw469 tw12 tw470 (Nat.le_of_ble_eq_true rfl) dX8_settle_27 ?_
    refine v_istore_n (ls' := [some (pA a0), some (pI (imin s4.1 r8)), some (pI s4.2)]) dX8_settle_30 (by decide) rfl ?_
    refine v_iinc (ls' := [some (pA a0), some (pI (imin s4.1 r8)), some (pI (w32 (s4.2 + 1)))]) dX8_settle_31 (by decide) rfl rfl ?_
    refine v_goto (tgt := 8) dX8_settle_34 (by decide) ?_
    exact hrec3 (imin s4.1 r8, w32 (s4.2 + 1))
  · refine v_iload_n dX8_settle_37 rfl ?_
    exact v_ireturn dX8_settle_38 rfl rfl
theorem dX8_wealthOf_0 : decode cX8_wealthOf 0 = .ok (.aload_n 0, 1) := by decide +kernel
theorem dX8_wealthOf_1 : decode cX8_wealthOf 1 = .ok (.getfield 28, 3) := by decide +kernel
theorem dX8_wealthOf_4 : decode cX8_wealthOf 4 = .ok (.iload_n 1, 1) := by decide +kernel
theorem dX8_wealthOf_5 : decode cX8_wealthOf 5 = .ok (.invokevirtual 32, 3) := by decide +kernel
theorem dX8_wealthOf_8 : decode cX8_wealthOf 8 = .ok (.ifCond .eq 18, 3) := by decide +kernel
theorem dX8_wealthOf_11 : decode cX8_wealthOf 11 = .ok (.aload_n 0, 1) := by decide +kernel
theorem dX8_wealthOf_12 : decode cX8_wealthOf 12 = .ok (.getfield 28, 3) := by decide +kernel
theorem dX8_wealthOf_15 : decode cX8_wealthOf 15 = .ok (.aload_n 0, 1) := by decide +kernel
theorem dX8_wealthOf_16 : decode cX8_wealthOf 16 = .ok (.getfield 149, 3) := by decide +kernel
theorem dX8_wealthOf_19 : decode cX8_wealthOf 19 = .ok (.iload_n 1, 1) := by decide +kernel
theorem dX8_wealthOf_20 : decode cX8_wealthOf 20 = .ok (.invokevirtual 152, 3) := by decide +kernel
theorem dX8_wealthOf_23 : decode cX8_wealthOf 23 = .ok (.goto 4, 3) := by decide +kernel
theorem dX8_wealthOf_26 : decode cX8_wealthOf 26 = .ok (.iconst 0, 1) := by decide +kernel
theorem dX8_wealthOf_27 : decode cX8_wealthOf 27 = .ok (.ireturn, 1) := by decide +kernel
abbrev mX8_wealthOf : MI := (yX8_wealthOf, cX8_wealthOf, 2, (some .int), noE)
theorem okX8_wealthOf : cok mX8_wealthOf 2 := ⟨tw1095, tw18, by decide, by decide, by decide, by decide +kernel⟩
def fX8_wealthOf (M : Mem) (a0 a1 : Int) : Option Int :=
  if M.2.1 a0 = 8 then if M.2.1 (M.1 a0 0) = 7 then (fX7_isHouse M (M.1 a0 0) a1).bind fun r2 => if r2 = 0 then (some 0) else ((fX7_worthIn M (M.1 a0 0) (M.1 a0 2) a1).bind fun r6 => some r6) else none else none
set_option maxRecDepth 100000 in
set_option maxHeartbeats 4000000 in
theorem kX8_wealthOf (d : Nat) (hd : 2 ≤ d) (M : Mem) (a0 a1 : Int) : Ct mX8_wealthOf d 0 0 [pA a0, pI a1] M (dI M) (fX8_wealthOf M a0 a1) := by
  obtain ⟨d, rfl⟩ : ∃ k, d = k + 1 := ⟨d - 1, by omega⟩
  refine Ct.of 0 (fun _ _ _ => trivial) (by decide +kernel) rfl ?_
  unfold fX8_wealthOf
  refine v_aload_n dX8_wealthOf_0 rfl ?_
  refine v_if (fun h1 => ?_)
  refine v_get (v := pA (M.1 a0 0)) 8 0 rfl inX9 (by decide) tw316 dX8_wealthOf_1 h1 rfl ?_
  refine v_iload_n dX8_wealthOf_4 rfl ?_
  refine v_if (fun h4 => ?_)
  refine v_cV (mi := mX8_wealthOf) (c0 := 0) (c1 := 0) (As := [pI a1]) (st := []) (kX7_isHouse d (by omega) _ _ _) rfl h4 rfl okX7_isHouse (Or.inl tw836) tw685 tw686 rfl (Nat.le_of_ble_eq_true rfl) dX8_wealthOf_5 (fun r2 => [pI r2]) (fun r2 => M) (fun _ => rfl) (fun _ => rfl) (fun r2 h3 => ?_) rfl
  refine v_if_eq (tgt := 26) dX8_wealthOf_8 (by decide) (fun c5 => ?_) (fun c5 => ?_)
  · refine v_iconst dX8_wealthOf_26 (by decide) ?_
    exact v_ireturn dX8_wealthOf_27 rfl rfl
  · refine v_aload_n dX8_wealthOf_11 rfl ?_
    refine v_get (v := pA (M.1 a0 0)) 8 0 rfl inX9 (by decide) tw316 dX8_wealthOf_12 h1 rfl ?_
    refine v_aload_n dX8_wealthOf_15 rfl ?_
    refine v_get (v := pA (M.1 a0 2)) 8 2 rfl inX9 (by decide) tw322 dX8_wealthOf_16 h1 rfl ?_
    refine v_iload_n dX8_wealthOf_19 rfl ?_
    refine v_cV (mi := mX8_wealthOf) (c0 := 0) (c1 := 0) (As := [pA (M.1 a0 2), pI a1]) (st := []) (kX7_worthIn d (by omega) _ _ _ _) rfl h4 rfl okX7_worthIn (Or.inl tw1096) tw1016 tw1017 rfl (Nat.le_of_ble_eq_true rfl) dX8_wealthOf_20 (fun r6 => [pI r6]) (fun r6 => M) (fun _ => rfl) (fun _ => rfl) (fun r6 h7 => ?_) rfl
    refine v_goto (tgt := 27) dX8_wealthOf_23 (by decide) ?_
    exact v_ireturn dX8_wealthOf_27 rfl rfl
theorem dX8_gap_0 : decode cX8_gap 0 = .ok (.aload_n 0, 1) := by decide +kernel
theorem dX8_gap_1 : decode cX8_gap 1 = .ok (.iconst 0, 1) := by decide +kernel
theorem dX8_gap_2 : decode cX8_gap 2 = .ok (.invokestatic 117, 3) := by decide +kernel
theorem dX8_gap_5 : decode cX8_gap 5 = .ok (.istore_n 1, 1) := by decide +kernel
theorem dX8_gap_6 : decode cX8_gap 6 = .ok (.iload_n 1, 1) := by decide +kernel
theorem dX8_gap_7 : decode cX8_gap 7 = .ok (.istore_n 2, 1) := by decide +kernel
theorem dX8_gap_8 : decode cX8_gap 8 = .ok (.iconst 1, 1) := by decide +kernel
theorem dX8_gap_9 : decode cX8_gap 9 = .ok (.istore_n 3, 1) := by decide +kernel
theorem dX8_gap_10 : decode cX8_gap 10 = .ok (.iload_n 3, 1) := by decide +kernel
theorem dX8_gap_11 : decode cX8_gap 11 = .ok (.aload_n 0, 1) := by decide +kernel
theorem dX8_gap_12 : decode cX8_gap 12 = .ok (.getfield 28, 3) := by decide +kernel
theorem dX8_gap_15 : decode cX8_gap 15 = .ok (.getfield 59, 3) := by decide +kernel
theorem dX8_gap_18 : decode cX8_gap 18 = .ok (.if_icmp .ge 29, 3) := by decide +kernel
theorem dX8_gap_21 : decode cX8_gap 21 = .ok (.iload_n 1, 1) := by decide +kernel
theorem dX8_gap_22 : decode cX8_gap 22 = .ok (.aload_n 0, 1) := by decide +kernel
theorem dX8_gap_23 : decode cX8_gap 23 = .ok (.iload_n 3, 1) := by decide +kernel
theorem dX8_gap_24 : decode cX8_gap 24 = .ok (.invokestatic 117, 3) := by decide +kernel
theorem dX8_gap_27 : decode cX8_gap 27 = .ok (.invokestatic 156, 3) := by decide +kernel
theorem dX8_gap_30 : decode cX8_gap 30 = .ok (.istore_n 1, 1) := by decide +kernel
theorem dX8_gap_31 : decode cX8_gap 31 = .ok (.iload_n 2, 1) := by decide +kernel
theorem dX8_gap_32 : decode cX8_gap 32 = .ok (.aload_n 0, 1) := by decide +kernel
theorem dX8_gap_33 : decode cX8_gap 33 = .ok (.iload_n 3, 1) := by decide +kernel
theorem dX8_gap_34 : decode cX8_gap 34 = .ok (.invokestatic 117, 3) := by decide +kernel
theorem dX8_gap_37 : decode cX8_gap 37 = .ok (.invokestatic 126, 3) := by decide +kernel
theorem dX8_gap_40 : decode cX8_gap 40 = .ok (.istore_n 2, 1) := by decide +kernel
theorem dX8_gap_41 : decode cX8_gap 41 = .ok (.iinc 3 1, 3) := by decide +kernel
theorem dX8_gap_44 : decode cX8_gap 44 = .ok (.goto (-34), 3) := by decide +kernel
theorem dX8_gap_47 : decode cX8_gap 47 = .ok (.iload_n 1, 1) := by decide +kernel
theorem dX8_gap_48 : decode cX8_gap 48 = .ok (.iload_n 2, 1) := by decide +kernel
theorem dX8_gap_49 : decode cX8_gap 49 = .ok (.isub, 1) := by decide +kernel
theorem dX8_gap_50 : decode cX8_gap 50 = .ok (.ireturn, 1) := by decide +kernel
abbrev mX8_gap : MI := (yX8_gap, cX8_gap, 4, (some .int), noE)
theorem okX8_gap : cok mX8_gap 1 := ⟨tw1092, tw18, by decide, by decide, by decide, by decide +kernel⟩
def fX8_gap (M : Mem) (a0 : Int) : Option Int :=
  (fX8_wealthOf M a0 0).bind fun r1 => iterC (fun (rec3 : (Int × Int × Int) → Option Int) (s4 : Int × Int × Int) => if M.2.1 a0 = 8 then if M.2.1 (M.1 a0 0) = 7 then if s4.2.2 < M.1 (M.1 a0 0) 0 then ((fX8_wealthOf M a0 s4.2.2).bind fun r8 => (fX8_wealthOf M a0 s4.2.2).bind fun r10 => rec3 (imax s4.1 r8, imin s4.2.1 r10, w32 (s4.2.2 + 1))) else (some (w32 (s4.1 - s4.2.1))) else none else none) BIG (r1, r1, 1)
set_option maxRecDepth 100000 in
set_option maxHeartbeats 4000000 in
theorem kX8_gap (d : Nat) (hd : 3 ≤ d) (M : Mem) (a0 : Int) : Ct mX8_gap d 0 0 [pA a0] M (dI M) (fX8_gap M a0) := by
  obtain ⟨d, rfl⟩ : ∃ k, d = k + 1 := ⟨d - 1, by omega⟩
  refine Ct.of 3 (fun _ _ _ => trivial) (by decide +kernel) rfl ?_
  unfold fX8_gap
  refine v_aload_n dX8_gap_0 rfl ?_
  refine v_iconst dX8_gap_1 (by decide) ?_
  refine v_cS (mi := mX8_gap) (c0 := 0) (c1 := 0) (As := [pA a0, pI 0]) (st := []) (kX8_wealthOf d (by omega) _ _ _) okX8_wealthOf (Or.inl tw1093) tw1094 rfl (Nat.le_of_ble_eq_true rfl) dX8_gap_2 (fun r1 => [pI r1]) (fun r1 => M) (fun _ => rfl) (fun _ => rfl) (fun r1 h2 => ?_) rfl
  refine v_istore_n (ls' := [some (pA a0), some (pI r1), none, none]) dX8_gap_5 (by decide) rfl ?_
  refine v_iload_n dX8_gap_6 rfl ?_
  refine v_istore_n (ls' := [some (pA a0), some (pI r1), some (pI r1), none]) dX8_gap_7 (by decide) rfl ?_
  refine v_iconst dX8_gap_8 (by decide) ?_
  refine v_istore_n (ls' := [some (pA a0), some (pI r1), some (pI r1), some (pI 1)]) dX8_gap_9 (by decide) rfl ?_
  refine v_loop (fun (s4 : Int × Int × Int) => [some (pA a0), some (pI s4.1), some (pI s4.2.1), some (pI s4.2.2)]) (fun (s4 : Int × Int × Int) => M) (s0 := (r1, r1, 1)) ?_
  intro rec3 hrec3 s4
  refine v_iload_n dX8_gap_10 rfl ?_
  refine v_aload_n dX8_gap_11 rfl ?_
  refine v_if (fun h5 => ?_)
  refine v_get (v := pA (M.1 a0 0)) 8 0 rfl inX9 (by decide) tw316 dX8_gap_12 h5 rfl ?_
  refine v_if (fun h6 => ?_)
  refine v_get (v := pI (M.1 (M.1 a0 0) 0)) 7 0 rfl inX7 (by decide) tw57 dX8_gap_15 h6 rfl ?_
  refine v_icmp_ge (tgt := 47) dX8_gap_18 (by decide) (fun c7 => ?_) (fun c7 => ?_)
  · refine v_iload_n dX8_gap_21 rfl ?_
    refine v_aload_n dX8_gap_22 rfl ?_
    refine v_iload_n dX8_gap_23 rfl ?_
    refine v_cS (mi := mX8_gap) (c0 := 0) (c1 := 0) (As := [pA a0, pI s4.2.2]) (st := [pI s4.1]) (kX8_wealthOf d (by omega) _ _ _) okX8_wealthOf (Or.inl tw1093) tw1094 rfl (Nat.le_of_ble_eq_true rfl) dX8_gap_24 (fun r8 => [pI r8, pI s4.1]) (fun r8 => M) (fun _ => rfl) (fun _ => rfl) (fun r8 h9 => ?_) rfl
    refine v_mmax (mi := mX8_gap) tw1097 tw624 tw12 tw625 (Nat.le_of_ble_eq_true rfl) dX8_gap_27 ?_
    refine v_istore_n (ls' := [some (pA a0), some (pI (imax s4.1 r8)), some (pI s4.2.1), some (pI s4.2.2)]) dX8_gap_30 (by decide) rfl ?_
    refine v_iload_n dX8_gap_31 rfl ?_
    refine v_aload_n dX8_gap_32 rfl ?_
    refine v_iload_n dX8_gap_33 rfl ?_
    refine v_cS (mi := mX8_gap) (c0 := 0) (c1 := 0) (As := [pA a0, pI s4.2.2]) (st := [pI s4.2.1]) (kX8_wealthOf d (by omega) _ _ _) okX8_wealthOf (Or.inl tw1093) tw1094 rfl (Nat.le_of_ble_eq_true rfl) dX8_gap_34 (fun r10 => [pI r10, pI s4.2.1]) (fun r10 => M) (fun _ => rfl) (fun _ => rfl) (fun r10 h11 => ?_) rfl
    refine v_mmin (mi := mX8_gap) tw1089 tw469 tw12 tw470 (Nat.le_of_ble_eq_true rfl) dX8_gap_37 ?_
    refine v_istore_n (ls' := [some (pA a0), some (pI (imax s4.1 r8)), some (pI (imin s4.2.1 r10)), some (pI s4.2.2)]) dX8_gap_40 (by decide) rfl ?_
    refine v_iinc (ls' := [some (pA a0), some (pI (imax s4.1 r8)), some (pI (imin s4.2.1 r10)), some (pI (w32 (s4.2.2 + 1)))]) dX8_gap_41 (by decide) rfl rfl ?_
    refine v_goto (tgt := 10) dX8_gap_44 (by decide) ?_
    exact hrec3 (imax s4.1 r8, imin s4.2.1 r10, w32 (s4.2.2 + 1))
  · refine v_iload_n dX8_gap_47 rfl ?_
    refine v_iload_n dX8_gap_48 rfl ?_
    refine v_isub dX8_gap_49 ?_
    exact v_ireturn dX8_gap_50 rfl rfl
theorem dX10_leastTerms_0 : decode cX10_leastTerms 0 = .ok (.iload_n 0, 1) := by decide +kernel
theorem dX10_leastTerms_1 : decode cX10_leastTerms 1 = .ok (.iload_n 1, 1) := by decide +kernel
theorem dX10_leastTerms_2 : decode cX10_leastTerms 2 = .ok (.invokestatic 342, 3) := by decide +kernel
theorem dX10_leastTerms_5 : decode cX10_leastTerms 5 = .ok (.istore_n 3, 1) := by decide +kernel
theorem dX10_leastTerms_6 : decode cX10_leastTerms 6 = .ok (.iload_n 0, 1) := by decide +kernel
theorem dX10_leastTerms_7 : decode cX10_leastTerms 7 = .ok (.ifCond .le 7, 3) := by decide +kernel
theorem dX10_leastTerms_10 : decode cX10_leastTerms 10 = .ok (.iload_n 3, 1) := by decide +kernel
theorem dX10_leastTerms_11 : decode cX10_leastTerms 11 = .ok (.ifCond .gt 13, 3) := by decide +kernel
theorem dX10_leastTerms_14 : decode cX10_leastTerms 14 = .ok (.iload_n 2, 1) := by decide +kernel
theorem dX10_leastTerms_15 : decode cX10_leastTerms 15 = .ok (.ifCond .eq 7, 3) := by decide +kernel
theorem dX10_leastTerms_18 : decode cX10_leastTerms 18 = .ok (.iconst 1, 1) := by decide +kernel
theorem dX10_leastTerms_19 : decode cX10_leastTerms 19 = .ok (.goto 4, 3) := by decide +kernel
theorem dX10_leastTerms_22 : decode cX10_leastTerms 22 = .ok (.iconst 0, 1) := by decide +kernel
theorem dX10_leastTerms_23 : decode cX10_leastTerms 23 = .ok (.ireturn, 1) := by decide +kernel
theorem dX10_leastTerms_24 : decode cX10_leastTerms 24 = .ok (.iload_n 2, 1) := by decide +kernel
theorem dX10_leastTerms_25 : decode cX10_leastTerms 25 = .ok (.ifCond .eq 7, 3) := by decide +kernel
theorem dX10_leastTerms_28 : decode cX10_leastTerms 28 = .ok (.iload_n 1, 1) := by decide +kernel
theorem dX10_leastTerms_29 : decode cX10_leastTerms 29 = .ok (.goto 4, 3) := by decide +kernel
theorem dX10_leastTerms_32 : decode cX10_leastTerms 32 = .ok (.iload_n 0, 1) := by decide +kernel
theorem dX10_leastTerms_33 : decode cX10_leastTerms 33 = .ok (.iload_n 3, 1) := by decide +kernel
theorem dX10_leastTerms_34 : decode cX10_leastTerms 34 = .ok (.idiv, 1) := by decide +kernel
theorem dX10_leastTerms_35 : decode cX10_leastTerms 35 = .ok (.ireturn, 1) := by decide +kernel
abbrev mX10_leastTerms : MI := (yX10_leastTerms, cX10_leastTerms, 4, (some .int), noE)
theorem okX10_leastTerms : cok mX10_leastTerms 3 := ⟨tw1039, tw1, by decide, by decide, by decide, by decide +kernel⟩
def fX10_leastTerms (M : Mem) (a0 a1 a2 : Int) : Option Int :=
  (fX10_commonDivisor M a0 a1).bind fun r1 => jn (fun (t4 : Unit) => if a2 = 0 then (some 0) else (some 1)) (fun (j3 : Unit → Option Int) => if 0 < a0 then (if 0 < r1 then (jn (fun (t9 : Int) => if r1 ≠ 0 then some (w32 (t9.tdiv r1)) else none) (fun (j8 : Int → Option Int) => if a2 = 0 then (j8 a0) else (j8 a1))) else (j3 ())) else (j3 ()))
set_option maxRecDepth 100000 in
set_option maxHeartbeats 4000000 in
theorem kX10_leastTerms (d : Nat) (hd : 1 ≤ d) (M : Mem) (a0 a1 a2 : Int) : Ct mX10_leastTerms d 0 0 [pI a0, pI a1, pI a2] M (dI M) (fX10_leastTerms M a0 a1 a2) := by
  obtain ⟨d, rfl⟩ : ∃ k, d = k + 1 := ⟨d - 1, by omega⟩
  refine Ct.of 1 (fun _ _ _ => trivial) (by decide +kernel) rfl ?_
  unfold fX10_leastTerms
  refine v_iload_n dX10_leastTerms_0 rfl ?_
  refine v_iload_n dX10_leastTerms_1 rfl ?_
  refine v_cS (mi := mX10_leastTerms) (c0 := 0) (c1 := 0) (As := [pI a0, pI a1]) (st := []) (kX10_commonDivisor d (by omega) _ _ _) okX10_commonDivisor (Or.inl tw1040) tw922 rfl (Nat.le_of_ble_eq_true rfl) dX10_leastTerms_2 (fun r1 => [pI r1]) (fun r1 => M) (fun _ => rfl) (fun _ => rfl) (fun r1 h2 => ?_) rfl
  refine v_istore_n (ls' := [some (pI a0), some (pI a1), some (pI a2), some (pI r1)]) dX10_leastTerms_5 (by decide) rfl ?_
  refine v_iload_n dX10_leastTerms_6 rfl ?_
  refine v_join (fun (t4 : Unit) => [none, none, some (pI a2), none]) (fun (t4 : Unit) => []) (fun (t4 : Unit) => M) 14 (fun t4 => ?_) (fun j3 hj3 => ?_)
  · refine v_iload_n dX10_leastTerms_14 rfl ?_
    refine v_if_eq (tgt := 22) dX10_leastTerms_15 (by decide) (fun c5 => ?_) (fun c5 => ?_)
    · refine v_iconst dX10_leastTerms_22 (by decide) ?_
      exact v_ireturn dX10_leastTerms_23 rfl rfl
    · refine v_iconst dX10_leastTerms_18 (by decide) ?_
      refine v_goto (tgt := 23) dX10_leastTerms_19 (by decide) ?_
      exact v_ireturn dX10_leastTerms_23 rfl rfl
  · refine v_if_le (tgt := 14) dX10_leastTerms_7 (by decide) (fun c6 => ?_) (fun c6 => ?_)
    · refine v_iload_n dX10_leastTerms_10 rfl ?_
      refine v_if_gt (tgt := 24) dX10_leastTerms_11 (by decide) (fun c7 => ?_) (fun c7 => ?_)
      · refine v_iload_n dX10_leastTerms_24 rfl ?_
        refine v_join (fun (t9 : Int) => [none, none, none, some (pI r1)]) (fun (t9 : Int) => [pI t9]) (fun (t9 : Int) => M) 33 (fun t9 => ?_) (fun j8 hj8 => ?_)
        · refine v_iload_n dX10_leastTerms_33 rfl ?_
          refine v_if (fun h10 => ?_)
          refine v_idiv h10 dX10_leastTerms_34 ?_
          exact v_ireturn dX10_leastTerms_35 rfl rfl
        · refine v_if_eq (tgt := 32) dX10_leastTerms_25 (by decide) (fun c11 => ?_) (fun c11 => ?_)
          · refine v_iload_n dX10_leastTerms_32 rfl ?_
            exact v_drop [none, none, none, some (pI r1)] (ls_n (ls_n (ls_n (ls_s ls_e)))) (hj8 a0)
          · refine v_iload_n dX10_leastTerms_28 rfl ?_
            refine v_goto (tgt := 33) dX10_leastTerms_29 (by decide) ?_
            exact v_drop [none, none, none, some (pI r1)] (ls_n (ls_n (ls_n (ls_s ls_e)))) (hj8 a1)
      · exact v_drop [none, none, some (pI a2), none] (ls_n (ls_n (ls_s (ls_n ls_e)))) (hj3 ())
    · exact v_drop [none, none, some (pI a2), none] (ls_n (ls_n (ls_s (ls_n ls_e)))) (hj3 ())
theorem dX8_unlike_0 : decode cX8_unlike 0 = .ok (.iconst 0, 1) := by decide +kernel
theorem dX8_unlike_1 : decode cX8_unlike 1 = .ok (.istore_n 2, 1) := by decide +kernel
theorem dX8_unlike_2 : decode cX8_unlike 2 = .ok (.iconst 0, 1) := by decide +kernel
theorem dX8_unlike_3 : decode cX8_unlike 3 = .ok (.istore_n 3, 1) := by decide +kernel
theorem dX8_unlike_4 : decode cX8_unlike 4 = .ok (.iconst 0, 1) := by decide +kernel
theorem dX8_unlike_5 : decode cX8_unlike 5 = .ok (.istore 4, 2) := by decide +kernel
theorem dX8_unlike_7 : decode cX8_unlike 7 = .ok (.iload 4, 2) := by decide +kernel
theorem dX8_unlike_9 : decode cX8_unlike 9 = .ok (.aload_n 0, 1) := by decide +kernel
theorem dX8_unlike_10 : decode cX8_unlike 10 = .ok (.getfield 28, 3) := by decide +kernel
theorem dX8_unlike_13 : decode cX8_unlike 13 = .ok (.getfield 59, 3) := by decide +kernel
theorem dX8_unlike_16 : decode cX8_unlike 16 = .ok (.if_icmp .ge 61, 3) := by decide +kernel
theorem dX8_unlike_19 : decode cX8_unlike 19 = .ok (.aload_n 0, 1) := by decide +kernel
theorem dX8_unlike_20 : decode cX8_unlike 20 = .ok (.iload 4, 2) := by decide +kernel
theorem dX8_unlike_22 : decode cX8_unlike 22 = .ok (.invokestatic 117, 3) := by decide +kernel
theorem dX8_unlike_25 : decode cX8_unlike 25 = .ok (.istore 5, 2) := by decide +kernel
theorem dX8_unlike_27 : decode cX8_unlike 27 = .ok (.iload_n 2, 1) := by decide +kernel
theorem dX8_unlike_28 : decode cX8_unlike 28 = .ok (.iload 5, 2) := by decide +kernel
theorem dX8_unlike_30 : decode cX8_unlike 30 = .ok (.iadd, 1) := by decide +kernel
theorem dX8_unlike_31 : decode cX8_unlike 31 = .ok (.istore_n 2, 1) := by decide +kernel
theorem dX8_unlike_32 : decode cX8_unlike 32 = .ok (.iload 4, 2) := by decide +kernel
theorem dX8_unlike_34 : decode cX8_unlike 34 = .ok (.iconst 1, 1) := by decide +kernel
theorem dX8_unlike_35 : decode cX8_unlike 35 = .ok (.iadd, 1) := by decide +kernel
theorem dX8_unlike_36 : decode cX8_unlike 36 = .ok (.istore 6, 2) := by decide +kernel
theorem dX8_unlike_38 : decode cX8_unlike 38 = .ok (.iload 6, 2) := by decide +kernel
theorem dX8_unlike_40 : decode cX8_unlike 40 = .ok (.aload_n 0, 1) := by decide +kernel
theorem dX8_unlike_41 : decode cX8_unlike 41 = .ok (.getfield 28, 3) := by decide +kernel
theorem dX8_unlike_44 : decode cX8_unlike 44 = .ok (.getfield 59, 3) := by decide +kernel
theorem dX8_unlike_47 : decode cX8_unlike 47 = .ok (.if_icmp .ge 24, 3) := by decide +kernel
theorem dX8_unlike_50 : decode cX8_unlike 50 = .ok (.iload_n 3, 1) := by decide +kernel
theorem dX8_unlike_51 : decode cX8_unlike 51 = .ok (.iload 5, 2) := by decide +kernel
theorem dX8_unlike_53 : decode cX8_unlike 53 = .ok (.aload_n 0, 1) := by decide +kernel
theorem dX8_unlike_54 : decode cX8_unlike 54 = .ok (.iload 6, 2) := by decide +kernel
theorem dX8_unlike_56 : decode cX8_unlike 56 = .ok (.invokestatic 117, 3) := by decide +kernel
theorem dX8_unlike_59 : decode cX8_unlike 59 = .ok (.isub, 1) := by decide +kernel
theorem dX8_unlike_60 : decode cX8_unlike 60 = .ok (.invokestatic 162, 3) := by decide +kernel
theorem dX8_unlike_63 : decode cX8_unlike 63 = .ok (.iadd, 1) := by decide +kernel
theorem dX8_unlike_64 : decode cX8_unlike 64 = .ok (.istore_n 3, 1) := by decide +kernel
theorem dX8_unlike_65 : decode cX8_unlike 65 = .ok (.iinc 6 1, 3) := by decide +kernel
theorem dX8_unlike_68 : decode cX8_unlike 68 = .ok (.goto (-30), 3) := by decide +kernel
theorem dX8_unlike_71 : decode cX8_unlike 71 = .ok (.iinc 4 1, 3) := by decide +kernel
theorem dX8_unlike_74 : decode cX8_unlike 74 = .ok (.goto (-67), 3) := by decide +kernel
theorem dX8_unlike_77 : decode cX8_unlike 77 = .ok (.iload_n 3, 1) := by decide +kernel
theorem dX8_unlike_78 : decode cX8_unlike 78 = .ok (.aload_n 0, 1) := by decide +kernel
theorem dX8_unlike_79 : decode cX8_unlike 79 = .ok (.getfield 28, 3) := by decide +kernel
theorem dX8_unlike_82 : decode cX8_unlike 82 = .ok (.getfield 59, 3) := by decide +kernel
theorem dX8_unlike_85 : decode cX8_unlike 85 = .ok (.iload_n 2, 1) := by decide +kernel
theorem dX8_unlike_86 : decode cX8_unlike 86 = .ok (.imul, 1) := by decide +kernel
theorem dX8_unlike_87 : decode cX8_unlike 87 = .ok (.iload_n 1, 1) := by decide +kernel
theorem dX8_unlike_88 : decode cX8_unlike 88 = .ok (.invokestatic 165, 3) := by decide +kernel
theorem dX8_unlike_91 : decode cX8_unlike 91 = .ok (.ireturn, 1) := by decide +kernel
abbrev mX8_unlike : MI := (yX8_unlike, cX8_unlike, 7, (some .int), noE)
theorem okX8_unlike : cok mX8_unlike 2 := ⟨tw1100, tw18, by decide, by decide, by decide, by decide +kernel⟩
def fX8_unlike (M : Mem) (a0 a1 : Int) : Option Int :=
  iterC (fun (rec1 : (Int × Int × Int) → Option Int) (s2 : Int × Int × Int) => if M.2.1 a0 = 8 then if M.2.1 (M.1 a0 0) = 7 then if s2.2.2 < M.1 (M.1 a0 0) 0 then ((fX8_wealthOf M a0 s2.2.2).bind fun r6 => iterC (fun (rec8 : (Int × Int) → Option Int) (s9 : Int × Int) => if s9.2 < M.1 (M.1 a0 0) 0 then ((fX8_wealthOf M a0 s9.2).bind fun r11 => rec8 (w32 (s9.1 + (iabs (w32 (r6 - r11)))), w32 (s9.2 + 1))) else (rec1 (w32 (s2.1 + r6), s9.1, w32 (s2.2.2 + 1)))) BIG (s2.2.1, w32 (s2.2.2 + 1))) else ((fX10_leastTerms M s2.2.1 (w32 ((M.1 (M.1 a0 0) 0) * s2.1)) a1).bind fun r13 => some r13) else none else none) BIG (0, 0, 0)
set_option maxRecDepth 100000 in
set_option maxHeartbeats 4000000 in
theorem kX8_unlike (d : Nat) (hd : 3 ≤ d) (M : Mem) (a0 a1 : Int) : Ct mX8_unlike d 0 0 [pA a0, pI a1] M (dI M) (fX8_unlike M a0 a1) := by
  obtain ⟨d, rfl⟩ : ∃ k, d = k + 1 := ⟨d - 1, by omega⟩
  refine Ct.of 5 (fun _ _ _ => trivial) (by decide +kernel) rfl ?_
  unfold fX8_unlike
  refine v_iconst dX8_unlike_0 (by decide) ?_
  refine v_istore_n (ls' := [some (pA a0), some (pI a1), some (pI 0), none, none, none, none]) dX8_unlike_1 (by decide) rfl ?_
  refine v_iconst dX8_unlike_2 (by decide) ?_
  refine v_istore_n (ls' := [some (pA a0), some (pI a1), some (pI 0), some (pI 0), none, none, none]) dX8_unlike_3 (by decide) rfl ?_
  refine v_iconst dX8_unlike_4 (by decide) ?_
  refine v_istore (ls' := [some (pA a0), some (pI a1), some (pI 0), some (pI 0), some (pI 0), none, none]) dX8_unlike_5 (by decide) rfl ?_
  refine v_loop (fun (s2 : Int × Int × Int) => [some (pA a0), some (pI a1), some (pI s2.1), some (pI s2.2.1), some (pI s2.2.2), none, none]) (fun (s2 : Int × Int × Int) => M) (s0 := (0, 0, 0)) ?_
  intro rec1 hrec1 s2
  refine v_iload dX8_unlike_7 rfl ?_
  refine v_aload_n dX8_unlike_9 rfl ?_
  refine v_if (fun h3 => ?_)
  refine v_get (v := pA (M.1 a0 0)) 8 0 rfl inX9 (by decide) tw316 dX8_unlike_10 h3 rfl ?_
  refine v_if (fun h4 => ?_)
  refine v_get (v := pI (M.1 (M.1 a0 0) 0)) 7 0 rfl inX7 (by decide) tw57 dX8_unlike_13 h4 rfl ?_
  refine v_icmp_ge (tgt := 77) dX8_unlike_16 (by decide) (fun c5 => ?_) (fun c5 => ?_)
  · refine v_aload_n dX8_unlike_19 rfl ?_
    refine v_iload dX8_unlike_20 rfl ?_
    refine v_cS (mi := mX8_unlike) (c0 := 0) (c1 := 0) (As := [pA a0, pI s2.2.2]) (st := []) (kX8_wealthOf d (by omega) _ _ _) okX8_wealthOf (Or.inl tw1093) tw1094 rfl (Nat.le_of_ble_eq_true rfl) dX8_unlike_22 (fun r6 => [pI r6]) (fun r6 => M) (fun _ => rfl) (fun _ => rfl) (fun r6 h7 => ?_) rfl
    refine v_istore (ls' := [some (pA a0), some (pI a1), some (pI s2.1), some (pI s2.2.1), some (pI s2.2.2), some (pI r6), none]) dX8_unlike_25 (by decide) rfl ?_
    refine v_iload_n dX8_unlike_27 rfl ?_
    refine v_iload dX8_unlike_28 rfl ?_
    refine v_iadd dX8_unlike_30 ?_
    refine v_istore_n (ls' := [some (pA a0), some (pI a1), some (pI (w32 (s2.1 + r6))), some (pI s2.2.1), some (pI s2.2.2), some (pI r6), none]) dX8_unlike_31 (by decide) rfl ?_
    refine v_iload dX8_unlike_32 rfl ?_
    refine v_iconst dX8_unlike_34 (by decide) ?_
    refine v_iadd dX8_unlike_35 ?_
    refine v_istore (ls' := [some (pA a0), some (pI a1), some (pI (w32 (s2.1 + r6))), some (pI s2.2.1), some (pI s2.2.2), some (pI r6), some (pI (w32 (s2.2.2 + 1)))]) dX8_unlike_36 (by decide) rfl ?_
    refine v_loop (fun (s9 : Int × Int) => [some (pA a0), some (pI a1), some (pI (w32 (s2.1 + r6))), some (pI s9.1), some (pI s2.2.2), some (pI r6), some (pI s9.2)]) (fun (s9 : Int × Int) => M) (s0 := (s2.2.1, w32 (s2.2.2 + 1))) ?_
    intro rec8 hrec8 s9
    refine v_iload dX8_unlike_38 rfl ?_
    refine v_aload_n dX8_unlike_40 rfl ?_
    refine v_get (v := pA (M.1 a0 0)) 8 0 rfl inX9 (by decide) tw316 dX8_unlike_41 h3 rfl ?_
    refine v_get (v := pI (M.1 (M.1 a0 0) 0)) 7 0 rfl inX7 (by decide) tw57 dX8_unlike_44 h4 rfl ?_
    refine v_icmp_ge (tgt := 71) dX8_unlike_47 (by decide) (fun c10 => ?_) (fun c10 => ?_)
    · refine v_iload_n dX8_unlike_50 rfl ?_
      refine v_iload dX8_unlike_51 rfl ?_
      refine v_aload_n dX8_unlike_53 rfl ?_
      refine v_iload dX8_unlike_54 rfl ?_
      refine v_cS (mi := mX8_unlike) (c0 := 0) (c1 := 0) (As := [pA a0, pI s9.2]) (st := [pI r6, pI s9.1]) (kX8_wealthOf d (by omega) _ _ _) okX8_wealthOf (Or.inl tw1093) tw1094 rfl (Nat.le_of_ble_eq_true rfl) dX8_unlike_56 (fun r11 => [pI r11, pI r6, pI s9.1]) (fun r11 => M) (fun _ => rfl) (fun _ => rfl) (fun r11 h12 => ?_) rfl
      refine v_isub dX8_unlike_59 ?_
      refine v_mabs (mi := mX8_unlike) tw1101 tw907 tw12 tw908 (Nat.le_of_ble_eq_true rfl) dX8_unlike_60 ?_
      refine v_iadd dX8_unlike_63 ?_
      refine v_istore_n (ls' := [some (pA a0), some (pI a1), some (pI (w32 (s2.1 + r6))), some (pI (w32 (s9.1 + (iabs (w32 (r6 - r11)))))), some (pI s2.2.2), some (pI r6), some (pI s9.2)]) dX8_unlike_64 (by decide) rfl ?_
      refine v_iinc (ls' := [some (pA a0), some (pI a1), some (pI (w32 (s2.1 + r6))), some (pI (w32 (s9.1 + (iabs (w32 (r6 - r11)))))), some (pI s2.2.2), some (pI r6), some (pI (w32 (s9.2 + 1)))]) dX8_unlike_65 (by decide) rfl rfl ?_
      refine v_goto (tgt := 38) dX8_unlike_68 (by decide) ?_
      exact hrec8 (w32 (s9.1 + (iabs (w32 (r6 - r11)))), w32 (s9.2 + 1))
    · refine v_iinc (ls' := [some (pA a0), some (pI a1), some (pI (w32 (s2.1 + r6))), some (pI s9.1), some (pI (w32 (s2.2.2 + 1))), some (pI r6), some (pI s9.2)]) dX8_unlike_71 (by decide) rfl rfl ?_
      refine v_goto (tgt := 7) dX8_unlike_74 (by decide) ?_
      exact v_drop [some (pA a0), some (pI a1), some (pI (w32 (s2.1 + r6))), some (pI s9.1), some (pI (w32 (s2.2.2 + 1))), none, none] (ls_s (ls_s (ls_s (ls_s (ls_s (ls_n (ls_n ls_e))))))) (hrec1 (w32 (s2.1 + r6), s9.1, w32 (s2.2.2 + 1)))
  · refine v_iload_n dX8_unlike_77 rfl ?_
    refine v_aload_n dX8_unlike_78 rfl ?_
    refine v_get (v := pA (M.1 a0 0)) 8 0 rfl inX9 (by decide) tw316 dX8_unlike_79 h3 rfl ?_
    refine v_get (v := pI (M.1 (M.1 a0 0) 0)) 7 0 rfl inX7 (by decide) tw57 dX8_unlike_82 h4 rfl ?_
    refine v_iload_n dX8_unlike_85 rfl ?_
    refine v_imul dX8_unlike_86 ?_
    refine v_iload_n dX8_unlike_87 rfl ?_
    refine v_cS (mi := mX8_unlike) (c0 := 0) (c1 := 0) (As := [pI s2.2.1, pI (w32 ((M.1 (M.1 a0 0) 0) * s2.1)), pI a1]) (st := []) (kX10_leastTerms d (by omega) _ _ _ _) okX10_leastTerms (Or.inr nw23) tw1038 rfl (Nat.le_of_ble_eq_true rfl) dX8_unlike_88 (fun r13 => [pI r13]) (fun r13 => M) (fun _ => rfl) (fun _ => rfl) (fun r13 h14 => ?_) rfl
    exact v_ireturn dX8_unlike_91 rfl rfl
theorem dX8_robbed_0 : decode cX8_robbed 0 = .ok (.iconst 0, 1) := by decide +kernel
theorem dX8_robbed_1 : decode cX8_robbed 1 = .ok (.istore_n 1, 1) := by decide +kernel
theorem dX8_robbed_2 : decode cX8_robbed 2 = .ok (.iconst 0, 1) := by decide +kernel
theorem dX8_robbed_3 : decode cX8_robbed 3 = .ok (.istore_n 2, 1) := by decide +kernel
theorem dX8_robbed_4 : decode cX8_robbed 4 = .ok (.iload_n 2, 1) := by decide +kernel
theorem dX8_robbed_5 : decode cX8_robbed 5 = .ok (.aload_n 0, 1) := by decide +kernel
theorem dX8_robbed_6 : decode cX8_robbed 6 = .ok (.getfield 28, 3) := by decide +kernel
theorem dX8_robbed_9 : decode cX8_robbed 9 = .ok (.getfield 59, 3) := by decide +kernel
theorem dX8_robbed_12 : decode cX8_robbed 12 = .ok (.if_icmp .ge 65, 3) := by decide +kernel
theorem dX8_robbed_15 : decode cX8_robbed 15 = .ok (.iconst 0, 1) := by decide +kernel
theorem dX8_robbed_16 : decode cX8_robbed 16 = .ok (.istore_n 3, 1) := by decide +kernel
theorem dX8_robbed_17 : decode cX8_robbed 17 = .ok (.iconst 0, 1) := by decide +kernel
theorem dX8_robbed_18 : decode cX8_robbed 18 = .ok (.istore 4, 2) := by decide +kernel
theorem dX8_robbed_20 : decode cX8_robbed 20 = .ok (.iload 4, 2) := by decide +kernel
theorem dX8_robbed_22 : decode cX8_robbed 22 = .ok (.aload_n 0, 1) := by decide +kernel
theorem dX8_robbed_23 : decode cX8_robbed 23 = .ok (.getfield 28, 3) := by decide +kernel
theorem dX8_robbed_26 : decode cX8_robbed 26 = .ok (.getfield 66, 3) := by decide +kernel
theorem dX8_robbed_29 : decode cX8_robbed 29 = .ok (.if_icmp .ge 27, 3) := by decide +kernel
theorem dX8_robbed_32 : decode cX8_robbed 32 = .ok (.iload_n 3, 1) := by decide +kernel
theorem dX8_robbed_33 : decode cX8_robbed 33 = .ok (.aload_n 0, 1) := by decide +kernel
theorem dX8_robbed_34 : decode cX8_robbed 34 = .ok (.iload 4, 2) := by decide +kernel
theorem dX8_robbed_36 : decode cX8_robbed 36 = .ok (.iload_n 2, 1) := by decide +kernel
theorem dX8_robbed_37 : decode cX8_robbed 37 = .ok (.invokestatic 69, 3) := by decide +kernel
theorem dX8_robbed_40 : decode cX8_robbed 40 = .ok (.ifCond .le 7, 3) := by decide +kernel
theorem dX8_robbed_43 : decode cX8_robbed 43 = .ok (.iconst 1, 1) := by decide +kernel
theorem dX8_robbed_44 : decode cX8_robbed 44 = .ok (.goto 4, 3) := by decide +kernel
theorem dX8_robbed_47 : decode cX8_robbed 47 = .ok (.iconst 0, 1) := by decide +kernel
theorem dX8_robbed_48 : decode cX8_robbed 48 = .ok (.iadd, 1) := by decide +kernel
theorem dX8_robbed_49 : decode cX8_robbed 49 = .ok (.istore_n 3, 1) := by decide +kernel
theorem dX8_robbed_50 : decode cX8_robbed 50 = .ok (.iinc 4 1, 3) := by decide +kernel
theorem dX8_robbed_53 : decode cX8_robbed 53 = .ok (.goto (-33), 3) := by decide +kernel
theorem dX8_robbed_56 : decode cX8_robbed 56 = .ok (.iload_n 1, 1) := by decide +kernel
theorem dX8_robbed_57 : decode cX8_robbed 57 = .ok (.iload_n 3, 1) := by decide +kernel
theorem dX8_robbed_58 : decode cX8_robbed 58 = .ok (.iconst 2, 1) := by decide +kernel
theorem dX8_robbed_59 : decode cX8_robbed 59 = .ok (.if_icmp .lt 9, 3) := by decide +kernel
theorem dX8_robbed_62 : decode cX8_robbed 62 = .ok (.iconst 1, 1) := by decide +kernel
theorem dX8_robbed_63 : decode cX8_robbed 63 = .ok (.iload_n 2, 1) := by decide +kernel
theorem dX8_robbed_64 : decode cX8_robbed 64 = .ok (.ishl, 1) := by decide +kernel
theorem dX8_robbed_65 : decode cX8_robbed 65 = .ok (.goto 4, 3) := by decide +kernel
theorem dX8_robbed_68 : decode cX8_robbed 68 = .ok (.iconst 0, 1) := by decide +kernel
theorem dX8_robbed_69 : decode cX8_robbed 69 = .ok (.ior, 1) := by decide +kernel
theorem dX8_robbed_70 : decode cX8_robbed 70 = .ok (.istore_n 1, 1) := by decide +kernel
theorem dX8_robbed_71 : decode cX8_robbed 71 = .ok (.iinc 2 1, 3) := by decide +kernel
theorem dX8_robbed_74 : decode cX8_robbed 74 = .ok (.goto (-70), 3) := by decide +kernel
theorem dX8_robbed_77 : decode cX8_robbed 77 = .ok (.iload_n 1, 1) := by decide +kernel
theorem dX8_robbed_78 : decode cX8_robbed 78 = .ok (.ireturn, 1) := by decide +kernel
abbrev mX8_robbed : MI := (yX8_robbed, cX8_robbed, 5, (some .int), noE)
theorem okX8_robbed : cok mX8_robbed 1 := ⟨tw1105, tw18, by decide, by decide, by decide, by decide +kernel⟩
def fX8_robbed (M : Mem) (a0 : Int) : Option Int :=
  iterC (fun (rec1 : (Int × Int) → Option Int) (s2 : Int × Int) => if M.2.1 a0 = 8 then if M.2.1 (M.1 a0 0) = 7 then if s2.2 < M.1 (M.1 a0 0) 0 then (iterC (fun (rec6 : (Int × Int) → Option Int) (s7 : Int × Int) => if s7.2 < M.1 (M.1 a0 0) 1 then ((fX8_tookFrom M a0 s7.2 s2.2).bind fun r9 => if 0 < r9 then (rec6 (w32 (s7.1 + 1), w32 (s7.2 + 1))) else (rec6 (w32 (s7.1 + 0), w32 (s7.2 + 1)))) else (if s7.1 < 2 then (rec1 (bOr s2.1 0, w32 (s2.2 + 1))) else (rec1 (bOr s2.1 (bShl 1 s2.2), w32 (s2.2 + 1))))) BIG (0, 0)) else (some s2.1) else none else none) BIG (0, 0)
set_option maxRecDepth 100000 in
set_option maxHeartbeats 4000000 in
theorem kX8_robbed (d : Nat) (hd : 2 ≤ d) (M : Mem) (a0 : Int) : Ct mX8_robbed d 0 0 [pA a0] M (dI M) (fX8_robbed M a0) := by
  obtain ⟨d, rfl⟩ : ∃ k, d = k + 1 := ⟨d - 1, by omega⟩
  refine Ct.of 4 (fun _ _ _ => trivial) (by decide +kernel) rfl ?_
  unfold fX8_robbed
  refine v_iconst dX8_robbed_0 (by decide) ?_
  refine v_istore_n (ls' := [some (pA a0), some (pI 0), none, none, none]) dX8_robbed_1 (by decide) rfl ?_
  refine v_iconst dX8_robbed_2 (by decide) ?_
  refine v_istore_n (ls' := [some (pA a0), some (pI 0), some (pI 0), none, none]) dX8_robbed_3 (by decide) rfl ?_
  refine v_loop (fun (s2 : Int × Int) => [some (pA a0), some (pI s2.1), some (pI s2.2), none, none]) (fun (s2 : Int × Int) => M) (s0 := (0, 0)) ?_
  intro rec1 hrec1 s2
  refine v_iload_n dX8_robbed_4 rfl ?_
  refine v_aload_n dX8_robbed_5 rfl ?_
  refine v_if (fun h3 => ?_)
  refine v_get (v := pA (M.1 a0 0)) 8 0 rfl inX9 (by decide) tw316 dX8_robbed_6 h3 rfl ?_
  refine v_if (fun h4 => ?_)
  refine v_get (v := pI (M.1 (M.1 a0 0) 0)) 7 0 rfl inX7 (by decide) tw57 dX8_robbed_9 h4 rfl ?_
  refine v_icmp_ge (tgt := 77) dX8_robbed_12 (by decide) (fun c5 => ?_) (fun c5 => ?_)
  · refine v_iconst dX8_robbed_15 (by decide) ?_
    refine v_istore_n (ls' := [some (pA a0), some (pI s2.1), some (pI s2.2), some (pI 0), none]) dX8_robbed_16 (by decide) rfl ?_
    refine v_iconst dX8_robbed_17 (by decide) ?_
    refine v_istore (ls' := [some (pA a0), some (pI s2.1), some (pI s2.2), some (pI 0), some (pI 0)]) dX8_robbed_18 (by decide) rfl ?_
    refine v_loop (fun (s7 : Int × Int) => [some (pA a0), some (pI s2.1), some (pI s2.2), some (pI s7.1), some (pI s7.2)]) (fun (s7 : Int × Int) => M) (s0 := (0, 0)) ?_
    intro rec6 hrec6 s7
    refine v_iload dX8_robbed_20 rfl ?_
    refine v_aload_n dX8_robbed_22 rfl ?_
    refine v_get (v := pA (M.1 a0 0)) 8 0 rfl inX9 (by decide) tw316 dX8_robbed_23 h3 rfl ?_
    refine v_get (v := pI (M.1 (M.1 a0 0) 1)) 7 1 rfl inX7 (by decide) tw63 dX8_robbed_26 h4 rfl ?_
    refine v_icmp_ge (tgt := 56) dX8_robbed_29 (by decide) (fun c8 => ?_) (fun c8 => ?_)
    · refine v_iload_n dX8_robbed_32 rfl ?_
      refine v_aload_n dX8_robbed_33 rfl ?_
      refine v_iload dX8_robbed_34 rfl ?_
      refine v_iload_n dX8_robbed_36 rfl ?_
      refine v_cS (mi := mX8_robbed) (c0 := 0) (c1 := 0) (As := [pA a0, pI s7.2, pI s2.2]) (st := [pI s7.1]) (kX8_tookFrom d (by omega) _ _ _ _) okX8_tookFrom (Or.inl tw840) tw841 rfl (Nat.le_of_ble_eq_true rfl) dX8_robbed_37 (fun r9 => [pI r9, pI s7.1]) (fun r9 => M) (fun _ => rfl) (fun _ => rfl) (fun r9 h10 => ?_) rfl
      refine v_if_le (tgt := 47) dX8_robbed_40 (by decide) (fun c11 => ?_) (fun c11 => ?_)
      · refine v_iconst dX8_robbed_43 (by decide) ?_
        refine v_goto (tgt := 48) dX8_robbed_44 (by decide) ?_
        refine v_iadd dX8_robbed_48 ?_
        refine v_istore_n (ls' := [some (pA a0), some (pI s2.1), some (pI s2.2), some (pI (w32 (s7.1 + 1))), some (pI s7.2)]) dX8_robbed_49 (by decide) rfl ?_
        refine v_iinc (ls' := [some (pA a0), some (pI s2.1), some (pI s2.2), some (pI (w32 (s7.1 + 1))), some (pI (w32 (s7.2 + 1)))]) dX8_robbed_50 (by decide) rfl rfl ?_
        refine v_goto (tgt := 20) dX8_robbed_53 (by decide) ?_
        exact hrec6 (w32 (s7.1 + 1), w32 (s7.2 + 1))
      · refine v_iconst dX8_robbed_47 (by decide) ?_
        refine v_iadd dX8_robbed_48 ?_
        refine v_istore_n (ls' := [some (pA a0), some (pI s2.1), some (pI s2.2), some (pI (w32 (s7.1 + 0))), some (pI s7.2)]) dX8_robbed_49 (by decide) rfl ?_
        refine v_iinc (ls' := [some (pA a0), some (pI s2.1), some (pI s2.2), some (pI (w32 (s7.1 + 0))), some (pI (w32 (s7.2 + 1)))]) dX8_robbed_50 (by decide) rfl rfl ?_
        refine v_goto (tgt := 20) dX8_robbed_53 (by decide) ?_
        exact hrec6 (w32 (s7.1 + 0), w32 (s7.2 + 1))
    · refine v_iload_n dX8_robbed_56 rfl ?_
      refine v_iload_n dX8_robbed_57 rfl ?_
      refine v_iconst dX8_robbed_58 (by decide) ?_
      refine v_icmp_lt (tgt := 68) dX8_robbed_59 (by decide) (fun c12 => ?_) (fun c12 => ?_)
      · refine v_iconst dX8_robbed_68 (by decide) ?_
        refine v_ior dX8_robbed_69 ?_
        refine v_istore_n (ls' := [some (pA a0), some (pI (bOr s2.1 0)), some (pI s2.2), some (pI s7.1), some (pI s7.2)]) dX8_robbed_70 (by decide) rfl ?_
        refine v_iinc (ls' := [some (pA a0), some (pI (bOr s2.1 0)), some (pI (w32 (s2.2 + 1))), some (pI s7.1), some (pI s7.2)]) dX8_robbed_71 (by decide) rfl rfl ?_
        refine v_goto (tgt := 4) dX8_robbed_74 (by decide) ?_
        exact v_drop [some (pA a0), some (pI (bOr s2.1 0)), some (pI (w32 (s2.2 + 1))), none, none] (ls_s (ls_s (ls_s (ls_n (ls_n ls_e))))) (hrec1 (bOr s2.1 0, w32 (s2.2 + 1)))
      · refine v_iconst dX8_robbed_62 (by decide) ?_
        refine v_iload_n dX8_robbed_63 rfl ?_
        refine v_ishl dX8_robbed_64 ?_
        refine v_goto (tgt := 69) dX8_robbed_65 (by decide) ?_
        refine v_ior dX8_robbed_69 ?_
        refine v_istore_n (ls' := [some (pA a0), some (pI (bOr s2.1 (bShl 1 s2.2))), some (pI s2.2), some (pI s7.1), some (pI s7.2)]) dX8_robbed_70 (by decide) rfl ?_
        refine v_iinc (ls' := [some (pA a0), some (pI (bOr s2.1 (bShl 1 s2.2))), some (pI (w32 (s2.2 + 1))), some (pI s7.1), some (pI s7.2)]) dX8_robbed_71 (by decide) rfl rfl ?_
        refine v_goto (tgt := 4) dX8_robbed_74 (by decide) ?_
        exact v_drop [some (pA a0), some (pI (bOr s2.1 (bShl 1 s2.2))), some (pI (w32 (s2.2 + 1))), none, none] (ls_s (ls_s (ls_s (ls_n (ls_n ls_e))))) (hrec1 (bOr s2.1 (bShl 1 s2.2), w32 (s2.2 + 1)))
  · refine v_iload_n dX8_robbed_77 rfl ?_
    exact v_ireturn dX8_robbed_78 rfl rfl
theorem dX8_can_0 : decode cX8_can 0 = .ok (.aload_n 0, 1) := by decide +kernel
theorem dX8_can_1 : decode cX8_can 1 = .ok (.iload_n 1, 1) := by decide +kernel
theorem dX8_can_2 : decode cX8_can 2 = .ok (.invokevirtual 131, 3) := by decide +kernel
theorem dX8_can_5 : decode cX8_can 5 = .ok (.ifCond .ne 5, 3) := by decide +kernel
theorem dX8_can_8 : decode cX8_can 8 = .ok (.iconst 0, 1) := by decide +kernel
theorem dX8_can_9 : decode cX8_can 9 = .ok (.ireturn, 1) := by decide +kernel
theorem dX8_can_10 : decode cX8_can 10 = .ok (.iconst 0, 1) := by decide +kernel
theorem dX8_can_11 : decode cX8_can 11 = .ok (.istore_n 2, 1) := by decide +kernel
theorem dX8_can_12 : decode cX8_can 12 = .ok (.iconst 0, 1) := by decide +kernel
theorem dX8_can_13 : decode cX8_can 13 = .ok (.istore_n 3, 1) := by decide +kernel
theorem dX8_can_14 : decode cX8_can 14 = .ok (.iload_n 3, 1) := by decide +kernel
theorem dX8_can_15 : decode cX8_can 15 = .ok (.iconst 5, 1) := by decide +kernel
theorem dX8_can_16 : decode cX8_can 16 = .ok (.if_icmp .ge 74, 3) := by decide +kernel
theorem dX8_can_19 : decode cX8_can 19 = .ok (.iconst 0, 1) := by decide +kernel
theorem dX8_can_20 : decode cX8_can 20 = .ok (.istore 4, 2) := by decide +kernel
theorem dX8_can_22 : decode cX8_can 22 = .ok (.iconst 0, 1) := by decide +kernel
theorem dX8_can_23 : decode cX8_can 23 = .ok (.istore 5, 2) := by decide +kernel
theorem dX8_can_25 : decode cX8_can 25 = .ok (.iload 5, 2) := by decide +kernel
theorem dX8_can_27 : decode cX8_can 27 = .ok (.aload_n 0, 1) := by decide +kernel
theorem dX8_can_28 : decode cX8_can 28 = .ok (.getfield 28, 3) := by decide +kernel
theorem dX8_can_31 : decode cX8_can 31 = .ok (.getfield 59, 3) := by decide +kernel
theorem dX8_can_34 : decode cX8_can 34 = .ok (.if_icmp .ge 32, 3) := by decide +kernel
theorem dX8_can_37 : decode cX8_can 37 = .ok (.aload_n 0, 1) := by decide +kernel
theorem dX8_can_38 : decode cX8_can 38 = .ok (.iload_n 1, 1) := by decide +kernel
theorem dX8_can_39 : decode cX8_can 39 = .ok (.iload 5, 2) := by decide +kernel
theorem dX8_can_41 : decode cX8_can 41 = .ok (.iload_n 3, 1) := by decide +kernel
theorem dX8_can_42 : decode cX8_can 42 = .ok (.invokevirtual 142, 3) := by decide +kernel
theorem dX8_can_45 : decode cX8_can 45 = .ok (.ifCond .eq 15, 3) := by decide +kernel
theorem dX8_can_48 : decode cX8_can 48 = .ok (.iload 4, 2) := by decide +kernel
theorem dX8_can_50 : decode cX8_can 50 = .ok (.aload_n 0, 1) := by decide +kernel
theorem dX8_can_51 : decode cX8_can 51 = .ok (.iload 5, 2) := by decide +kernel
theorem dX8_can_53 : decode cX8_can 53 = .ok (.iload_n 3, 1) := by decide +kernel
theorem dX8_can_54 : decode cX8_can 54 = .ok (.invokevirtual 62, 3) := by decide +kernel
theorem dX8_can_57 : decode cX8_can 57 = .ok (.iadd, 1) := by decide +kernel
theorem dX8_can_58 : decode cX8_can 58 = .ok (.istore 4, 2) := by decide +kernel
theorem dX8_can_60 : decode cX8_can 60 = .ok (.iinc 5 1, 3) := by decide +kernel
theorem dX8_can_63 : decode cX8_can 63 = .ok (.goto (-38), 3) := by decide +kernel
theorem dX8_can_66 : decode cX8_can 66 = .ok (.iload_n 2, 1) := by decide +kernel
theorem dX8_can_67 : decode cX8_can 67 = .ok (.iload 4, 2) := by decide +kernel
theorem dX8_can_69 : decode cX8_can 69 = .ok (.aload_n 0, 1) := by decide +kernel
theorem dX8_can_70 : decode cX8_can 70 = .ok (.getfield 146, 3) := by decide +kernel
theorem dX8_can_73 : decode cX8_can 73 = .ok (.iconst 5, 1) := by decide +kernel
theorem dX8_can_74 : decode cX8_can 74 = .ok (.iload_n 1, 1) := by decide +kernel
theorem dX8_can_75 : decode cX8_can 75 = .ok (.imul, 1) := by decide +kernel
theorem dX8_can_76 : decode cX8_can 76 = .ok (.iload_n 3, 1) := by decide +kernel
theorem dX8_can_77 : decode cX8_can 77 = .ok (.iadd, 1) := by decide +kernel
theorem dX8_can_78 : decode cX8_can 78 = .ok (.iaload, 1) := by decide +kernel
theorem dX8_can_79 : decode cX8_can 79 = .ok (.invokestatic 126, 3) := by decide +kernel
theorem dX8_can_82 : decode cX8_can 82 = .ok (.iadd, 1) := by decide +kernel
theorem dX8_can_83 : decode cX8_can 83 = .ok (.istore_n 2, 1) := by decide +kernel
theorem dX8_can_84 : decode cX8_can 84 = .ok (.iinc 3 1, 3) := by decide +kernel
theorem dX8_can_87 : decode cX8_can 87 = .ok (.goto (-73), 3) := by decide +kernel
theorem dX8_can_90 : decode cX8_can 90 = .ok (.iload_n 2, 1) := by decide +kernel
theorem dX8_can_91 : decode cX8_can 91 = .ok (.ireturn, 1) := by decide +kernel
abbrev mX8_can : MI := (yX8_can, cX8_can, 6, (some .int), noE)
theorem okX8_can : cok mX8_can 2 := ⟨tw1111, tw18, by decide, by decide, by decide, by decide +kernel⟩
def fX8_can (M : Mem) (a0 a1 : Int) : Option Int :=
  if M.2.1 a0 = 8 then (fX9_isFree M a0 a1).bind fun r1 => if r1 = 0 then (some 0) else (iterC (fun (rec5 : (Int × Int) → Option Int) (s6 : Int × Int) => if s6.2 < 5 then (iterC (fun (rec8 : (Int × Int) → Option Int) (s9 : Int × Int) => if M.2.1 (M.1 a0 0) = 7 then if s9.2 < M.1 (M.1 a0 0) 0 then ((fX9_takesGift M a0 a1 s9.2 s6.2).bind fun r12 => if r12 = 0 then (rec8 (s9.1, w32 (s9.2 + 1))) else ((fX9_lackOf M a0 s9.2 s6.2).bind fun r15 => rec8 (w32 (s9.1 + r15), w32 (s9.2 + 1)))) else (if M.2.1 (M.1 a0 3) = 12 ∧ (0 : Int) ≤ (w32 ((w32 (5 * a1)) + s6.2)) ∧ (w32 ((w32 (5 * a1)) + s6.2)) < M.2.2.1 (M.1 a0 3) then rec5 (w32 (s6.1 + (imin s9.1 (M.1 (M.1 a0 3) (w32 ((w32 (5 * a1)) + s6.2))))), w32 (s6.2 + 1)) else none) else none) BIG (0, 0)) else (some s6.1)) BIG (0, 0)) else none
set_option maxRecDepth 100000 in
set_option maxHeartbeats 4000000 in
theorem kX8_can (d : Nat) (hd : 2 ≤ d) (M : Mem) (a0 a1 : Int) : Ct mX8_can d 0 0 [pA a0, pI a1] M (dI M) (fX8_can M a0 a1) := by
  obtain ⟨d, rfl⟩ : ∃ k, d = k + 1 := ⟨d - 1, by omega⟩
  refine Ct.of 4 (fun _ _ _ => trivial) (by decide +kernel) rfl ?_
  unfold fX8_can
  refine v_aload_n dX8_can_0 rfl ?_
  refine v_iload_n dX8_can_1 rfl ?_
  refine v_if (fun h3 => ?_)
  refine v_cV (mi := mX8_can) (c0 := 0) (c1 := 0) (As := [pI a1]) (st := []) (kX9_isFree d (by omega) _ _ _) rfl h3 rfl okX9_isFree (Or.inl tw1084) tw758 tw759 rfl (Nat.le_of_ble_eq_true rfl) dX8_can_2 (fun r1 => [pI r1]) (fun r1 => M) (fun _ => rfl) (fun _ => rfl) (fun r1 h2 => ?_) rfl
  refine v_if_ne (tgt := 10) dX8_can_5 (by decide) (fun c4 => ?_) (fun c4 => ?_)
  · refine v_iconst dX8_can_8 (by decide) ?_
    exact v_ireturn dX8_can_9 rfl rfl
  · refine v_iconst dX8_can_10 (by decide) ?_
    refine v_istore_n (ls' := [some (pA a0), some (pI a1), some (pI 0), none, none, none]) dX8_can_11 (by decide) rfl ?_
    refine v_iconst dX8_can_12 (by decide) ?_
    refine v_istore_n (ls' := [some (pA a0), some (pI a1), some (pI 0), some (pI 0), none, none]) dX8_can_13 (by decide) rfl ?_
    refine v_loop (fun (s6 : Int × Int) => [some (pA a0), some (pI a1), some (pI s6.1), some (pI s6.2), none, none]) (fun (s6 : Int × Int) => M) (s0 := (0, 0)) ?_
    intro rec5 hrec5 s6
    refine v_iload_n dX8_can_14 rfl ?_
    refine v_iconst dX8_can_15 (by decide) ?_
    refine v_icmp_ge (tgt := 90) dX8_can_16 (by decide) (fun c7 => ?_) (fun c7 => ?_)
    · refine v_iconst dX8_can_19 (by decide) ?_
      refine v_istore (ls' := [some (pA a0), some (pI a1), some (pI s6.1), some (pI s6.2), some (pI 0), none]) dX8_can_20 (by decide) rfl ?_
      refine v_iconst dX8_can_22 (by decide) ?_
      refine v_istore (ls' := [some (pA a0), some (pI a1), some (pI s6.1), some (pI s6.2), some (pI 0), some (pI 0)]) dX8_can_23 (by decide) rfl ?_
      refine v_loop (fun (s9 : Int × Int) => [some (pA a0), some (pI a1), some (pI s6.1), some (pI s6.2), some (pI s9.1), some (pI s9.2)]) (fun (s9 : Int × Int) => M) (s0 := (0, 0)) ?_
      intro rec8 hrec8 s9
      refine v_iload dX8_can_25 rfl ?_
      refine v_aload_n dX8_can_27 rfl ?_
      refine v_get (v := pA (M.1 a0 0)) 8 0 rfl inX9 (by decide) tw316 dX8_can_28 h3 rfl ?_
      refine v_if (fun h10 => ?_)
      refine v_get (v := pI (M.1 (M.1 a0 0) 0)) 7 0 rfl inX7 (by decide) tw57 dX8_can_31 h10 rfl ?_
      refine v_icmp_ge (tgt := 66) dX8_can_34 (by decide) (fun c11 => ?_) (fun c11 => ?_)
      · refine v_aload_n dX8_can_37 rfl ?_
        refine v_iload_n dX8_can_38 rfl ?_
        refine v_iload dX8_can_39 rfl ?_
        refine v_iload_n dX8_can_41 rfl ?_
        refine v_cV (mi := mX8_can) (c0 := 0) (c1 := 0) (As := [pI a1, pI s9.2, pI s6.2]) (st := []) (kX9_takesGift d (by omega) _ _ _ _ _) rfl h3 rfl okX9_takesGift (Or.inl tw1112) tw773 tw774 rfl (Nat.le_of_ble_eq_true rfl) dX8_can_42 (fun r12 => [pI r12]) (fun r12 => M) (fun _ => rfl) (fun _ => rfl) (fun r12 h13 => ?_) rfl
        refine v_if_eq (tgt := 60) dX8_can_45 (by decide) (fun c14 => ?_) (fun c14 => ?_)
        · refine v_iinc (ls' := [some (pA a0), some (pI a1), some (pI s6.1), some (pI s6.2), some (pI s9.1), some (pI (w32 (s9.2 + 1)))]) dX8_can_60 (by decide) rfl rfl ?_
          refine v_goto (tgt := 25) dX8_can_63 (by decide) ?_
          exact hrec8 (s9.1, w32 (s9.2 + 1))
        · refine v_iload dX8_can_48 rfl ?_
          refine v_aload_n dX8_can_50 rfl ?_
          refine v_iload dX8_can_51 rfl ?_
          refine v_iload_n dX8_can_53 rfl ?_
          refine v_cV (mi := mX8_can) (c0 := 0) (c1 := 0) (As := [pI s9.2, pI s6.2]) (st := [pI s9.1]) (kX9_lackOf d (by omega) _ _ _ _) rfl h3 rfl okX9_lackOf (Or.inl tw824) tw825 tw826 rfl (Nat.le_of_ble_eq_true rfl) dX8_can_54 (fun r15 => [pI r15, pI s9.1]) (fun r15 => M) (fun _ => rfl) (fun _ => rfl) (fun r15 h16 => ?_) rfl
          refine v_iadd dX8_can_57 ?_
          refine v_istore (ls' := [some (pA a0), some (pI a1), some (pI s6.1), some (pI s6.2), some (pI (w32 (s9.1 + r15))), some (pI s9.2)]) dX8_can_58 (by decide) rfl ?_
          refine v_iinc (ls' := [some (pA a0), some (pI a1), some (pI s6.1), some (pI s6.2), some (pI (w32 (s9.1 + r15))), some (pI (w32 (s9.2 + 1)))]) dX8_can_60 (by decide) rfl rfl ?_
          refine v_goto (tgt := 25) dX8_can_63 (by decide) ?_
          exact hrec8 (w32 (s9.1 + r15), w32 (s9.2 + 1))
      · refine v_iload_n dX8_can_66 rfl ?_
        refine v_iload dX8_can_67 rfl ?_
        refine v_aload_n dX8_can_69 rfl ?_
        refine v_get (v := pA (M.1 a0 3)) 8 3 rfl inX9 (by decide) tw325 dX8_can_70 h3 rfl ?_
        refine v_iconst dX8_can_73 (by decide) ?_
        refine v_iload_n dX8_can_74 rfl ?_
        refine v_imul dX8_can_75 ?_
        refine v_iload_n dX8_can_76 rfl ?_
        refine v_iadd dX8_can_77 ?_
        refine v_if (fun h17 => ?_)
        refine v_iaload h17 dX8_can_78 ?_
        refine v_mmin (mi := mX8_can) tw1089 tw469 tw12 tw470 (Nat.le_of_ble_eq_true rfl) dX8_can_79 ?_
        refine v_iadd dX8_can_82 ?_
        refine v_istore_n (ls' := [some (pA a0), some (pI a1), some (pI (w32 (s6.1 + (imin s9.1 (M.1 (M.1 a0 3) (w32 ((w32 (5 * a1)) + s6.2))))))), some (pI s6.2), some (pI s9.1), some (pI s9.2)]) dX8_can_83 (by decide) rfl ?_
        refine v_iinc (ls' := [some (pA a0), some (pI a1), some (pI (w32 (s6.1 + (imin s9.1 (M.1 (M.1 a0 3) (w32 ((w32 (5 * a1)) + s6.2))))))), some (pI (w32 (s6.2 + 1))), some (pI s9.1), some (pI s9.2)]) dX8_can_84 (by decide) rfl rfl ?_
        refine v_goto (tgt := 14) dX8_can_87 (by decide) ?_
        exact v_drop [some (pA a0), some (pI a1), some (pI (w32 (s6.1 + (imin s9.1 (M.1 (M.1 a0 3) (w32 ((w32 (5 * a1)) + s6.2))))))), some (pI (w32 (s6.2 + 1))), none, none] (ls_s (ls_s (ls_s (ls_s (ls_n (ls_n ls_e)))))) (hrec5 (w32 (s6.1 + (imin s9.1 (M.1 (M.1 a0 3) (w32 ((w32 (5 * a1)) + s6.2))))), w32 (s6.2 + 1)))
    · refine v_iload_n dX8_can_90 rfl ?_
      exact v_ireturn dX8_can_91 rfl rfl
