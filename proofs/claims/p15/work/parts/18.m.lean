theorem chX11_sightLine_0 : (cX11_sightLine.data.toList.drop 0).take 16 = [31, 20, 0, 230, 148, 153, 0, 16, 31, 20, 0, 232, 148, 153, 0, 8] := by decide +kernel
theorem chX11_sightLine_1 : (cX11_sightLine.data.toList.drop 16).take 16 = [42, 182, 0, 138, 172, 31, 20, 0, 230, 148, 154, 0, 11, 42, 3, 16] := by decide +kernel
theorem chX11_sightLine_2 : (cX11_sightLine.data.toList.drop 32).take 16 = [8, 29, 182, 0, 195, 42, 182, 0, 150, 42, 3, 3, 8, 182, 0, 157] := by decide +kernel
theorem chX11_sightLine_3 : (cX11_sightLine.data.toList.drop 48).take 16 = [153, 0, 13, 42, 4, 3, 7, 182, 0, 157, 154, 0, 5, 3, 172, 31] := by decide +kernel
theorem chX11_sightLine_4 : (cX11_sightLine.data.toList.drop 64).take 16 = [20, 0, 230, 148, 154, 0, 14, 42, 3, 4, 5, 16, 8, 182, 0, 212] := by decide +kernel
theorem chX11_sightLine_5 : (cX11_sightLine.data.toList.drop 80).take 16 = [4, 172, 42, 5, 3, 16, 18, 182, 0, 157, 154, 0, 5, 3, 172, 42] := by decide +kernel
theorem chX11_sightLine_6 : (cX11_sightLine.data.toList.drop 96).take 16 = [16, 17, 8, 42, 180, 0, 41, 3, 46, 104, 96, 42, 180, 0, 41, 4] := by decide +kernel
theorem chX11_sightLine_7 : (cX11_sightLine.data.toList.drop 112).take 16 = [46, 96, 42, 180, 0, 41, 5, 46, 182, 0, 171, 4, 172] := by decide +kernel
theorem dX11_sightLine_0 : decode cX11_sightLine 0 = .ok (.lload_n 1, 1) := oq_31 (byt chX11_sightLine_0 0 rfl)
theorem dX11_sightLine_1 : decode cX11_sightLine 1 = .ok (.ldc2_w 230, 3) := oq_20 (byt chX11_sightLine_0 1 rfl) (byt chX11_sightLine_0 2 rfl) (byt chX11_sightLine_0 3 rfl) rfl
theorem dX11_sightLine_4 : decode cX11_sightLine 4 = .ok (.lcmp, 1) := oq_148 (byt chX11_sightLine_0 4 rfl)
theorem dX11_sightLine_5 : decode cX11_sightLine 5 = .ok (.ifCond .eq 16, 3) := oq_153 (byt chX11_sightLine_0 5 rfl) (byt chX11_sightLine_0 6 rfl) (byt chX11_sightLine_0 7 rfl) (by decide +kernel)
theorem dX11_sightLine_8 : decode cX11_sightLine 8 = .ok (.lload_n 1, 1) := oq_31 (byt chX11_sightLine_0 8 rfl)
theorem dX11_sightLine_9 : decode cX11_sightLine 9 = .ok (.ldc2_w 232, 3) := oq_20 (byt chX11_sightLine_0 9 rfl) (byt chX11_sightLine_0 10 rfl) (byt chX11_sightLine_0 11 rfl) rfl
theorem dX11_sightLine_12 : decode cX11_sightLine 12 = .ok (.lcmp, 1) := oq_148 (byt chX11_sightLine_0 12 rfl)
theorem dX11_sightLine_13 : decode cX11_sightLine 13 = .ok (.ifCond .eq 8, 3) := oq_153 (byt chX11_sightLine_0 13 rfl) (byt chX11_sightLine_0 14 rfl) (byt chX11_sightLine_0 15 rfl) (by decide +kernel)
theorem dX11_sightLine_16 : decode cX11_sightLine 16 = .ok (.aload_n 0, 1) := oq_42 (byt chX11_sightLine_1 0 rfl)
theorem dX11_sightLine_17 : decode cX11_sightLine 17 = .ok (.invokevirtual 138, 3) := oq_182 (byt chX11_sightLine_1 1 rfl) (byt chX11_sightLine_1 2 rfl) (byt chX11_sightLine_1 3 rfl) rfl
theorem dX11_sightLine_20 : decode cX11_sightLine 20 = .ok (.ireturn, 1) := oq_172 (byt chX11_sightLine_1 4 rfl)
theorem dX11_sightLine_21 : decode cX11_sightLine 21 = .ok (.lload_n 1, 1) := oq_31 (byt chX11_sightLine_1 5 rfl)
theorem dX11_sightLine_22 : decode cX11_sightLine 22 = .ok (.ldc2_w 230, 3) := oq_20 (byt chX11_sightLine_1 6 rfl) (byt chX11_sightLine_1 7 rfl) (byt chX11_sightLine_1 8 rfl) rfl
theorem dX11_sightLine_25 : decode cX11_sightLine 25 = .ok (.lcmp, 1) := oq_148 (byt chX11_sightLine_1 9 rfl)
theorem dX11_sightLine_26 : decode cX11_sightLine 26 = .ok (.ifCond .ne 11, 3) := oq_154 (byt chX11_sightLine_1 10 rfl) (byt chX11_sightLine_1 11 rfl) (byt chX11_sightLine_1 12 rfl) (by decide +kernel)
theorem dX11_sightLine_29 : decode cX11_sightLine 29 = .ok (.aload_n 0, 1) := oq_42 (byt chX11_sightLine_1 13 rfl)
theorem dX11_sightLine_30 : decode cX11_sightLine 30 = .ok (.iconst 0, 1) := oq_3 (byt chX11_sightLine_1 14 rfl)
theorem dX11_sightLine_31 : decode cX11_sightLine 31 = .ok (.bipush 8, 2) := oq_16 (byt chX11_sightLine_1 15 rfl) (byt chX11_sightLine_2 0 rfl) rfl
theorem dX11_sightLine_33 : decode cX11_sightLine 33 = .ok (.iload_n 3, 1) := oq_29 (byt chX11_sightLine_2 1 rfl)
theorem dX11_sightLine_34 : decode cX11_sightLine 34 = .ok (.invokevirtual 195, 3) := oq_182 (byt chX11_sightLine_2 2 rfl) (byt chX11_sightLine_2 3 rfl) (byt chX11_sightLine_2 4 rfl) rfl
theorem dX11_sightLine_37 : decode cX11_sightLine 37 = .ok (.aload_n 0, 1) := oq_42 (byt chX11_sightLine_2 5 rfl)
theorem dX11_sightLine_38 : decode cX11_sightLine 38 = .ok (.invokevirtual 150, 3) := oq_182 (byt chX11_sightLine_2 6 rfl) (byt chX11_sightLine_2 7 rfl) (byt chX11_sightLine_2 8 rfl) rfl
theorem dX11_sightLine_41 : decode cX11_sightLine 41 = .ok (.aload_n 0, 1) := oq_42 (byt chX11_sightLine_2 9 rfl)
theorem dX11_sightLine_42 : decode cX11_sightLine 42 = .ok (.iconst 0, 1) := oq_3 (byt chX11_sightLine_2 10 rfl)
theorem dX11_sightLine_43 : decode cX11_sightLine 43 = .ok (.iconst 0, 1) := oq_3 (byt chX11_sightLine_2 11 rfl)
theorem dX11_sightLine_44 : decode cX11_sightLine 44 = .ok (.iconst 5, 1) := oq_8 (byt chX11_sightLine_2 12 rfl)
theorem dX11_sightLine_45 : decode cX11_sightLine 45 = .ok (.invokevirtual 157, 3) := oq_182 (byt chX11_sightLine_2 13 rfl) (byt chX11_sightLine_2 14 rfl) (byt chX11_sightLine_2 15 rfl) rfl
theorem dX11_sightLine_48 : decode cX11_sightLine 48 = .ok (.ifCond .eq 13, 3) := oq_153 (byt chX11_sightLine_3 0 rfl) (byt chX11_sightLine_3 1 rfl) (byt chX11_sightLine_3 2 rfl) (by decide +kernel)
theorem dX11_sightLine_51 : decode cX11_sightLine 51 = .ok (.aload_n 0, 1) := oq_42 (byt chX11_sightLine_3 3 rfl)
theorem dX11_sightLine_52 : decode cX11_sightLine 52 = .ok (.iconst 1, 1) := oq_4 (byt chX11_sightLine_3 4 rfl)
theorem dX11_sightLine_53 : decode cX11_sightLine 53 = .ok (.iconst 0, 1) := oq_3 (byt chX11_sightLine_3 5 rfl)
theorem dX11_sightLine_54 : decode cX11_sightLine 54 = .ok (.iconst 4, 1) := oq_7 (byt chX11_sightLine_3 6 rfl)
theorem dX11_sightLine_55 : decode cX11_sightLine 55 = .ok (.invokevirtual 157, 3) := oq_182 (byt chX11_sightLine_3 7 rfl) (byt chX11_sightLine_3 8 rfl) (byt chX11_sightLine_3 9 rfl) rfl
theorem dX11_sightLine_58 : decode cX11_sightLine 58 = .ok (.ifCond .ne 5, 3) := oq_154 (byt chX11_sightLine_3 10 rfl) (byt chX11_sightLine_3 11 rfl) (byt chX11_sightLine_3 12 rfl) (by decide +kernel)
theorem dX11_sightLine_61 : decode cX11_sightLine 61 = .ok (.iconst 0, 1) := oq_3 (byt chX11_sightLine_3 13 rfl)
theorem dX11_sightLine_62 : decode cX11_sightLine 62 = .ok (.ireturn, 1) := oq_172 (byt chX11_sightLine_3 14 rfl)
theorem dX11_sightLine_63 : decode cX11_sightLine 63 = .ok (.lload_n 1, 1) := oq_31 (byt chX11_sightLine_3 15 rfl)
theorem dX11_sightLine_64 : decode cX11_sightLine 64 = .ok (.ldc2_w 230, 3) := oq_20 (byt chX11_sightLine_4 0 rfl) (byt chX11_sightLine_4 1 rfl) (byt chX11_sightLine_4 2 rfl) rfl
theorem dX11_sightLine_67 : decode cX11_sightLine 67 = .ok (.lcmp, 1) := oq_148 (byt chX11_sightLine_4 3 rfl)
theorem dX11_sightLine_68 : decode cX11_sightLine 68 = .ok (.ifCond .ne 14, 3) := oq_154 (byt chX11_sightLine_4 4 rfl) (byt chX11_sightLine_4 5 rfl) (byt chX11_sightLine_4 6 rfl) (by decide +kernel)
theorem dX11_sightLine_71 : decode cX11_sightLine 71 = .ok (.aload_n 0, 1) := oq_42 (byt chX11_sightLine_4 7 rfl)
theorem dX11_sightLine_72 : decode cX11_sightLine 72 = .ok (.iconst 0, 1) := oq_3 (byt chX11_sightLine_4 8 rfl)
theorem dX11_sightLine_73 : decode cX11_sightLine 73 = .ok (.iconst 1, 1) := oq_4 (byt chX11_sightLine_4 9 rfl)
theorem dX11_sightLine_74 : decode cX11_sightLine 74 = .ok (.iconst 2, 1) := oq_5 (byt chX11_sightLine_4 10 rfl)
theorem dX11_sightLine_75 : decode cX11_sightLine 75 = .ok (.bipush 8, 2) := oq_16 (byt chX11_sightLine_4 11 rfl) (byt chX11_sightLine_4 12 rfl) rfl
theorem dX11_sightLine_77 : decode cX11_sightLine 77 = .ok (.invokevirtual 212, 3) := oq_182 (byt chX11_sightLine_4 13 rfl) (byt chX11_sightLine_4 14 rfl) (byt chX11_sightLine_4 15 rfl) rfl
theorem dX11_sightLine_80 : decode cX11_sightLine 80 = .ok (.iconst 1, 1) := oq_4 (byt chX11_sightLine_5 0 rfl)
theorem dX11_sightLine_81 : decode cX11_sightLine 81 = .ok (.ireturn, 1) := oq_172 (byt chX11_sightLine_5 1 rfl)
theorem dX11_sightLine_82 : decode cX11_sightLine 82 = .ok (.aload_n 0, 1) := oq_42 (byt chX11_sightLine_5 2 rfl)
theorem dX11_sightLine_83 : decode cX11_sightLine 83 = .ok (.iconst 2, 1) := oq_5 (byt chX11_sightLine_5 3 rfl)
theorem dX11_sightLine_84 : decode cX11_sightLine 84 = .ok (.iconst 0, 1) := oq_3 (byt chX11_sightLine_5 4 rfl)
theorem dX11_sightLine_85 : decode cX11_sightLine 85 = .ok (.bipush 18, 2) := oq_16 (byt chX11_sightLine_5 5 rfl) (byt chX11_sightLine_5 6 rfl) rfl
theorem dX11_sightLine_87 : decode cX11_sightLine 87 = .ok (.invokevirtual 157, 3) := oq_182 (byt chX11_sightLine_5 7 rfl) (byt chX11_sightLine_5 8 rfl) (byt chX11_sightLine_5 9 rfl) rfl
theorem dX11_sightLine_90 : decode cX11_sightLine 90 = .ok (.ifCond .ne 5, 3) := oq_154 (byt chX11_sightLine_5 10 rfl) (byt chX11_sightLine_5 11 rfl) (byt chX11_sightLine_5 12 rfl) (by decide +kernel)
theorem dX11_sightLine_93 : decode cX11_sightLine 93 = .ok (.iconst 0, 1) := oq_3 (byt chX11_sightLine_5 13 rfl)
theorem dX11_sightLine_94 : decode cX11_sightLine 94 = .ok (.ireturn, 1) := oq_172 (byt chX11_sightLine_5 14 rfl)
theorem dX11_sightLine_95 : decode cX11_sightLine 95 = .ok (.aload_n 0, 1) := oq_42 (byt chX11_sightLine_5 15 rfl)
theorem dX11_sightLine_96 : decode cX11_sightLine 96 = .ok (.bipush 17, 2) := oq_16 (byt chX11_sightLine_6 0 rfl) (byt chX11_sightLine_6 1 rfl) rfl
theorem dX11_sightLine_98 : decode cX11_sightLine 98 = .ok (.iconst 5, 1) := oq_8 (byt chX11_sightLine_6 2 rfl)
theorem dX11_sightLine_99 : decode cX11_sightLine 99 = .ok (.aload_n 0, 1) := oq_42 (byt chX11_sightLine_6 3 rfl)
theorem dX11_sightLine_100 : decode cX11_sightLine 100 = .ok (.getfield 41, 3) := oq_180 (byt chX11_sightLine_6 4 rfl) (byt chX11_sightLine_6 5 rfl) (byt chX11_sightLine_6 6 rfl) rfl
theorem dX11_sightLine_103 : decode cX11_sightLine 103 = .ok (.iconst 0, 1) := oq_3 (byt chX11_sightLine_6 7 rfl)
theorem dX11_sightLine_104 : decode cX11_sightLine 104 = .ok (.iaload, 1) := oq_46 (byt chX11_sightLine_6 8 rfl)
theorem dX11_sightLine_105 : decode cX11_sightLine 105 = .ok (.imul, 1) := oq_104 (byt chX11_sightLine_6 9 rfl)
theorem dX11_sightLine_106 : decode cX11_sightLine 106 = .ok (.iadd, 1) := oq_96 (byt chX11_sightLine_6 10 rfl)
theorem dX11_sightLine_107 : decode cX11_sightLine 107 = .ok (.aload_n 0, 1) := oq_42 (byt chX11_sightLine_6 11 rfl)
theorem dX11_sightLine_108 : decode cX11_sightLine 108 = .ok (.getfield 41, 3) := oq_180 (byt chX11_sightLine_6 12 rfl) (byt chX11_sightLine_6 13 rfl) (byt chX11_sightLine_6 14 rfl) rfl
theorem dX11_sightLine_111 : decode cX11_sightLine 111 = .ok (.iconst 1, 1) := oq_4 (byt chX11_sightLine_6 15 rfl)
theorem dX11_sightLine_112 : decode cX11_sightLine 112 = .ok (.iaload, 1) := oq_46 (byt chX11_sightLine_7 0 rfl)
theorem dX11_sightLine_113 : decode cX11_sightLine 113 = .ok (.iadd, 1) := oq_96 (byt chX11_sightLine_7 1 rfl)
theorem dX11_sightLine_114 : decode cX11_sightLine 114 = .ok (.aload_n 0, 1) := oq_42 (byt chX11_sightLine_7 2 rfl)
theorem dX11_sightLine_115 : decode cX11_sightLine 115 = .ok (.getfield 41, 3) := oq_180 (byt chX11_sightLine_7 3 rfl) (byt chX11_sightLine_7 4 rfl) (byt chX11_sightLine_7 5 rfl) rfl
theorem dX11_sightLine_118 : decode cX11_sightLine 118 = .ok (.iconst 2, 1) := oq_5 (byt chX11_sightLine_7 6 rfl)
theorem dX11_sightLine_119 : decode cX11_sightLine 119 = .ok (.iaload, 1) := oq_46 (byt chX11_sightLine_7 7 rfl)
theorem dX11_sightLine_120 : decode cX11_sightLine 120 = .ok (.invokevirtual 171, 3) := oq_182 (byt chX11_sightLine_7 8 rfl) (byt chX11_sightLine_7 9 rfl) (byt chX11_sightLine_7 10 rfl) rfl
theorem dX11_sightLine_123 : decode cX11_sightLine 123 = .ok (.iconst 1, 1) := oq_4 (byt chX11_sightLine_7 11 rfl)
theorem dX11_sightLine_124 : decode cX11_sightLine 124 = .ok (.ireturn, 1) := oq_172 (byt chX11_sightLine_7 12 rfl)
abbrev mX11_sightLine : MI := (yX11_sightLine, cX11_sightLine, 4, (some .boolean), noE)
theorem okX11_sightLine : cok mX11_sightLine 2 := ⟨tw1481, tw11, by decide, by decide, by decide, by decide +kernel⟩
def fX11_sightLine (M : Mem) (a0 a1 a2 : Int) : Option (Int × Mem) :=
  jn (fun (t2 : Unit) => jn (fun (t4 : Mem) => if t4.2.1 a0 = 10 then (fX11_token t4 a0).bind fun r5 => if r5.2.1 a0 = 10 then (fX11_take r5 a0 0 0 5).bind fun r8 => if r8.1 = 0 then (some (0, r8.2)) else (if r8.2.2.1 a0 = 10 then (fX11_take r8.2 a0 1 0 4).bind fun r12 => if r12.1 = 0 then (some (0, r12.2)) else (if lcmp a1 444150998382 = 0 then (if r12.2.2.1 a0 = 10 then (fX11_keep r12.2 a0 0 1 2 8).bind fun r17 => some (1, r17) else none) else (if r12.2.2.1 a0 = 10 then (fX11_take r12.2 a0 2 0 18).bind fun r20 => if r20.1 = 0 then (some (0, r20.2)) else (if r20.2.2.1 a0 = 10 then if r20.2.2.1 (r20.2.1 a0 20) = 12 ∧ (0 : Int) ≤ 0 ∧ 0 < r20.2.2.2.1 (r20.2.1 a0 20) then if r20.2.2.1 (r20.2.1 a0 20) = 12 ∧ (0 : Int) ≤ 1 ∧ 1 < r20.2.2.2.1 (r20.2.1 a0 20) then if r20.2.2.1 (r20.2.1 a0 20) = 12 ∧ (0 : Int) ≤ 2 ∧ 2 < r20.2.2.2.1 (r20.2.1 a0 20) then (fX11_lay r20.2 a0 (w32 ((w32 (17 + (w32 (5 * (r20.2.1 (r20.2.1 a0 20) 0))))) + (r20.2.1 (r20.2.1 a0 20) 1))) (r20.2.1 (r20.2.1 a0 20) 2)).bind fun r28 => some (1, r28) else none else none else none else none) else none)) else none) else none else none) (fun (j3 : Mem → Option (Int × Mem)) => if lcmp a1 444150998382 = 0 then (if M.2.1 a0 = 10 then (fX11_full M a0 0 8 a2).bind fun r31 => j3 r31 else none) else (j3 M))) (fun (j1 : Unit → Option (Int × Mem)) => if lcmp a1 444150998382 = 0 then (j1 ()) else (if lcmp a1 1818584692 = 0 then (j1 ()) else (if M.2.1 a0 = 10 then (fX11_fails M a0).bind fun r36 => if r36.1 = 0 ∨ r36.1 = 1 then some (r36.1, r36.2) else none else none)))
set_option maxRecDepth 100000 in
set_option maxHeartbeats 4000000 in
theorem kX11_sightLine (d : Nat) (hd : 4 ≤ d) (M : Mem) (a0 a1 a2 : Int) : Ct mX11_sightLine d 0 0 [pA a0, pL a1, pI a2] M dIM (fX11_sightLine M a0 a1 a2) := by
  obtain ⟨d, rfl⟩ : ∃ k, d = k + 1 := ⟨d - 1, by omega⟩
  refine Ct.of 0 (fun _ _ _ => trivial) (by decide +kernel) rfl ?_
  unfold fX11_sightLine
  refine v_lload_n dX11_sightLine_0 rfl ?_
  refine v_ldc2 (n := 444150998382) dX11_sightLine_1 (by decide) tw1482 ?_
  refine v_lcmp dX11_sightLine_4 ?_
  refine v_join (fun (t2 : Unit) => [some (pA a0), some (pL a1), none, some (pI a2)]) (fun (t2 : Unit) => []) (fun (t2 : Unit) => M) 21 (fun t2 => ?_) (fun j1 hj1 => ?_)
  · refine v_lload_n dX11_sightLine_21 rfl ?_
    refine v_ldc2 (n := 444150998382) dX11_sightLine_22 (by decide) tw1482 ?_
    refine v_lcmp dX11_sightLine_25 ?_
    refine v_join (fun (t4 : Mem) => [some (pA a0), some (pL a1), none, none]) (fun (t4 : Mem) => []) (fun (t4 : Mem) => t4) 37 (fun t4 => ?_) (fun j3 hj3 => ?_)
    · refine v_aload_n dX11_sightLine_37 rfl ?_
      refine v_if (fun h7 => ?_)
      refine v_cV (mi := mX11_sightLine) (c0 := 0) (c1 := 0) (As := []) (st := []) (kX11_token d (by omega) _ _) rfl h7 rfl okX11_token (Or.inl tw1383) tw1385 tp32 rfl (Nat.le_of_ble_eq_true rfl) dX11_sightLine_38 (fun r5 => []) (fun r5 => r5) (fun _ => rfl) (fun _ => rfl) (fun r5 h6 => ?_) rfl
      refine v_aload_n dX11_sightLine_41 rfl ?_
      refine v_iconst dX11_sightLine_42 (by decide) ?_
      refine v_iconst dX11_sightLine_43 (by decide) ?_
      refine v_iconst dX11_sightLine_44 (by decide) ?_
      refine v_if (fun h10 => ?_)
      refine v_cV (mi := mX11_sightLine) (c0 := 0) (c1 := 0) (As := [pI 0, pI 0, pI 5]) (st := []) (kX11_take d (by omega) _ _ _ _ _) rfl h10 rfl okX11_take (Or.inl tw1432) tw1434 tp42 rfl (Nat.le_of_ble_eq_true rfl) dX11_sightLine_45 (fun r8 => [pI r8.1]) (fun r8 => r8.2) (fun _ => rfl) (fun _ => rfl) (fun r8 h9 => ?_) rfl
      refine v_if_eq (tgt := 61) dX11_sightLine_48 (by decide) (fun c11 => ?_) (fun c11 => ?_)
      · refine v_iconst dX11_sightLine_61 (by decide) ?_
        exact v_breturn dX11_sightLine_62 rfl (by decide) rfl
      · refine v_aload_n dX11_sightLine_51 rfl ?_
        refine v_iconst dX11_sightLine_52 (by decide) ?_
        refine v_iconst dX11_sightLine_53 (by decide) ?_
        refine v_iconst dX11_sightLine_54 (by decide) ?_
        refine v_if (fun h14 => ?_)
        refine v_cV (mi := mX11_sightLine) (c0 := 0) (c1 := 0) (As := [pI 1, pI 0, pI 4]) (st := []) (kX11_take d (by omega) _ _ _ _ _) rfl h14 rfl okX11_take (Or.inl tw1432) tw1434 tp42 rfl (Nat.le_of_ble_eq_true rfl) dX11_sightLine_55 (fun r12 => [pI r12.1]) (fun r12 => r12.2) (fun _ => rfl) (fun _ => rfl) (fun r12 h13 => ?_) rfl
        refine v_if_ne (tgt := 63) dX11_sightLine_58 (by decide) (fun c15 => ?_) (fun c15 => ?_)
        · refine v_iconst dX11_sightLine_61 (by decide) ?_
          exact v_breturn dX11_sightLine_62 rfl (by decide) rfl
        · refine v_lload_n dX11_sightLine_63 rfl ?_
          refine v_ldc2 (n := 444150998382) dX11_sightLine_64 (by decide) tw1482 ?_
          refine v_lcmp dX11_sightLine_67 ?_
          refine v_if_ne (tgt := 82) dX11_sightLine_68 (by decide) (fun c16 => ?_) (fun c16 => ?_)
          · refine v_aload_n dX11_sightLine_71 rfl ?_
            refine v_iconst dX11_sightLine_72 (by decide) ?_
            refine v_iconst dX11_sightLine_73 (by decide) ?_
            refine v_iconst dX11_sightLine_74 (by decide) ?_
            refine v_bipush dX11_sightLine_75 (by decide) ?_
            refine v_if (fun h19 => ?_)
            refine v_cV (mi := mX11_sightLine) (c0 := 0) (c1 := 0) (As := [pI 0, pI 1, pI 2, pI 8]) (st := []) (kX11_keep d (by omega) _ _ _ _ _ _) rfl h19 rfl okX11_keep (Or.inl tw1459) tw1461 tp48 rfl (Nat.le_of_ble_eq_true rfl) dX11_sightLine_77 (fun r17 => []) (fun r17 => r17) (fun _ => rfl) (fun _ => rfl) (fun r17 h18 => ?_) rfl
            refine v_iconst dX11_sightLine_80 (by decide) ?_
            exact v_breturn dX11_sightLine_81 rfl (by decide) rfl
          · refine v_aload_n dX11_sightLine_82 rfl ?_
            refine v_iconst dX11_sightLine_83 (by decide) ?_
            refine v_iconst dX11_sightLine_84 (by decide) ?_
            refine v_bipush dX11_sightLine_85 (by decide) ?_
            refine v_if (fun h22 => ?_)
            refine v_cV (mi := mX11_sightLine) (c0 := 0) (c1 := 0) (As := [pI 2, pI 0, pI 18]) (st := []) (kX11_take d (by omega) _ _ _ _ _) rfl h22 rfl okX11_take (Or.inl tw1432) tw1434 tp42 rfl (Nat.le_of_ble_eq_true rfl) dX11_sightLine_87 (fun r20 => [pI r20.1]) (fun r20 => r20.2) (fun _ => rfl) (fun _ => rfl) (fun r20 h21 => ?_) rfl
            refine v_if_ne (tgt := 95) dX11_sightLine_90 (by decide) (fun c23 => ?_) (fun c23 => ?_)
            · refine v_iconst dX11_sightLine_93 (by decide) ?_
              exact v_breturn dX11_sightLine_94 rfl (by decide) rfl
            · refine v_aload_n dX11_sightLine_95 rfl ?_
              refine v_bipush dX11_sightLine_96 (by decide) ?_
              refine v_iconst dX11_sightLine_98 (by decide) ?_
              refine v_aload_n dX11_sightLine_99 rfl ?_
              refine v_if (fun h24 => ?_)
              refine v_get (v := pA (r20.2.1 a0 20)) 10 20 rfl inX11 (by decide) tw1213 dX11_sightLine_100 h24 rfl ?_
              refine v_iconst dX11_sightLine_103 (by decide) ?_
              refine v_if (fun h25 => ?_)
              refine v_iaload h25 dX11_sightLine_104 ?_
              refine v_imul dX11_sightLine_105 ?_
              refine v_iadd dX11_sightLine_106 ?_
              refine v_aload_n dX11_sightLine_107 rfl ?_
              refine v_get (v := pA (r20.2.1 a0 20)) 10 20 rfl inX11 (by decide) tw1213 dX11_sightLine_108 h24 rfl ?_
              refine v_iconst dX11_sightLine_111 (by decide) ?_
              refine v_if (fun h26 => ?_)
              refine v_iaload h26 dX11_sightLine_112 ?_
              refine v_iadd dX11_sightLine_113 ?_
              refine v_aload_n dX11_sightLine_114 rfl ?_
              refine v_get (v := pA (r20.2.1 a0 20)) 10 20 rfl inX11 (by decide) tw1213 dX11_sightLine_115 h24 rfl ?_
              refine v_iconst dX11_sightLine_118 (by decide) ?_
              refine v_if (fun h27 => ?_)
              refine v_iaload h27 dX11_sightLine_119 ?_
              refine v_cV (mi := mX11_sightLine) (c0 := 0) (c1 := 0) (As := [pI (w32 ((w32 (17 + (w32 (5 * (r20.2.1 (r20.2.1 a0 20) 0))))) + (r20.2.1 (r20.2.1 a0 20) 1))), pI (r20.2.1 (r20.2.1 a0 20) 2)]) (st := []) (kX11_lay d (by omega) _ _ _ _) rfl h24 rfl okX11_lay (Or.inl tw1443) tw1445 tp44 rfl (Nat.le_of_ble_eq_true rfl) dX11_sightLine_120 (fun r28 => []) (fun r28 => r28) (fun _ => rfl) (fun _ => rfl) (fun r28 h29 => ?_) rfl
              refine v_iconst dX11_sightLine_123 (by decide) ?_
              exact v_breturn dX11_sightLine_124 rfl (by decide) rfl
    · refine v_if_ne (tgt := 37) dX11_sightLine_26 (by decide) (fun c30 => ?_) (fun c30 => ?_)
      · refine v_aload_n dX11_sightLine_29 rfl ?_
        refine v_iconst dX11_sightLine_30 (by decide) ?_
        refine v_bipush dX11_sightLine_31 (by decide) ?_
        refine v_iload_n dX11_sightLine_33 rfl ?_
        refine v_if (fun h33 => ?_)
        refine v_cV (mi := mX11_sightLine) (c0 := 0) (c1 := 0) (As := [pI 0, pI 8, pI a2]) (st := []) (kX11_full d (by omega) _ _ _ _ _) rfl h33 rfl okX11_full (Or.inl tw1416) tw1418 tp38 rfl (Nat.le_of_ble_eq_true rfl) dX11_sightLine_34 (fun r31 => []) (fun r31 => r31) (fun _ => rfl) (fun _ => rfl) (fun r31 h32 => ?_) rfl
        exact v_drop [some (pA a0), some (pL a1), none, none] (ls_s (ls_s (ls_n (ls_n ls_e)))) (hj3 r31)
      · exact v_drop [some (pA a0), some (pL a1), none, none] (ls_s (ls_s (ls_n (ls_n ls_e)))) (hj3 M)
  · refine v_if_eq (tgt := 21) dX11_sightLine_5 (by decide) (fun c34 => ?_) (fun c34 => ?_)
    · exact hj1 ()
    · refine v_lload_n dX11_sightLine_8 rfl ?_
      refine v_ldc2 (n := 1818584692) dX11_sightLine_9 (by decide) tw1483 ?_
      refine v_lcmp dX11_sightLine_12 ?_
      refine v_if_eq (tgt := 21) dX11_sightLine_13 (by decide) (fun c35 => ?_) (fun c35 => ?_)
      · exact hj1 ()
      · refine v_aload_n dX11_sightLine_16 rfl ?_
        refine v_if (fun h38 => ?_)
        refine v_cV (mi := mX11_sightLine) (c0 := 0) (c1 := 0) (As := []) (st := []) (kX11_fails d (by omega) _ _) rfl h38 rfl okX11_fails (Or.inl tw1412) tw1414 tp37 rfl (Nat.le_of_ble_eq_true rfl) dX11_sightLine_17 (fun r36 => [pI r36.1]) (fun r36 => r36.2) (fun _ => rfl) (fun _ => rfl) (fun r36 h37 => ?_) rfl
        refine v_if (fun h39 => ?_)
        exact v_breturn dX11_sightLine_20 rfl h39 rfl
theorem chX11_lineOf_0 : (cX11_lineOf.data.toList.drop 0).take 16 = [27, 170, 0, 0, 0, 0, 0, 49, 0, 0, 0, 0, 0, 0, 0, 2] := by decide +kernel
theorem chX11_lineOf_1 : (cX11_lineOf.data.toList.drop 16).take 16 = [0, 0, 0, 27, 0, 0, 0, 35, 0, 0, 0, 41, 42, 32, 21, 4] := by decide +kernel
theorem chX11_lineOf_2 : (cX11_lineOf.data.toList.drop 32).take 16 = [182, 0, 234, 172, 42, 32, 182, 0, 238, 172, 42, 32, 21, 4, 182, 0] := by decide +kernel
theorem chX11_lineOf_3 : (cX11_lineOf.data.toList.drop 48).take 16 = [241, 172, 42, 32, 21, 4, 182, 0, 244, 172] := by decide +kernel
theorem dX11_lineOf_0 : decode cX11_lineOf 0 = .ok (.iload_n 1, 1) := oq_27 (byt chX11_lineOf_0 0 rfl)
theorem dX11_lineOf_1 : decode cX11_lineOf 1 = .ok (.tableswitch 49 0 2 #[27, 35, 41], 27) := by decide +kernel
theorem dX11_lineOf_28 : decode cX11_lineOf 28 = .ok (.aload_n 0, 1) := oq_42 (byt chX11_lineOf_1 12 rfl)
theorem dX11_lineOf_29 : decode cX11_lineOf 29 = .ok (.lload_n 2, 1) := oq_32 (byt chX11_lineOf_1 13 rfl)
theorem dX11_lineOf_30 : decode cX11_lineOf 30 = .ok (.iload 4, 2) := oq_21 (byt chX11_lineOf_1 14 rfl) (byt chX11_lineOf_1 15 rfl) rfl
theorem dX11_lineOf_32 : decode cX11_lineOf 32 = .ok (.invokevirtual 234, 3) := oq_182 (byt chX11_lineOf_2 0 rfl) (byt chX11_lineOf_2 1 rfl) (byt chX11_lineOf_2 2 rfl) rfl
theorem dX11_lineOf_35 : decode cX11_lineOf 35 = .ok (.ireturn, 1) := oq_172 (byt chX11_lineOf_2 3 rfl)
theorem dX11_lineOf_36 : decode cX11_lineOf 36 = .ok (.aload_n 0, 1) := oq_42 (byt chX11_lineOf_2 4 rfl)
theorem dX11_lineOf_37 : decode cX11_lineOf 37 = .ok (.lload_n 2, 1) := oq_32 (byt chX11_lineOf_2 5 rfl)
theorem dX11_lineOf_38 : decode cX11_lineOf 38 = .ok (.invokevirtual 238, 3) := oq_182 (byt chX11_lineOf_2 6 rfl) (byt chX11_lineOf_2 7 rfl) (byt chX11_lineOf_2 8 rfl) rfl
theorem dX11_lineOf_41 : decode cX11_lineOf 41 = .ok (.ireturn, 1) := oq_172 (byt chX11_lineOf_2 9 rfl)
theorem dX11_lineOf_42 : decode cX11_lineOf 42 = .ok (.aload_n 0, 1) := oq_42 (byt chX11_lineOf_2 10 rfl)
theorem dX11_lineOf_43 : decode cX11_lineOf 43 = .ok (.lload_n 2, 1) := oq_32 (byt chX11_lineOf_2 11 rfl)
theorem dX11_lineOf_44 : decode cX11_lineOf 44 = .ok (.iload 4, 2) := oq_21 (byt chX11_lineOf_2 12 rfl) (byt chX11_lineOf_2 13 rfl) rfl
theorem dX11_lineOf_46 : decode cX11_lineOf 46 = .ok (.invokevirtual 241, 3) := oq_182 (byt chX11_lineOf_2 14 rfl) (byt chX11_lineOf_2 15 rfl) (byt chX11_lineOf_3 0 rfl) rfl
theorem dX11_lineOf_49 : decode cX11_lineOf 49 = .ok (.ireturn, 1) := oq_172 (byt chX11_lineOf_3 1 rfl)
theorem dX11_lineOf_50 : decode cX11_lineOf 50 = .ok (.aload_n 0, 1) := oq_42 (byt chX11_lineOf_3 2 rfl)
theorem dX11_lineOf_51 : decode cX11_lineOf 51 = .ok (.lload_n 2, 1) := oq_32 (byt chX11_lineOf_3 3 rfl)
theorem dX11_lineOf_52 : decode cX11_lineOf 52 = .ok (.iload 4, 2) := oq_21 (byt chX11_lineOf_3 4 rfl) (byt chX11_lineOf_3 5 rfl) rfl
theorem dX11_lineOf_54 : decode cX11_lineOf 54 = .ok (.invokevirtual 244, 3) := oq_182 (byt chX11_lineOf_3 6 rfl) (byt chX11_lineOf_3 7 rfl) (byt chX11_lineOf_3 8 rfl) rfl
theorem dX11_lineOf_57 : decode cX11_lineOf 57 = .ok (.ireturn, 1) := oq_172 (byt chX11_lineOf_3 9 rfl)
abbrev mX11_lineOf : MI := (yX11_lineOf, cX11_lineOf, 5, (some .boolean), noE)
theorem okX11_lineOf : cok mX11_lineOf 3 := ⟨tw1398, tw11, by decide, by decide, by decide, by decide +kernel⟩
def fX11_lineOf (M : Mem) (a0 a1 a2 a3 : Int) : Option (Int × Mem) :=
  if a1 = 0 then (if M.2.1 a0 = 10 then (fX11_townLine M a0 a2 a3).bind fun r2 => if r2.1 = 0 ∨ r2.1 = 1 then some (r2.1, r2.2) else none else none) else if a1 = 1 then (if M.2.1 a0 = 10 then (fX11_lawLine M a0 a2).bind fun r7 => if r7.1 = 0 ∨ r7.1 = 1 then some (r7.1, r7.2) else none else none) else if a1 = 2 then (if M.2.1 a0 = 10 then (fX11_nightsLine M a0 a2 a3).bind fun r12 => if r12.1 = 0 ∨ r12.1 = 1 then some (r12.1, r12.2) else none else none) else if M.2.1 a0 = 10 then (fX11_sightLine M a0 a2 a3).bind fun r16 => if r16.1 = 0 ∨ r16.1 = 1 then some (r16.1, r16.2) else none else none
set_option maxRecDepth 100000 in
set_option maxHeartbeats 4000000 in
theorem kX11_lineOf (d : Nat) (hd : 7 ≤ d) (M : Mem) (a0 a1 a2 a3 : Int) : Ct mX11_lineOf d 0 0 [pA a0, pI a1, pL a2, pI a3] M dIM (fX11_lineOf M a0 a1 a2 a3) := by
  obtain ⟨d, rfl⟩ : ∃ k, d = k + 1 := ⟨d - 1, by omega⟩
  refine Ct.of 0 (fun _ _ _ => trivial) (by decide +kernel) rfl ?_
  unfold fX11_lineOf
  refine v_iload_n dX11_lineOf_0 rfl ?_
  refine v_ite (fun h1 => ?_) (fun h1 => ?_)
  · refine v_tabIn (off := 27) (tgt := 28) dX11_lineOf_1 h1 (by decide) ?_
    refine v_aload_n dX11_lineOf_28 rfl ?_
    refine v_lload_n dX11_lineOf_29 rfl ?_
    refine v_iload dX11_lineOf_30 rfl ?_
    refine v_if (fun h4 => ?_)
    refine v_cV (mi := mX11_lineOf) (c0 := 0) (c1 := 0) (As := [pL a2, pI a3]) (st := []) (kX11_townLine d (by omega) _ _ _ _) rfl h4 rfl okX11_townLine (Or.inl tw1399) tw1401 tp36 rfl (Nat.le_of_ble_eq_true rfl) dX11_lineOf_32 (fun r2 => [pI r2.1]) (fun r2 => r2.2) (fun _ => rfl) (fun _ => rfl) (fun r2 h3 => ?_) rfl
    refine v_if (fun h5 => ?_)
    exact v_breturn dX11_lineOf_35 rfl h5 rfl
  · refine v_ite (fun h6 => ?_) (fun h6 => ?_)
    · refine v_tabIn (off := 35) (tgt := 36) dX11_lineOf_1 h6 (by decide) ?_
      refine v_aload_n dX11_lineOf_36 rfl ?_
      refine v_lload_n dX11_lineOf_37 rfl ?_
      refine v_if (fun h9 => ?_)
      refine v_cV (mi := mX11_lineOf) (c0 := 0) (c1 := 0) (As := [pL a2]) (st := []) (kX11_lawLine d (by omega) _ _ _) rfl h9 rfl okX11_lawLine (Or.inl tw1463) tw1465 tp49 rfl (Nat.le_of_ble_eq_true rfl) dX11_lineOf_38 (fun r7 => [pI r7.1]) (fun r7 => r7.2) (fun _ => rfl) (fun _ => rfl) (fun r7 h8 => ?_) rfl
      refine v_if (fun h10 => ?_)
      exact v_breturn dX11_lineOf_41 rfl h10 rfl
    · refine v_ite (fun h11 => ?_) (fun h11 => ?_)
      · refine v_tabIn (off := 41) (tgt := 42) dX11_lineOf_1 h11 (by decide) ?_
        refine v_aload_n dX11_lineOf_42 rfl ?_
        refine v_lload_n dX11_lineOf_43 rfl ?_
        refine v_iload dX11_lineOf_44 rfl ?_
        refine v_if (fun h14 => ?_)
        refine v_cV (mi := mX11_lineOf) (c0 := 0) (c1 := 0) (As := [pL a2, pI a3]) (st := []) (kX11_nightsLine d (by omega) _ _ _ _) rfl h14 rfl okX11_nightsLine (Or.inl tw1470) tw1472 tp50 rfl (Nat.le_of_ble_eq_true rfl) dX11_lineOf_46 (fun r12 => [pI r12.1]) (fun r12 => r12.2) (fun _ => rfl) (fun _ => rfl) (fun r12 h13 => ?_) rfl
        refine v_if (fun h15 => ?_)
        exact v_breturn dX11_lineOf_49 rfl h15 rfl
      · refine v_tabOut (tgt := 50) dX11_lineOf_1 (by omega) (by decide) ?_
        refine v_aload_n dX11_lineOf_50 rfl ?_
        refine v_lload_n dX11_lineOf_51 rfl ?_
        refine v_iload dX11_lineOf_52 rfl ?_
        refine v_if (fun h18 => ?_)
        refine v_cV (mi := mX11_lineOf) (c0 := 0) (c1 := 0) (As := [pL a2, pI a3]) (st := []) (kX11_sightLine d (by omega) _ _ _ _) rfl h18 rfl okX11_sightLine (Or.inl tw1478) tw1480 tp51 rfl (Nat.le_of_ble_eq_true rfl) dX11_lineOf_54 (fun r16 => [pI r16.1]) (fun r16 => r16.2) (fun _ => rfl) (fun _ => rfl) (fun r16 h17 => ?_) rfl
        refine v_if (fun h19 => ?_)
        exact v_breturn dX11_lineOf_57 rfl h19 rfl
theorem chX11_lines_0 : (cX11_lines.data.toList.drop 0).take 16 = [4, 61, 28, 153, 0, 71, 42, 180, 0, 123, 153, 0, 64, 42, 180, 0] := by decide +kernel
theorem chX11_lines_1 : (cX11_lines.data.toList.drop 16).take 16 = [116, 62, 42, 4, 181, 0, 146, 42, 27, 42, 180, 0, 123, 5, 160, 0] := by decide +kernel
theorem chX11_lines_2 : (cX11_lines.data.toList.drop 32).take 16 = [10, 42, 180, 0, 119, 167, 0, 4, 9, 29, 182, 0, 247, 61, 28, 153] := by decide +kernel
theorem chX11_lines_3 : (cX11_lines.data.toList.drop 48).take 16 = [0, 16, 42, 180, 0, 123, 7, 159, 0, 8, 42, 182, 0, 138, 61, 28] := by decide +kernel
theorem chX11_lines_4 : (cX11_lines.data.toList.drop 64).take 16 = [153, 0, 7, 42, 182, 0, 150, 167, 255, 187, 28, 172] := by decide +kernel
theorem dX11_lines_0 : decode cX11_lines 0 = .ok (.iconst 1, 1) := oq_4 (byt chX11_lines_0 0 rfl)
theorem dX11_lines_1 : decode cX11_lines 1 = .ok (.istore_n 2, 1) := oq_61 (byt chX11_lines_0 1 rfl)
theorem dX11_lines_2 : decode cX11_lines 2 = .ok (.iload_n 2, 1) := oq_28 (byt chX11_lines_0 2 rfl)
theorem dX11_lines_3 : decode cX11_lines 3 = .ok (.ifCond .eq 71, 3) := oq_153 (byt chX11_lines_0 3 rfl) (byt chX11_lines_0 4 rfl) (byt chX11_lines_0 5 rfl) (by decide +kernel)
theorem dX11_lines_6 : decode cX11_lines 6 = .ok (.aload_n 0, 1) := oq_42 (byt chX11_lines_0 6 rfl)
theorem dX11_lines_7 : decode cX11_lines 7 = .ok (.getfield 123, 3) := oq_180 (byt chX11_lines_0 7 rfl) (byt chX11_lines_0 8 rfl) (byt chX11_lines_0 9 rfl) rfl
theorem dX11_lines_10 : decode cX11_lines 10 = .ok (.ifCond .eq 64, 3) := oq_153 (byt chX11_lines_0 10 rfl) (byt chX11_lines_0 11 rfl) (byt chX11_lines_0 12 rfl) (by decide +kernel)
theorem dX11_lines_13 : decode cX11_lines 13 = .ok (.aload_n 0, 1) := oq_42 (byt chX11_lines_0 13 rfl)
theorem dX11_lines_14 : decode cX11_lines 14 = .ok (.getfield 116, 3) := oq_180 (byt chX11_lines_0 14 rfl) (byt chX11_lines_0 15 rfl) (byt chX11_lines_1 0 rfl) rfl
theorem dX11_lines_17 : decode cX11_lines 17 = .ok (.istore_n 3, 1) := oq_62 (byt chX11_lines_1 1 rfl)
theorem dX11_lines_18 : decode cX11_lines 18 = .ok (.aload_n 0, 1) := oq_42 (byt chX11_lines_1 2 rfl)
theorem dX11_lines_19 : decode cX11_lines 19 = .ok (.iconst 1, 1) := oq_4 (byt chX11_lines_1 3 rfl)
theorem dX11_lines_20 : decode cX11_lines 20 = .ok (.putfield 146, 3) := oq_181 (byt chX11_lines_1 4 rfl) (byt chX11_lines_1 5 rfl) (byt chX11_lines_1 6 rfl) rfl
theorem dX11_lines_23 : decode cX11_lines 23 = .ok (.aload_n 0, 1) := oq_42 (byt chX11_lines_1 7 rfl)
theorem dX11_lines_24 : decode cX11_lines 24 = .ok (.iload_n 1, 1) := oq_27 (byt chX11_lines_1 8 rfl)
theorem dX11_lines_25 : decode cX11_lines 25 = .ok (.aload_n 0, 1) := oq_42 (byt chX11_lines_1 9 rfl)
theorem dX11_lines_26 : decode cX11_lines 26 = .ok (.getfield 123, 3) := oq_180 (byt chX11_lines_1 10 rfl) (byt chX11_lines_1 11 rfl) (byt chX11_lines_1 12 rfl) rfl
theorem dX11_lines_29 : decode cX11_lines 29 = .ok (.iconst 2, 1) := oq_5 (byt chX11_lines_1 13 rfl)
theorem dX11_lines_30 : decode cX11_lines 30 = .ok (.if_icmp .ne 10, 3) := oq_160 (byt chX11_lines_1 14 rfl) (byt chX11_lines_1 15 rfl) (byt chX11_lines_2 0 rfl) (by decide +kernel)
theorem dX11_lines_33 : decode cX11_lines 33 = .ok (.aload_n 0, 1) := oq_42 (byt chX11_lines_2 1 rfl)
theorem dX11_lines_34 : decode cX11_lines 34 = .ok (.getfield 119, 3) := oq_180 (byt chX11_lines_2 2 rfl) (byt chX11_lines_2 3 rfl) (byt chX11_lines_2 4 rfl) rfl
theorem dX11_lines_37 : decode cX11_lines 37 = .ok (.goto 4, 3) := oq_167 (byt chX11_lines_2 5 rfl) (byt chX11_lines_2 6 rfl) (byt chX11_lines_2 7 rfl) (by decide +kernel)
theorem dX11_lines_40 : decode cX11_lines 40 = .ok (.lconst 0, 1) := oq_9 (byt chX11_lines_2 8 rfl)
theorem dX11_lines_41 : decode cX11_lines 41 = .ok (.iload_n 3, 1) := oq_29 (byt chX11_lines_2 9 rfl)
theorem dX11_lines_42 : decode cX11_lines 42 = .ok (.invokevirtual 247, 3) := oq_182 (byt chX11_lines_2 10 rfl) (byt chX11_lines_2 11 rfl) (byt chX11_lines_2 12 rfl) rfl
theorem dX11_lines_45 : decode cX11_lines 45 = .ok (.istore_n 2, 1) := oq_61 (byt chX11_lines_2 13 rfl)
theorem dX11_lines_46 : decode cX11_lines 46 = .ok (.iload_n 2, 1) := oq_28 (byt chX11_lines_2 14 rfl)
theorem dX11_lines_47 : decode cX11_lines 47 = .ok (.ifCond .eq 16, 3) := oq_153 (byt chX11_lines_2 15 rfl) (byt chX11_lines_3 0 rfl) (byt chX11_lines_3 1 rfl) (by decide +kernel)
theorem dX11_lines_50 : decode cX11_lines 50 = .ok (.aload_n 0, 1) := oq_42 (byt chX11_lines_3 2 rfl)
theorem dX11_lines_51 : decode cX11_lines 51 = .ok (.getfield 123, 3) := oq_180 (byt chX11_lines_3 3 rfl) (byt chX11_lines_3 4 rfl) (byt chX11_lines_3 5 rfl) rfl
theorem dX11_lines_54 : decode cX11_lines 54 = .ok (.iconst 4, 1) := oq_7 (byt chX11_lines_3 6 rfl)
theorem dX11_lines_55 : decode cX11_lines 55 = .ok (.if_icmp .eq 8, 3) := oq_159 (byt chX11_lines_3 7 rfl) (byt chX11_lines_3 8 rfl) (byt chX11_lines_3 9 rfl) (by decide +kernel)
theorem dX11_lines_58 : decode cX11_lines 58 = .ok (.aload_n 0, 1) := oq_42 (byt chX11_lines_3 10 rfl)
theorem dX11_lines_59 : decode cX11_lines 59 = .ok (.invokevirtual 138, 3) := oq_182 (byt chX11_lines_3 11 rfl) (byt chX11_lines_3 12 rfl) (byt chX11_lines_3 13 rfl) rfl
theorem dX11_lines_62 : decode cX11_lines 62 = .ok (.istore_n 2, 1) := oq_61 (byt chX11_lines_3 14 rfl)
theorem dX11_lines_63 : decode cX11_lines 63 = .ok (.iload_n 2, 1) := oq_28 (byt chX11_lines_3 15 rfl)
theorem dX11_lines_64 : decode cX11_lines 64 = .ok (.ifCond .eq 7, 3) := oq_153 (byt chX11_lines_4 0 rfl) (byt chX11_lines_4 1 rfl) (byt chX11_lines_4 2 rfl) (by decide +kernel)
theorem dX11_lines_67 : decode cX11_lines 67 = .ok (.aload_n 0, 1) := oq_42 (byt chX11_lines_4 3 rfl)
theorem dX11_lines_68 : decode cX11_lines 68 = .ok (.invokevirtual 150, 3) := oq_182 (byt chX11_lines_4 4 rfl) (byt chX11_lines_4 5 rfl) (byt chX11_lines_4 6 rfl) rfl
theorem dX11_lines_71 : decode cX11_lines 71 = .ok (.goto (-69), 3) := oq_167 (byt chX11_lines_4 7 rfl) (byt chX11_lines_4 8 rfl) (byt chX11_lines_4 9 rfl) (by decide +kernel)
theorem dX11_lines_74 : decode cX11_lines 74 = .ok (.iload_n 2, 1) := oq_28 (byt chX11_lines_4 10 rfl)
theorem dX11_lines_75 : decode cX11_lines 75 = .ok (.ireturn, 1) := oq_172 (byt chX11_lines_4 11 rfl)
abbrev mX11_lines : MI := (yX11_lines, cX11_lines, 4, (some .boolean), noE)
theorem okX11_lines : cok mX11_lines 1 := ⟨tw1394, tw11, by decide, by decide, by decide, by decide +kernel⟩
def fX11_lines (M : Mem) (a0 a1 : Int) : Option (Int × Mem) :=
  iterC (fun (rec1 : (Int × Mem) → Option (Int × Mem)) (s2 : Int × Mem) => if s2.1 = 0 then (if s2.1 = 0 ∨ s2.1 = 1 then some (s2.1, s2.2) else none) else (if s2.2.2.1 a0 = 10 then if s2.2.1 a0 13 = 0 then (if s2.1 = 0 ∨ s2.1 = 1 then some (s2.1, s2.2) else none) else (bM (mst s2.2 a0 23 1) fun M8 => jn (fun (t11 : Int) => (fX11_lineOf M8 a0 a1 t11 (s2.2.1 a0 12)).bind fun r12 => jn (fun (t15 : Int × Mem) => if t15.1 = 0 then (rec1 (t15.1, t15.2)) else (if t15.2.2.1 a0 = 10 then (fX11_token t15.2 a0).bind fun r17 => rec1 (t15.1, r17) else none)) (fun (j14 : (Int × Mem) → Option (Int × Mem)) => if r12.1 = 0 then (j14 (r12.1, r12.2)) else (if r12.2.2.1 a0 = 10 then if r12.2.1 a0 13 = 4 then (j14 (r12.1, r12.2)) else ((fX11_fails r12.2 a0).bind fun r23 => j14 (r23.1, r23.2)) else none))) (fun (j10 : Int → Option (Int × Mem)) => if M8.1 a0 13 = 2 then (j10 (M8.1 a0 15)) else (j10 0))) else none)) BIG (1, M)
set_option maxRecDepth 100000 in
set_option maxHeartbeats 4000000 in
theorem kX11_lines (d : Nat) (hd : 8 ≤ d) (M : Mem) (a0 a1 : Int) : Ct mX11_lines d 0 0 [pA a0, pI a1] M dIM (fX11_lines M a0 a1) := by
  obtain ⟨d, rfl⟩ : ∃ k, d = k + 1 := ⟨d - 1, by omega⟩
  refine Ct.of 2 (fun _ _ _ => trivial) (by decide +kernel) rfl ?_
  unfold fX11_lines
  refine v_iconst dX11_lines_0 (by decide) ?_
  refine v_istore_n (ls' := [some (pA a0), some (pI a1), some (pI 1), none]) dX11_lines_1 (by decide) rfl ?_
  refine v_loop (fun (s2 : Int × Mem) => [some (pA a0), some (pI a1), some (pI s2.1), none]) (fun (s2 : Int × Mem) => s2.2) (s0 := (1, M)) ?_
  intro rec1 hrec1 s2
  refine v_iload_n dX11_lines_2 rfl ?_
  refine v_if_eq (tgt := 74) dX11_lines_3 (by decide) (fun c3 => ?_) (fun c3 => ?_)
  · refine v_iload_n dX11_lines_74 rfl ?_
    refine v_if (fun h4 => ?_)
    exact v_breturn dX11_lines_75 rfl h4 rfl
  · refine v_aload_n dX11_lines_6 rfl ?_
    refine v_if (fun h5 => ?_)
    refine v_get (v := pI (s2.2.1 a0 13)) 10 13 rfl inX11 (by decide) tw1206 dX11_lines_7 h5 rfl ?_
    refine v_if_eq (tgt := 74) dX11_lines_10 (by decide) (fun c6 => ?_) (fun c6 => ?_)
    · refine v_iload_n dX11_lines_74 rfl ?_
      refine v_if (fun h7 => ?_)
      exact v_breturn dX11_lines_75 rfl h7 rfl
    · refine v_aload_n dX11_lines_13 rfl ?_
      refine v_get (v := pI (s2.2.1 a0 12)) 10 12 rfl inX11 (by decide) tw1205 dX11_lines_14 h5 rfl ?_
      refine v_istore_n (ls' := [some (pA a0), some (pI a1), some (pI s2.1), some (pI (s2.2.1 a0 12))]) dX11_lines_17 (by decide) rfl ?_
      refine v_aload_n dX11_lines_18 rfl ?_
      refine v_iconst dX11_lines_19 (by decide) ?_
      refine v_put (x := 1) 10 23 rfl inX11 (by decide) tw1216 (Or.inl rfl) rfl dX11_lines_20 h5 rfl (fun _ => by first | exact Or.inl rfl | exact Or.inr rfl) ?_
      refine v_bM (fun M8 e9 => ?_)
      refine v_aload_n dX11_lines_23 rfl ?_
      refine v_iload_n dX11_lines_24 rfl ?_
      refine v_aload_n dX11_lines_25 rfl ?_
      refine v_get (v := pI (M8.1 a0 13)) 10 13 rfl inX11 (by decide) tw1206 dX11_lines_26 (by rw [e9]; exact h5) rfl ?_
      refine v_iconst dX11_lines_29 (by decide) ?_
      refine v_join (fun (t11 : Int) => [some (pA a0), some (pI a1), none, some (pI (s2.2.1 a0 12))]) (fun (t11 : Int) => [pL t11, pI a1, pA a0]) (fun (t11 : Int) => M8) 41 (fun t11 => ?_) (fun j10 hj10 => ?_)
      · refine v_iload_n dX11_lines_41 rfl ?_
        refine v_cV (mi := mX11_lines) (c0 := 0) (c1 := 0) (As := [pI a1, pL t11, pI (s2.2.1 a0 12)]) (st := []) (kX11_lineOf d (by omega) _ _ _ _ _) rfl (by rw [e9]; exact h5) rfl okX11_lineOf (Or.inl tw1395) tw1397 tp35 rfl (Nat.le_of_ble_eq_true rfl) dX11_lines_42 (fun r12 => [pI r12.1]) (fun r12 => r12.2) (fun _ => rfl) (fun _ => rfl) (fun r12 h13 => ?_) rfl
        refine v_istore_n (ls' := [some (pA a0), some (pI a1), some (pI r12.1), some (pI (s2.2.1 a0 12))]) dX11_lines_45 (by decide) rfl ?_
        refine v_iload_n dX11_lines_46 rfl ?_
        refine v_join (fun (t15 : Int × Mem) => [some (pA a0), some (pI a1), some (pI t15.1), none]) (fun (t15 : Int × Mem) => []) (fun (t15 : Int × Mem) => t15.2) 63 (fun t15 => ?_) (fun j14 hj14 => ?_)
        · refine v_iload_n dX11_lines_63 rfl ?_
          refine v_if_eq (tgt := 71) dX11_lines_64 (by decide) (fun c16 => ?_) (fun c16 => ?_)
          · refine v_goto (tgt := 2) dX11_lines_71 (by decide) ?_
            exact hrec1 (t15.1, t15.2)
          · refine v_aload_n dX11_lines_67 rfl ?_
            refine v_if (fun h19 => ?_)
            refine v_cV (mi := mX11_lines) (c0 := 0) (c1 := 0) (As := []) (st := []) (kX11_token d (by omega) _ _) rfl h19 rfl okX11_token (Or.inl tw1383) tw1385 tp32 rfl (Nat.le_of_ble_eq_true rfl) dX11_lines_68 (fun r17 => []) (fun r17 => r17) (fun _ => rfl) (fun _ => rfl) (fun r17 h18 => ?_) rfl
            refine v_goto (tgt := 2) dX11_lines_71 (by decide) ?_
            exact hrec1 (t15.1, r17)
        · refine v_if_eq (tgt := 63) dX11_lines_47 (by decide) (fun c20 => ?_) (fun c20 => ?_)
          · exact v_drop [some (pA a0), some (pI a1), some (pI r12.1), none] (ls_s (ls_s (ls_s (ls_n ls_e)))) (hj14 (r12.1, r12.2))
          · refine v_aload_n dX11_lines_50 rfl ?_
            refine v_if (fun h21 => ?_)
            refine v_get (v := pI (r12.2.1 a0 13)) 10 13 rfl inX11 (by decide) tw1206 dX11_lines_51 h21 rfl ?_
            refine v_iconst dX11_lines_54 (by decide) ?_
            refine v_icmp_eq (tgt := 63) dX11_lines_55 (by decide) (fun c22 => ?_) (fun c22 => ?_)
            · exact v_drop [some (pA a0), some (pI a1), some (pI r12.1), none] (ls_s (ls_s (ls_s (ls_n ls_e)))) (hj14 (r12.1, r12.2))
            · refine v_aload_n dX11_lines_58 rfl ?_
              refine v_cV (mi := mX11_lines) (c0 := 0) (c1 := 0) (As := []) (st := []) (kX11_fails d (by omega) _ _) rfl h21 rfl okX11_fails (Or.inl tw1412) tw1414 tp37 rfl (Nat.le_of_ble_eq_true rfl) dX11_lines_59 (fun r23 => [pI r23.1]) (fun r23 => r23.2) (fun _ => rfl) (fun _ => rfl) (fun r23 h24 => ?_) rfl
              refine v_istore_n (ls' := [some (pA a0), some (pI a1), some (pI r23.1), some (pI (s2.2.1 a0 12))]) dX11_lines_62 (by decide) rfl ?_
              exact v_drop [some (pA a0), some (pI a1), some (pI r23.1), none] (ls_s (ls_s (ls_s (ls_n ls_e)))) (hj14 (r23.1, r23.2))
      · refine v_icmp_ne (tgt := 40) dX11_lines_30 (by decide) (fun c25 => ?_) (fun c25 => ?_)
        · refine v_aload_n dX11_lines_33 rfl ?_
          refine v_get (v := pL (M8.1 a0 15)) 10 15 rfl inX11 (by decide) tw1208 dX11_lines_34 (by rw [e9]; exact h5) rfl ?_
          refine v_goto (tgt := 41) dX11_lines_37 (by decide) ?_
          exact v_drop [some (pA a0), some (pI a1), none, some (pI (s2.2.1 a0 12))] (ls_s (ls_s (ls_n (ls_s ls_e)))) (hj10 (M8.1 a0 15))
        · refine v_lconst0 dX11_lines_40 ?_
          exact v_drop [some (pA a0), some (pI a1), none, some (pI (s2.2.1 a0 12))] (ls_s (ls_s (ls_n (ls_s ls_e)))) (hj10 0)
theorem chX11_blankTown_0 : (cX11_blankTown.data.toList.drop 0).take 16 = [42, 180, 0, 38, 3, 6, 79, 3, 60, 27, 16, 6, 162, 0, 19, 42] := by decide +kernel
theorem chX11_blankTown_1 : (cX11_blankTown.data.toList.drop 16).take 16 = [180, 0, 38, 16, 68, 27, 96, 27, 79, 132, 1, 1, 167, 255, 237, 3] := by decide +kernel
theorem chX11_blankTown_2 : (cX11_blankTown.data.toList.drop 32).take 16 = [60, 27, 8, 162, 0, 29, 42, 180, 0, 38, 16, 74, 27, 96, 4, 79] := by decide +kernel
theorem chX11_blankTown_3 : (cX11_blankTown.data.toList.drop 48).take 16 = [42, 180, 0, 38, 16, 79, 27, 96, 4, 79, 132, 1, 1, 167, 255, 228] := by decide +kernel
theorem chX11_blankTown_4 : (cX11_blankTown.data.toList.drop 64).take 16 = [3, 60, 27, 7, 162, 0, 19, 42, 180, 0, 38, 16, 88, 27, 96, 2] := by decide +kernel
theorem chX11_blankTown_5 : (cX11_blankTown.data.toList.drop 80).take 16 = [79, 132, 1, 1, 167, 255, 238, 177] := by decide +kernel
theorem dX11_blankTown_0 : decode cX11_blankTown 0 = .ok (.aload_n 0, 1) := oq_42 (byt chX11_blankTown_0 0 rfl)
theorem dX11_blankTown_1 : decode cX11_blankTown 1 = .ok (.getfield 38, 3) := oq_180 (byt chX11_blankTown_0 1 rfl) (byt chX11_blankTown_0 2 rfl) (byt chX11_blankTown_0 3 rfl) rfl
theorem dX11_blankTown_4 : decode cX11_blankTown 4 = .ok (.iconst 0, 1) := oq_3 (byt chX11_blankTown_0 4 rfl)
theorem dX11_blankTown_5 : decode cX11_blankTown 5 = .ok (.iconst 3, 1) := oq_6 (byt chX11_blankTown_0 5 rfl)
theorem dX11_blankTown_6 : decode cX11_blankTown 6 = .ok (.iastore, 1) := oq_79 (byt chX11_blankTown_0 6 rfl)
theorem dX11_blankTown_7 : decode cX11_blankTown 7 = .ok (.iconst 0, 1) := oq_3 (byt chX11_blankTown_0 7 rfl)
theorem dX11_blankTown_8 : decode cX11_blankTown 8 = .ok (.istore_n 1, 1) := oq_60 (byt chX11_blankTown_0 8 rfl)
theorem dX11_blankTown_9 : decode cX11_blankTown 9 = .ok (.iload_n 1, 1) := oq_27 (byt chX11_blankTown_0 9 rfl)
theorem dX11_blankTown_10 : decode cX11_blankTown 10 = .ok (.bipush 6, 2) := oq_16 (byt chX11_blankTown_0 10 rfl) (byt chX11_blankTown_0 11 rfl) rfl
theorem dX11_blankTown_12 : decode cX11_blankTown 12 = .ok (.if_icmp .ge 19, 3) := oq_162 (byt chX11_blankTown_0 12 rfl) (byt chX11_blankTown_0 13 rfl) (byt chX11_blankTown_0 14 rfl) (by decide +kernel)
theorem dX11_blankTown_15 : decode cX11_blankTown 15 = .ok (.aload_n 0, 1) := oq_42 (byt chX11_blankTown_0 15 rfl)
theorem dX11_blankTown_16 : decode cX11_blankTown 16 = .ok (.getfield 38, 3) := oq_180 (byt chX11_blankTown_1 0 rfl) (byt chX11_blankTown_1 1 rfl) (byt chX11_blankTown_1 2 rfl) rfl
theorem dX11_blankTown_19 : decode cX11_blankTown 19 = .ok (.bipush 68, 2) := oq_16 (byt chX11_blankTown_1 3 rfl) (byt chX11_blankTown_1 4 rfl) rfl
theorem dX11_blankTown_21 : decode cX11_blankTown 21 = .ok (.iload_n 1, 1) := oq_27 (byt chX11_blankTown_1 5 rfl)
theorem dX11_blankTown_22 : decode cX11_blankTown 22 = .ok (.iadd, 1) := oq_96 (byt chX11_blankTown_1 6 rfl)
theorem dX11_blankTown_23 : decode cX11_blankTown 23 = .ok (.iload_n 1, 1) := oq_27 (byt chX11_blankTown_1 7 rfl)
theorem dX11_blankTown_24 : decode cX11_blankTown 24 = .ok (.iastore, 1) := oq_79 (byt chX11_blankTown_1 8 rfl)
theorem dX11_blankTown_25 : decode cX11_blankTown 25 = .ok (.iinc 1 1, 3) := oq_132 (byt chX11_blankTown_1 9 rfl) (byt chX11_blankTown_1 10 rfl) (byt chX11_blankTown_1 11 rfl) rfl
theorem dX11_blankTown_28 : decode cX11_blankTown 28 = .ok (.goto (-19), 3) := oq_167 (byt chX11_blankTown_1 12 rfl) (byt chX11_blankTown_1 13 rfl) (byt chX11_blankTown_1 14 rfl) (by decide +kernel)
theorem dX11_blankTown_31 : decode cX11_blankTown 31 = .ok (.iconst 0, 1) := oq_3 (byt chX11_blankTown_1 15 rfl)
theorem dX11_blankTown_32 : decode cX11_blankTown 32 = .ok (.istore_n 1, 1) := oq_60 (byt chX11_blankTown_2 0 rfl)
theorem dX11_blankTown_33 : decode cX11_blankTown 33 = .ok (.iload_n 1, 1) := oq_27 (byt chX11_blankTown_2 1 rfl)
theorem dX11_blankTown_34 : decode cX11_blankTown 34 = .ok (.iconst 5, 1) := oq_8 (byt chX11_blankTown_2 2 rfl)
theorem dX11_blankTown_35 : decode cX11_blankTown 35 = .ok (.if_icmp .ge 29, 3) := oq_162 (byt chX11_blankTown_2 3 rfl) (byt chX11_blankTown_2 4 rfl) (byt chX11_blankTown_2 5 rfl) (by decide +kernel)
theorem dX11_blankTown_38 : decode cX11_blankTown 38 = .ok (.aload_n 0, 1) := oq_42 (byt chX11_blankTown_2 6 rfl)
theorem dX11_blankTown_39 : decode cX11_blankTown 39 = .ok (.getfield 38, 3) := oq_180 (byt chX11_blankTown_2 7 rfl) (byt chX11_blankTown_2 8 rfl) (byt chX11_blankTown_2 9 rfl) rfl
theorem dX11_blankTown_42 : decode cX11_blankTown 42 = .ok (.bipush 74, 2) := oq_16 (byt chX11_blankTown_2 10 rfl) (byt chX11_blankTown_2 11 rfl) rfl
theorem dX11_blankTown_44 : decode cX11_blankTown 44 = .ok (.iload_n 1, 1) := oq_27 (byt chX11_blankTown_2 12 rfl)
theorem dX11_blankTown_45 : decode cX11_blankTown 45 = .ok (.iadd, 1) := oq_96 (byt chX11_blankTown_2 13 rfl)
theorem dX11_blankTown_46 : decode cX11_blankTown 46 = .ok (.iconst 1, 1) := oq_4 (byt chX11_blankTown_2 14 rfl)
theorem dX11_blankTown_47 : decode cX11_blankTown 47 = .ok (.iastore, 1) := oq_79 (byt chX11_blankTown_2 15 rfl)
theorem dX11_blankTown_48 : decode cX11_blankTown 48 = .ok (.aload_n 0, 1) := oq_42 (byt chX11_blankTown_3 0 rfl)
theorem dX11_blankTown_49 : decode cX11_blankTown 49 = .ok (.getfield 38, 3) := oq_180 (byt chX11_blankTown_3 1 rfl) (byt chX11_blankTown_3 2 rfl) (byt chX11_blankTown_3 3 rfl) rfl
theorem dX11_blankTown_52 : decode cX11_blankTown 52 = .ok (.bipush 79, 2) := oq_16 (byt chX11_blankTown_3 4 rfl) (byt chX11_blankTown_3 5 rfl) rfl
theorem dX11_blankTown_54 : decode cX11_blankTown 54 = .ok (.iload_n 1, 1) := oq_27 (byt chX11_blankTown_3 6 rfl)
theorem dX11_blankTown_55 : decode cX11_blankTown 55 = .ok (.iadd, 1) := oq_96 (byt chX11_blankTown_3 7 rfl)
theorem dX11_blankTown_56 : decode cX11_blankTown 56 = .ok (.iconst 1, 1) := oq_4 (byt chX11_blankTown_3 8 rfl)
theorem dX11_blankTown_57 : decode cX11_blankTown 57 = .ok (.iastore, 1) := oq_79 (byt chX11_blankTown_3 9 rfl)
theorem dX11_blankTown_58 : decode cX11_blankTown 58 = .ok (.iinc 1 1, 3) := oq_132 (byt chX11_blankTown_3 10 rfl) (byt chX11_blankTown_3 11 rfl) (byt chX11_blankTown_3 12 rfl) rfl
theorem dX11_blankTown_61 : decode cX11_blankTown 61 = .ok (.goto (-28), 3) := oq_167 (byt chX11_blankTown_3 13 rfl) (byt chX11_blankTown_3 14 rfl) (byt chX11_blankTown_3 15 rfl) (by decide +kernel)
theorem dX11_blankTown_64 : decode cX11_blankTown 64 = .ok (.iconst 0, 1) := oq_3 (byt chX11_blankTown_4 0 rfl)
theorem dX11_blankTown_65 : decode cX11_blankTown 65 = .ok (.istore_n 1, 1) := oq_60 (byt chX11_blankTown_4 1 rfl)
theorem dX11_blankTown_66 : decode cX11_blankTown 66 = .ok (.iload_n 1, 1) := oq_27 (byt chX11_blankTown_4 2 rfl)
theorem dX11_blankTown_67 : decode cX11_blankTown 67 = .ok (.iconst 4, 1) := oq_7 (byt chX11_blankTown_4 3 rfl)
theorem dX11_blankTown_68 : decode cX11_blankTown 68 = .ok (.if_icmp .ge 19, 3) := oq_162 (byt chX11_blankTown_4 4 rfl) (byt chX11_blankTown_4 5 rfl) (byt chX11_blankTown_4 6 rfl) (by decide +kernel)
theorem dX11_blankTown_71 : decode cX11_blankTown 71 = .ok (.aload_n 0, 1) := oq_42 (byt chX11_blankTown_4 7 rfl)
theorem dX11_blankTown_72 : decode cX11_blankTown 72 = .ok (.getfield 38, 3) := oq_180 (byt chX11_blankTown_4 8 rfl) (byt chX11_blankTown_4 9 rfl) (byt chX11_blankTown_4 10 rfl) rfl
theorem dX11_blankTown_75 : decode cX11_blankTown 75 = .ok (.bipush 88, 2) := oq_16 (byt chX11_blankTown_4 11 rfl) (byt chX11_blankTown_4 12 rfl) rfl
theorem dX11_blankTown_77 : decode cX11_blankTown 77 = .ok (.iload_n 1, 1) := oq_27 (byt chX11_blankTown_4 13 rfl)
theorem dX11_blankTown_78 : decode cX11_blankTown 78 = .ok (.iadd, 1) := oq_96 (byt chX11_blankTown_4 14 rfl)
theorem dX11_blankTown_79 : decode cX11_blankTown 79 = .ok (.iconst (-1), 1) := oq_2 (byt chX11_blankTown_4 15 rfl)
theorem dX11_blankTown_80 : decode cX11_blankTown 80 = .ok (.iastore, 1) := oq_79 (byt chX11_blankTown_5 0 rfl)
theorem dX11_blankTown_81 : decode cX11_blankTown 81 = .ok (.iinc 1 1, 3) := oq_132 (byt chX11_blankTown_5 1 rfl) (byt chX11_blankTown_5 2 rfl) (byt chX11_blankTown_5 3 rfl) rfl
theorem dX11_blankTown_84 : decode cX11_blankTown 84 = .ok (.goto (-18), 3) := oq_167 (byt chX11_blankTown_5 4 rfl) (byt chX11_blankTown_5 5 rfl) (byt chX11_blankTown_5 6 rfl) (by decide +kernel)
theorem dX11_blankTown_87 : decode cX11_blankTown 87 = .ok (.return_, 1) := oq_177 (byt chX11_blankTown_5 7 rfl)
abbrev mX11_blankTown : MI := (yX11_blankTown, cX11_blankTown, 2, none, noE)
theorem okX11_blankTown : cok mX11_blankTown 0 := ⟨tw1382, tw11, by decide, by decide, by decide, by decide +kernel⟩
def fX11_blankTown (M : Mem) (a0 : Int) : Option Mem :=
  if M.2.1 a0 = 10 then if M.2.1 (M.1 a0 19) = 12 ∧ (0 : Int) ≤ 0 ∧ 0 < M.2.2.1 (M.1 a0 19) then bM (mst M (M.1 a0 19) 0 3) fun M3 => iterC (fun (rec5 : (Int × Mem) → Option Mem) (s6 : Int × Mem) => if s6.1 < 6 then (if s6.2.2.1 a0 = 10 then if s6.2.2.1 (s6.2.1 a0 19) = 12 ∧ (0 : Int) ≤ (w32 (68 + s6.1)) ∧ (w32 (68 + s6.1)) < s6.2.2.2.1 (s6.2.1 a0 19) then bM (mst s6.2 (s6.2.1 a0 19) (w32 (68 + s6.1)) s6.1) fun M10 => rec5 (w32 (s6.1 + 1), M10) else none else none) else (iterC (fun (rec12 : (Int × Mem) → Option Mem) (s13 : Int × Mem) => if s13.1 < 5 then (if s13.2.2.1 a0 = 10 then if s13.2.2.1 (s13.2.1 a0 19) = 12 ∧ (0 : Int) ≤ (w32 (74 + s13.1)) ∧ (w32 (74 + s13.1)) < s13.2.2.2.1 (s13.2.1 a0 19) then bM (mst s13.2 (s13.2.1 a0 19) (w32 (74 + s13.1)) 1) fun M17 => if M17.2.1 (M17.1 a0 19) = 12 ∧ (0 : Int) ≤ (w32 (79 + s13.1)) ∧ (w32 (79 + s13.1)) < M17.2.2.1 (M17.1 a0 19) then bM (mst M17 (M17.1 a0 19) (w32 (79 + s13.1)) 1) fun M20 => rec12 (w32 (s13.1 + 1), M20) else none else none else none) else (iterC (fun (rec22 : (Int × Mem) → Option Mem) (s23 : Int × Mem) => if s23.1 < 4 then (if s23.2.2.1 a0 = 10 then if s23.2.2.1 (s23.2.1 a0 19) = 12 ∧ (0 : Int) ≤ (w32 (88 + s23.1)) ∧ (w32 (88 + s23.1)) < s23.2.2.2.1 (s23.2.1 a0 19) then bM (mst s23.2 (s23.2.1 a0 19) (w32 (88 + s23.1)) (-1)) fun M27 => rec22 (w32 (s23.1 + 1), M27) else none else none) else (some s23.2)) BIG (0, s13.2))) BIG (0, s6.2))) BIG (0, M3) else none else none
set_option maxRecDepth 100000 in
set_option maxHeartbeats 4000000 in
theorem kX11_blankTown (d : Nat) (hd : 0 ≤ d) (M : Mem) (a0 : Int) : Ct mX11_blankTown d 0 0 [pA a0] M dV (fX11_blankTown M a0) := by
  refine Ct.of 1 (fun _ _ _ => trivial) (by decide +kernel) rfl ?_
  unfold fX11_blankTown
  refine v_aload_n dX11_blankTown_0 rfl ?_
  refine v_if (fun h1 => ?_)
  refine v_get (v := pA (M.1 a0 19)) 10 19 rfl inX11 (by decide) tw1212 dX11_blankTown_1 h1 rfl ?_
  refine v_iconst dX11_blankTown_4 (by decide) ?_
  refine v_iconst dX11_blankTown_5 (by decide) ?_
  refine v_if (fun h2 => ?_)
  refine v_iastore h2 dX11_blankTown_6 ?_
  refine v_bM (fun M3 e4 => ?_)
  refine v_iconst dX11_blankTown_7 (by decide) ?_
  refine v_istore_n (ls' := [some (pA a0), some (pI 0)]) dX11_blankTown_8 (by decide) rfl ?_
  refine v_loop (fun (s6 : Int × Mem) => [some (pA a0), some (pI s6.1)]) (fun (s6 : Int × Mem) => s6.2) (s0 := (0, M3)) ?_
  intro rec5 hrec5 s6
  refine v_iload_n dX11_blankTown_9 rfl ?_
  refine v_bipush dX11_blankTown_10 (by decide) ?_
  refine v_icmp_ge (tgt := 31) dX11_blankTown_12 (by decide) (fun c7 => ?_) (fun c7 => ?_)
  · refine v_aload_n dX11_blankTown_15 rfl ?_
    refine v_if (fun h8 => ?_)
    refine v_get (v := pA (s6.2.1 a0 19)) 10 19 rfl inX11 (by decide) tw1212 dX11_blankTown_16 h8 rfl ?_
    refine v_bipush dX11_blankTown_19 (by decide) ?_
    refine v_iload_n dX11_blankTown_21 rfl ?_
    refine v_iadd dX11_blankTown_22 ?_
    refine v_iload_n dX11_blankTown_23 rfl ?_
    refine v_if (fun h9 => ?_)
    refine v_iastore h9 dX11_blankTown_24 ?_
    refine v_bM (fun M10 e11 => ?_)
    refine v_iinc (ls' := [some (pA a0), some (pI (w32 (s6.1 + 1)))]) dX11_blankTown_25 (by decide) rfl rfl ?_
    refine v_goto (tgt := 9) dX11_blankTown_28 (by decide) ?_
    exact hrec5 (w32 (s6.1 + 1), M10)
  · refine v_iconst dX11_blankTown_31 (by decide) ?_
    refine v_istore_n (ls' := [some (pA a0), some (pI 0)]) dX11_blankTown_32 (by decide) rfl ?_
    refine v_loop (fun (s13 : Int × Mem) => [some (pA a0), some (pI s13.1)]) (fun (s13 : Int × Mem) => s13.2) (s0 := (0, s6.2)) ?_
    intro rec12 hrec12 s13
    refine v_iload_n dX11_blankTown_33 rfl ?_
    refine v_iconst dX11_blankTown_34 (by decide) ?_
    refine v_icmp_ge (tgt := 64) dX11_blankTown_35 (by decide) (fun c14 => ?_) (fun c14 => ?_)
    · refine v_aload_n dX11_blankTown_38 rfl ?_
      refine v_if (fun h15 => ?_)
      refine v_get (v := pA (s13.2.1 a0 19)) 10 19 rfl inX11 (by decide) tw1212 dX11_blankTown_39 h15 rfl ?_
      refine v_bipush dX11_blankTown_42 (by decide) ?_
      refine v_iload_n dX11_blankTown_44 rfl ?_
      refine v_iadd dX11_blankTown_45 ?_
      refine v_iconst dX11_blankTown_46 (by decide) ?_
      refine v_if (fun h16 => ?_)
      refine v_iastore h16 dX11_blankTown_47 ?_
      refine v_bM (fun M17 e18 => ?_)
      refine v_aload_n dX11_blankTown_48 rfl ?_
      refine v_get (v := pA (M17.1 a0 19)) 10 19 rfl inX11 (by decide) tw1212 dX11_blankTown_49 (by rw [e18]; exact h15) rfl ?_
      refine v_bipush dX11_blankTown_52 (by decide) ?_
      refine v_iload_n dX11_blankTown_54 rfl ?_
      refine v_iadd dX11_blankTown_55 ?_
      refine v_iconst dX11_blankTown_56 (by decide) ?_
      refine v_if (fun h19 => ?_)
      refine v_iastore h19 dX11_blankTown_57 ?_
      refine v_bM (fun M20 e21 => ?_)
      refine v_iinc (ls' := [some (pA a0), some (pI (w32 (s13.1 + 1)))]) dX11_blankTown_58 (by decide) rfl rfl ?_
      refine v_goto (tgt := 33) dX11_blankTown_61 (by decide) ?_
      exact hrec12 (w32 (s13.1 + 1), M20)
    · refine v_iconst dX11_blankTown_64 (by decide) ?_
      refine v_istore_n (ls' := [some (pA a0), some (pI 0)]) dX11_blankTown_65 (by decide) rfl ?_
      refine v_loop (fun (s23 : Int × Mem) => [some (pA a0), some (pI s23.1)]) (fun (s23 : Int × Mem) => s23.2) (s0 := (0, s13.2)) ?_
      intro rec22 hrec22 s23
      refine v_iload_n dX11_blankTown_66 rfl ?_
      refine v_iconst dX11_blankTown_67 (by decide) ?_
      refine v_icmp_ge (tgt := 87) dX11_blankTown_68 (by decide) (fun c24 => ?_) (fun c24 => ?_)
      · refine v_aload_n dX11_blankTown_71 rfl ?_
        refine v_if (fun h25 => ?_)
        refine v_get (v := pA (s23.2.1 a0 19)) 10 19 rfl inX11 (by decide) tw1212 dX11_blankTown_72 h25 rfl ?_
        refine v_bipush dX11_blankTown_75 (by decide) ?_
        refine v_iload_n dX11_blankTown_77 rfl ?_
        refine v_iadd dX11_blankTown_78 ?_
        refine v_iconst dX11_blankTown_79 (by decide) ?_
        refine v_if (fun h26 => ?_)
        refine v_iastore h26 dX11_blankTown_80 ?_
        refine v_bM (fun M27 e28 => ?_)
        refine v_iinc (ls' := [some (pA a0), some (pI (w32 (s23.1 + 1)))]) dX11_blankTown_81 (by decide) rfl rfl ?_
        refine v_goto (tgt := 66) dX11_blankTown_84 (by decide) ?_
        exact hrec22 (w32 (s23.1 + 1), M27)
      · exact v_return dX11_blankTown_87 rfl rfl
theorem chX11_blank_0 : (cX11_blank.data.toList.drop 0).take 16 = [3, 61, 28, 17, 0, 161, 162, 0, 31, 42, 180, 0, 38, 28, 27, 6] := by decide +kernel
theorem chX11_blank_1 : (cX11_blank.data.toList.drop 16).take 16 = [160, 0, 13, 28, 16, 17, 161, 0, 7, 2, 167, 0, 4, 3, 79, 132] := by decide +kernel
theorem chX11_blank_2 : (cX11_blank.data.toList.drop 32).take 16 = [2, 1, 167, 255, 224, 27, 154, 0, 7, 42, 182, 0, 251, 27, 4, 160] := by decide +kernel
theorem chX11_blank_3 : (cX11_blank.data.toList.drop 48).take 16 = [0, 18, 42, 180, 0, 38, 3, 5, 79, 42, 180, 0, 38, 4, 16, 20] := by decide +kernel
theorem chX11_blank_4 : (cX11_blank.data.toList.drop 64).take 16 = [79, 177] := by decide +kernel
theorem dX11_blank_0 : decode cX11_blank 0 = .ok (.iconst 0, 1) := oq_3 (byt chX11_blank_0 0 rfl)
theorem dX11_blank_1 : decode cX11_blank 1 = .ok (.istore_n 2, 1) := oq_61 (byt chX11_blank_0 1 rfl)
theorem dX11_blank_2 : decode cX11_blank 2 = .ok (.iload_n 2, 1) := oq_28 (byt chX11_blank_0 2 rfl)
theorem dX11_blank_3 : decode cX11_blank 3 = .ok (.sipush 161, 3) := oq_17 (byt chX11_blank_0 3 rfl) (byt chX11_blank_0 4 rfl) (byt chX11_blank_0 5 rfl) (by decide +kernel)
theorem dX11_blank_6 : decode cX11_blank 6 = .ok (.if_icmp .ge 31, 3) := oq_162 (byt chX11_blank_0 6 rfl) (byt chX11_blank_0 7 rfl) (byt chX11_blank_0 8 rfl) (by decide +kernel)
theorem dX11_blank_9 : decode cX11_blank 9 = .ok (.aload_n 0, 1) := oq_42 (byt chX11_blank_0 9 rfl)
theorem dX11_blank_10 : decode cX11_blank 10 = .ok (.getfield 38, 3) := oq_180 (byt chX11_blank_0 10 rfl) (byt chX11_blank_0 11 rfl) (byt chX11_blank_0 12 rfl) rfl
theorem dX11_blank_13 : decode cX11_blank 13 = .ok (.iload_n 2, 1) := oq_28 (byt chX11_blank_0 13 rfl)
theorem dX11_blank_14 : decode cX11_blank 14 = .ok (.iload_n 1, 1) := oq_27 (byt chX11_blank_0 14 rfl)
theorem dX11_blank_15 : decode cX11_blank 15 = .ok (.iconst 3, 1) := oq_6 (byt chX11_blank_0 15 rfl)
theorem dX11_blank_16 : decode cX11_blank 16 = .ok (.if_icmp .ne 13, 3) := oq_160 (byt chX11_blank_1 0 rfl) (byt chX11_blank_1 1 rfl) (byt chX11_blank_1 2 rfl) (by decide +kernel)
theorem dX11_blank_19 : decode cX11_blank 19 = .ok (.iload_n 2, 1) := oq_28 (byt chX11_blank_1 3 rfl)
theorem dX11_blank_20 : decode cX11_blank 20 = .ok (.bipush 17, 2) := oq_16 (byt chX11_blank_1 4 rfl) (byt chX11_blank_1 5 rfl) rfl
theorem dX11_blank_22 : decode cX11_blank 22 = .ok (.if_icmp .lt 7, 3) := oq_161 (byt chX11_blank_1 6 rfl) (byt chX11_blank_1 7 rfl) (byt chX11_blank_1 8 rfl) (by decide +kernel)
theorem dX11_blank_25 : decode cX11_blank 25 = .ok (.iconst (-1), 1) := oq_2 (byt chX11_blank_1 9 rfl)
theorem dX11_blank_26 : decode cX11_blank 26 = .ok (.goto 4, 3) := oq_167 (byt chX11_blank_1 10 rfl) (byt chX11_blank_1 11 rfl) (byt chX11_blank_1 12 rfl) (by decide +kernel)
theorem dX11_blank_29 : decode cX11_blank 29 = .ok (.iconst 0, 1) := oq_3 (byt chX11_blank_1 13 rfl)
theorem dX11_blank_30 : decode cX11_blank 30 = .ok (.iastore, 1) := oq_79 (byt chX11_blank_1 14 rfl)
theorem dX11_blank_31 : decode cX11_blank 31 = .ok (.iinc 2 1, 3) := oq_132 (byt chX11_blank_1 15 rfl) (byt chX11_blank_2 0 rfl) (byt chX11_blank_2 1 rfl) rfl
theorem dX11_blank_34 : decode cX11_blank 34 = .ok (.goto (-32), 3) := oq_167 (byt chX11_blank_2 2 rfl) (byt chX11_blank_2 3 rfl) (byt chX11_blank_2 4 rfl) (by decide +kernel)
theorem dX11_blank_37 : decode cX11_blank 37 = .ok (.iload_n 1, 1) := oq_27 (byt chX11_blank_2 5 rfl)
theorem dX11_blank_38 : decode cX11_blank 38 = .ok (.ifCond .ne 7, 3) := oq_154 (byt chX11_blank_2 6 rfl) (byt chX11_blank_2 7 rfl) (byt chX11_blank_2 8 rfl) (by decide +kernel)
theorem dX11_blank_41 : decode cX11_blank 41 = .ok (.aload_n 0, 1) := oq_42 (byt chX11_blank_2 9 rfl)
theorem dX11_blank_42 : decode cX11_blank 42 = .ok (.invokevirtual 251, 3) := oq_182 (byt chX11_blank_2 10 rfl) (byt chX11_blank_2 11 rfl) (byt chX11_blank_2 12 rfl) rfl
theorem dX11_blank_45 : decode cX11_blank 45 = .ok (.iload_n 1, 1) := oq_27 (byt chX11_blank_2 13 rfl)
theorem dX11_blank_46 : decode cX11_blank 46 = .ok (.iconst 1, 1) := oq_4 (byt chX11_blank_2 14 rfl)
theorem dX11_blank_47 : decode cX11_blank 47 = .ok (.if_icmp .ne 18, 3) := oq_160 (byt chX11_blank_2 15 rfl) (byt chX11_blank_3 0 rfl) (byt chX11_blank_3 1 rfl) (by decide +kernel)
theorem dX11_blank_50 : decode cX11_blank 50 = .ok (.aload_n 0, 1) := oq_42 (byt chX11_blank_3 2 rfl)
theorem dX11_blank_51 : decode cX11_blank 51 = .ok (.getfield 38, 3) := oq_180 (byt chX11_blank_3 3 rfl) (byt chX11_blank_3 4 rfl) (byt chX11_blank_3 5 rfl) rfl
theorem dX11_blank_54 : decode cX11_blank 54 = .ok (.iconst 0, 1) := oq_3 (byt chX11_blank_3 6 rfl)
theorem dX11_blank_55 : decode cX11_blank 55 = .ok (.iconst 2, 1) := oq_5 (byt chX11_blank_3 7 rfl)
theorem dX11_blank_56 : decode cX11_blank 56 = .ok (.iastore, 1) := oq_79 (byt chX11_blank_3 8 rfl)
theorem dX11_blank_57 : decode cX11_blank 57 = .ok (.aload_n 0, 1) := oq_42 (byt chX11_blank_3 9 rfl)
theorem dX11_blank_58 : decode cX11_blank 58 = .ok (.getfield 38, 3) := oq_180 (byt chX11_blank_3 10 rfl) (byt chX11_blank_3 11 rfl) (byt chX11_blank_3 12 rfl) rfl
theorem dX11_blank_61 : decode cX11_blank 61 = .ok (.iconst 1, 1) := oq_4 (byt chX11_blank_3 13 rfl)
theorem dX11_blank_62 : decode cX11_blank 62 = .ok (.bipush 20, 2) := oq_16 (byt chX11_blank_3 14 rfl) (byt chX11_blank_3 15 rfl) rfl
theorem dX11_blank_64 : decode cX11_blank 64 = .ok (.iastore, 1) := oq_79 (byt chX11_blank_4 0 rfl)
theorem dX11_blank_65 : decode cX11_blank 65 = .ok (.return_, 1) := oq_177 (byt chX11_blank_4 1 rfl)
abbrev mX11_blank : MI := (yX11_blank, cX11_blank, 3, none, noE)
theorem okX11_blank : cok mX11_blank 1 := ⟨tw1378, tw11, by decide, by decide, by decide, by decide +kernel⟩
def fX11_blank (M : Mem) (a0 a1 : Int) : Option Mem :=
  iterC (fun (rec1 : (Int × Mem) → Option Mem) (s2 : Int × Mem) => if s2.1 < 161 then (if s2.2.2.1 a0 = 10 then jn (fun (t6 : Int) => if s2.2.2.1 (s2.2.1 a0 19) = 12 ∧ (0 : Int) ≤ s2.1 ∧ s2.1 < s2.2.2.2.1 (s2.2.1 a0 19) then bM (mst s2.2 (s2.2.1 a0 19) s2.1 t6) fun M8 => rec1 (w32 (s2.1 + 1), M8) else none) (fun (j5 : Int → Option Mem) => jn (fun (t11 : Unit) => j5 0) (fun (j10 : Unit → Option Mem) => if a1 = 3 then (if s2.1 < 17 then (j10 ()) else (j5 (-1))) else (j10 ()))) else none) else (jn (fun (t15 : Mem) => if a1 = 1 then (if t15.2.1 a0 = 10 then if t15.2.1 (t15.1 a0 19) = 12 ∧ (0 : Int) ≤ 0 ∧ 0 < t15.2.2.1 (t15.1 a0 19) then bM (mst t15 (t15.1 a0 19) 0 2) fun M19 => if M19.2.1 (M19.1 a0 19) = 12 ∧ (0 : Int) ≤ 1 ∧ 1 < M19.2.2.1 (M19.1 a0 19) then bM (mst M19 (M19.1 a0 19) 1 20) fun M22 => some M22 else none else none else none) else (some t15)) (fun (j14 : Mem → Option Mem) => if a1 = 0 then (if s2.2.2.1 a0 = 10 then (fX11_blankTown s2.2 a0).bind fun r25 => j14 r25 else none) else (j14 s2.2)))) BIG (0, M)
set_option maxRecDepth 100000 in
set_option maxHeartbeats 4000000 in
theorem kX11_blank (d : Nat) (hd : 1 ≤ d) (M : Mem) (a0 a1 : Int) : Ct mX11_blank d 0 0 [pA a0, pI a1] M dV (fX11_blank M a0 a1) := by
  obtain ⟨d, rfl⟩ : ∃ k, d = k + 1 := ⟨d - 1, by omega⟩
  refine Ct.of 1 (fun _ _ _ => trivial) (by decide +kernel) rfl ?_
  unfold fX11_blank
  refine v_iconst dX11_blank_0 (by decide) ?_
  refine v_istore_n (ls' := [some (pA a0), some (pI a1), some (pI 0)]) dX11_blank_1 (by decide) rfl ?_
  refine v_loop (fun (s2 : Int × Mem) => [some (pA a0), some (pI a1), some (pI s2.1)]) (fun (s2 : Int × Mem) => s2.2) (s0 := (0, M)) ?_
  intro rec1 hrec1 s2
  refine v_iload_n dX11_blank_2 rfl ?_
  refine v_sipush dX11_blank_3 (by decide) ?_
  refine v_icmp_ge (tgt := 37) dX11_blank_6 (by decide) (fun c3 => ?_) (fun c3 => ?_)
  · refine v_aload_n dX11_blank_9 rfl ?_
    refine v_if (fun h4 => ?_)
    refine v_get (v := pA (s2.2.1 a0 19)) 10 19 rfl inX11 (by decide) tw1212 dX11_blank_10 h4 rfl ?_
    refine v_iload_n dX11_blank_13 rfl ?_
    refine v_iload_n dX11_blank_14 rfl ?_
    refine v_iconst dX11_blank_15 (by decide) ?_
    refine v_join (fun (t6 : Int) => [some (pA a0), some (pI a1), some (pI s2.1)]) (fun (t6 : Int) => [pI t6, pI s2.1, pA (s2.2.1 a0 19)]) (fun (t6 : Int) => s2.2) 30 (fun t6 => ?_) (fun j5 hj5 => ?_)
    · refine v_if (fun h7 => ?_)
      refine v_iastore h7 dX11_blank_30 ?_
      refine v_bM (fun M8 e9 => ?_)
      refine v_iinc (ls' := [some (pA a0), some (pI a1), some (pI (w32 (s2.1 + 1)))]) dX11_blank_31 (by decide) rfl rfl ?_
      refine v_goto (tgt := 2) dX11_blank_34 (by decide) ?_
      exact hrec1 (w32 (s2.1 + 1), M8)
    · refine v_join (fun (t11 : Unit) => [some (pA a0), some (pI a1), some (pI s2.1)]) (fun (t11 : Unit) => [pI s2.1, pA (s2.2.1 a0 19)]) (fun (t11 : Unit) => s2.2) 29 (fun t11 => ?_) (fun j10 hj10 => ?_)
      · refine v_iconst dX11_blank_29 (by decide) ?_
        exact hj5 0
      · refine v_icmp_ne (tgt := 29) dX11_blank_16 (by decide) (fun c12 => ?_) (fun c12 => ?_)
        · refine v_iload_n dX11_blank_19 rfl ?_
          refine v_bipush dX11_blank_20 (by decide) ?_
          refine v_icmp_lt (tgt := 29) dX11_blank_22 (by decide) (fun c13 => ?_) (fun c13 => ?_)
          · exact hj10 ()
          · refine v_iconst dX11_blank_25 (by decide) ?_
            refine v_goto (tgt := 30) dX11_blank_26 (by decide) ?_
            exact hj5 (-1)
        · exact hj10 ()
  · refine v_iload_n dX11_blank_37 rfl ?_
    refine v_join (fun (t15 : Mem) => [some (pA a0), some (pI a1), none]) (fun (t15 : Mem) => []) (fun (t15 : Mem) => t15) 45 (fun t15 => ?_) (fun j14 hj14 => ?_)
    · refine v_iload_n dX11_blank_45 rfl ?_
      refine v_iconst dX11_blank_46 (by decide) ?_
      refine v_icmp_ne (tgt := 65) dX11_blank_47 (by decide) (fun c16 => ?_) (fun c16 => ?_)
      · refine v_aload_n dX11_blank_50 rfl ?_
        refine v_if (fun h17 => ?_)
        refine v_get (v := pA (t15.1 a0 19)) 10 19 rfl inX11 (by decide) tw1212 dX11_blank_51 h17 rfl ?_
        refine v_iconst dX11_blank_54 (by decide) ?_
        refine v_iconst dX11_blank_55 (by decide) ?_
        refine v_if (fun h18 => ?_)
        refine v_iastore h18 dX11_blank_56 ?_
        refine v_bM (fun M19 e20 => ?_)
        refine v_aload_n dX11_blank_57 rfl ?_
        refine v_get (v := pA (M19.1 a0 19)) 10 19 rfl inX11 (by decide) tw1212 dX11_blank_58 (by rw [e20]; exact h17) rfl ?_
        refine v_iconst dX11_blank_61 (by decide) ?_
        refine v_bipush dX11_blank_62 (by decide) ?_
        refine v_if (fun h21 => ?_)
        refine v_iastore h21 dX11_blank_64 ?_
        refine v_bM (fun M22 e23 => ?_)
        exact v_return dX11_blank_65 rfl rfl
      · exact v_return dX11_blank_65 rfl rfl
    · refine v_if_ne (tgt := 45) dX11_blank_38 (by decide) (fun c24 => ?_) (fun c24 => ?_)
      · refine v_aload_n dX11_blank_41 rfl ?_
        refine v_if (fun h27 => ?_)
        refine v_cV (mi := mX11_blank) (c0 := 0) (c1 := 0) (As := []) (st := []) (kX11_blankTown d (by omega) _ _) rfl h27 rfl okX11_blankTown (Or.inl tw1379) tw1381 tp31 rfl (Nat.le_of_ble_eq_true rfl) dX11_blank_42 (fun r25 => []) (fun r25 => r25) (fun _ => rfl) (fun _ => rfl) (fun r25 h26 => ?_) rfl
        exact v_drop [some (pA a0), some (pI a1), none] (ls_s (ls_s (ls_n ls_e))) (hj14 r25)
      · exact v_drop [some (pA a0), some (pI a1), none] (ls_s (ls_s (ls_n ls_e))) (hj14 s2.2)
theorem chX11_readText_0 : (cX11_readText.data.toList.drop 0).take 16 = [42, 27, 182, 0, 254, 42, 2, 181, 0, 160, 42, 2, 181, 0, 174, 42] := by decide +kernel
theorem chX11_readText_1 : (cX11_readText.data.toList.drop 16).take 16 = [3, 181, 0, 106, 42, 3, 181, 0, 132, 42, 182, 0, 150, 42, 27, 182] := by decide +kernel
theorem chX11_readText_2 : (cX11_readText.data.toList.drop 32).take 16 = [1, 1, 61, 28, 153, 0, 49, 27, 154, 0, 45, 42, 180, 0, 132, 154] := by decide +kernel
theorem chX11_readText_3 : (cX11_readText.data.toList.drop 48).take 16 = [0, 38, 42, 180, 0, 160, 42, 180, 0, 38, 3, 46, 162, 0, 16, 42] := by decide +kernel
theorem chX11_readText_4 : (cX11_readText.data.toList.drop 64).take 16 = [180, 0, 174, 42, 180, 0, 38, 4, 46, 161, 0, 12, 42, 7, 42, 180] := by decide +kernel
theorem chX11_readText_5 : (cX11_readText.data.toList.drop 80).take 16 = [0, 116, 182, 0, 142, 42, 180, 0, 17, 3, 28, 153, 0, 10, 42, 180] := by decide +kernel
theorem chX11_readText_6 : (cX11_readText.data.toList.drop 96).take 16 = [0, 132, 167, 0, 4, 4, 79, 42, 180, 0, 20, 3, 28, 154, 0, 10] := by decide +kernel
theorem chX11_readText_7 : (cX11_readText.data.toList.drop 112).take 16 = [42, 180, 0, 129, 167, 0, 18, 42, 180, 0, 132, 158, 0, 10, 42, 180] := by decide +kernel
theorem chX11_readText_8 : (cX11_readText.data.toList.drop 128).take 16 = [0, 135, 167, 0, 4, 2, 79, 42, 180, 0, 17, 3, 46, 154, 0, 7] := by decide +kernel
theorem chX11_readText_9 : (cX11_readText.data.toList.drop 144).take 16 = [4, 167, 0, 4, 3, 172] := by decide +kernel
theorem dX11_readText_0 : decode cX11_readText 0 = .ok (.aload_n 0, 1) := oq_42 (byt chX11_readText_0 0 rfl)
theorem dX11_readText_1 : decode cX11_readText 1 = .ok (.iload_n 1, 1) := oq_27 (byt chX11_readText_0 1 rfl)
theorem dX11_readText_2 : decode cX11_readText 2 = .ok (.invokevirtual 254, 3) := oq_182 (byt chX11_readText_0 2 rfl) (byt chX11_readText_0 3 rfl) (byt chX11_readText_0 4 rfl) rfl
theorem dX11_readText_5 : decode cX11_readText 5 = .ok (.aload_n 0, 1) := oq_42 (byt chX11_readText_0 5 rfl)
theorem dX11_readText_6 : decode cX11_readText 6 = .ok (.iconst (-1), 1) := oq_2 (byt chX11_readText_0 6 rfl)
theorem dX11_readText_7 : decode cX11_readText 7 = .ok (.putfield 160, 3) := oq_181 (byt chX11_readText_0 7 rfl) (byt chX11_readText_0 8 rfl) (byt chX11_readText_0 9 rfl) rfl
theorem dX11_readText_10 : decode cX11_readText 10 = .ok (.aload_n 0, 1) := oq_42 (byt chX11_readText_0 10 rfl)
theorem dX11_readText_11 : decode cX11_readText 11 = .ok (.iconst (-1), 1) := oq_2 (byt chX11_readText_0 11 rfl)
theorem dX11_readText_12 : decode cX11_readText 12 = .ok (.putfield 174, 3) := oq_181 (byt chX11_readText_0 12 rfl) (byt chX11_readText_0 13 rfl) (byt chX11_readText_0 14 rfl) rfl
theorem dX11_readText_15 : decode cX11_readText 15 = .ok (.aload_n 0, 1) := oq_42 (byt chX11_readText_0 15 rfl)
theorem dX11_readText_16 : decode cX11_readText 16 = .ok (.iconst 0, 1) := oq_3 (byt chX11_readText_1 0 rfl)
theorem dX11_readText_17 : decode cX11_readText 17 = .ok (.putfield 106, 3) := oq_181 (byt chX11_readText_1 1 rfl) (byt chX11_readText_1 2 rfl) (byt chX11_readText_1 3 rfl) rfl
theorem dX11_readText_20 : decode cX11_readText 20 = .ok (.aload_n 0, 1) := oq_42 (byt chX11_readText_1 4 rfl)
theorem dX11_readText_21 : decode cX11_readText 21 = .ok (.iconst 0, 1) := oq_3 (byt chX11_readText_1 5 rfl)
theorem dX11_readText_22 : decode cX11_readText 22 = .ok (.putfield 132, 3) := oq_181 (byt chX11_readText_1 6 rfl) (byt chX11_readText_1 7 rfl) (byt chX11_readText_1 8 rfl) rfl
theorem dX11_readText_25 : decode cX11_readText 25 = .ok (.aload_n 0, 1) := oq_42 (byt chX11_readText_1 9 rfl)
theorem dX11_readText_26 : decode cX11_readText 26 = .ok (.invokevirtual 150, 3) := oq_182 (byt chX11_readText_1 10 rfl) (byt chX11_readText_1 11 rfl) (byt chX11_readText_1 12 rfl) rfl
theorem dX11_readText_29 : decode cX11_readText 29 = .ok (.aload_n 0, 1) := oq_42 (byt chX11_readText_1 13 rfl)
theorem dX11_readText_30 : decode cX11_readText 30 = .ok (.iload_n 1, 1) := oq_27 (byt chX11_readText_1 14 rfl)
theorem dX11_readText_31 : decode cX11_readText 31 = .ok (.invokevirtual 257, 3) := oq_182 (byt chX11_readText_1 15 rfl) (byt chX11_readText_2 0 rfl) (byt chX11_readText_2 1 rfl) rfl
theorem dX11_readText_34 : decode cX11_readText 34 = .ok (.istore_n 2, 1) := oq_61 (byt chX11_readText_2 2 rfl)
theorem dX11_readText_35 : decode cX11_readText 35 = .ok (.iload_n 2, 1) := oq_28 (byt chX11_readText_2 3 rfl)
theorem dX11_readText_36 : decode cX11_readText 36 = .ok (.ifCond .eq 49, 3) := oq_153 (byt chX11_readText_2 4 rfl) (byt chX11_readText_2 5 rfl) (byt chX11_readText_2 6 rfl) (by decide +kernel)
theorem dX11_readText_39 : decode cX11_readText 39 = .ok (.iload_n 1, 1) := oq_27 (byt chX11_readText_2 7 rfl)
theorem dX11_readText_40 : decode cX11_readText 40 = .ok (.ifCond .ne 45, 3) := oq_154 (byt chX11_readText_2 8 rfl) (byt chX11_readText_2 9 rfl) (byt chX11_readText_2 10 rfl) (by decide +kernel)
theorem dX11_readText_43 : decode cX11_readText 43 = .ok (.aload_n 0, 1) := oq_42 (byt chX11_readText_2 11 rfl)
theorem dX11_readText_44 : decode cX11_readText 44 = .ok (.getfield 132, 3) := oq_180 (byt chX11_readText_2 12 rfl) (byt chX11_readText_2 13 rfl) (byt chX11_readText_2 14 rfl) rfl
theorem dX11_readText_47 : decode cX11_readText 47 = .ok (.ifCond .ne 38, 3) := oq_154 (byt chX11_readText_2 15 rfl) (byt chX11_readText_3 0 rfl) (byt chX11_readText_3 1 rfl) (by decide +kernel)
theorem dX11_readText_50 : decode cX11_readText 50 = .ok (.aload_n 0, 1) := oq_42 (byt chX11_readText_3 2 rfl)
theorem dX11_readText_51 : decode cX11_readText 51 = .ok (.getfield 160, 3) := oq_180 (byt chX11_readText_3 3 rfl) (byt chX11_readText_3 4 rfl) (byt chX11_readText_3 5 rfl) rfl
theorem dX11_readText_54 : decode cX11_readText 54 = .ok (.aload_n 0, 1) := oq_42 (byt chX11_readText_3 6 rfl)
theorem dX11_readText_55 : decode cX11_readText 55 = .ok (.getfield 38, 3) := oq_180 (byt chX11_readText_3 7 rfl) (byt chX11_readText_3 8 rfl) (byt chX11_readText_3 9 rfl) rfl
theorem dX11_readText_58 : decode cX11_readText 58 = .ok (.iconst 0, 1) := oq_3 (byt chX11_readText_3 10 rfl)
theorem dX11_readText_59 : decode cX11_readText 59 = .ok (.iaload, 1) := oq_46 (byt chX11_readText_3 11 rfl)
theorem dX11_readText_60 : decode cX11_readText 60 = .ok (.if_icmp .ge 16, 3) := oq_162 (byt chX11_readText_3 12 rfl) (byt chX11_readText_3 13 rfl) (byt chX11_readText_3 14 rfl) (by decide +kernel)
theorem dX11_readText_63 : decode cX11_readText 63 = .ok (.aload_n 0, 1) := oq_42 (byt chX11_readText_3 15 rfl)
theorem dX11_readText_64 : decode cX11_readText 64 = .ok (.getfield 174, 3) := oq_180 (byt chX11_readText_4 0 rfl) (byt chX11_readText_4 1 rfl) (byt chX11_readText_4 2 rfl) rfl
theorem dX11_readText_67 : decode cX11_readText 67 = .ok (.aload_n 0, 1) := oq_42 (byt chX11_readText_4 3 rfl)
theorem dX11_readText_68 : decode cX11_readText 68 = .ok (.getfield 38, 3) := oq_180 (byt chX11_readText_4 4 rfl) (byt chX11_readText_4 5 rfl) (byt chX11_readText_4 6 rfl) rfl
theorem dX11_readText_71 : decode cX11_readText 71 = .ok (.iconst 1, 1) := oq_4 (byt chX11_readText_4 7 rfl)
theorem dX11_readText_72 : decode cX11_readText 72 = .ok (.iaload, 1) := oq_46 (byt chX11_readText_4 8 rfl)
theorem dX11_readText_73 : decode cX11_readText 73 = .ok (.if_icmp .lt 12, 3) := oq_161 (byt chX11_readText_4 9 rfl) (byt chX11_readText_4 10 rfl) (byt chX11_readText_4 11 rfl) (by decide +kernel)
theorem dX11_readText_76 : decode cX11_readText 76 = .ok (.aload_n 0, 1) := oq_42 (byt chX11_readText_4 12 rfl)
theorem dX11_readText_77 : decode cX11_readText 77 = .ok (.iconst 4, 1) := oq_7 (byt chX11_readText_4 13 rfl)
theorem dX11_readText_78 : decode cX11_readText 78 = .ok (.aload_n 0, 1) := oq_42 (byt chX11_readText_4 14 rfl)
theorem dX11_readText_79 : decode cX11_readText 79 = .ok (.getfield 116, 3) := oq_180 (byt chX11_readText_4 15 rfl) (byt chX11_readText_5 0 rfl) (byt chX11_readText_5 1 rfl) rfl
theorem dX11_readText_82 : decode cX11_readText 82 = .ok (.invokevirtual 142, 3) := oq_182 (byt chX11_readText_5 2 rfl) (byt chX11_readText_5 3 rfl) (byt chX11_readText_5 4 rfl) rfl
theorem dX11_readText_85 : decode cX11_readText 85 = .ok (.aload_n 0, 1) := oq_42 (byt chX11_readText_5 5 rfl)
theorem dX11_readText_86 : decode cX11_readText 86 = .ok (.getfield 17, 3) := oq_180 (byt chX11_readText_5 6 rfl) (byt chX11_readText_5 7 rfl) (byt chX11_readText_5 8 rfl) rfl
theorem dX11_readText_89 : decode cX11_readText 89 = .ok (.iconst 0, 1) := oq_3 (byt chX11_readText_5 9 rfl)
theorem dX11_readText_90 : decode cX11_readText 90 = .ok (.iload_n 2, 1) := oq_28 (byt chX11_readText_5 10 rfl)
theorem dX11_readText_91 : decode cX11_readText 91 = .ok (.ifCond .eq 10, 3) := oq_153 (byt chX11_readText_5 11 rfl) (byt chX11_readText_5 12 rfl) (byt chX11_readText_5 13 rfl) (by decide +kernel)
theorem dX11_readText_94 : decode cX11_readText 94 = .ok (.aload_n 0, 1) := oq_42 (byt chX11_readText_5 14 rfl)
theorem dX11_readText_95 : decode cX11_readText 95 = .ok (.getfield 132, 3) := oq_180 (byt chX11_readText_5 15 rfl) (byt chX11_readText_6 0 rfl) (byt chX11_readText_6 1 rfl) rfl
theorem dX11_readText_98 : decode cX11_readText 98 = .ok (.goto 4, 3) := oq_167 (byt chX11_readText_6 2 rfl) (byt chX11_readText_6 3 rfl) (byt chX11_readText_6 4 rfl) (by decide +kernel)
theorem dX11_readText_101 : decode cX11_readText 101 = .ok (.iconst 1, 1) := oq_4 (byt chX11_readText_6 5 rfl)
theorem dX11_readText_102 : decode cX11_readText 102 = .ok (.iastore, 1) := oq_79 (byt chX11_readText_6 6 rfl)
theorem dX11_readText_103 : decode cX11_readText 103 = .ok (.aload_n 0, 1) := oq_42 (byt chX11_readText_6 7 rfl)
theorem dX11_readText_104 : decode cX11_readText 104 = .ok (.getfield 20, 3) := oq_180 (byt chX11_readText_6 8 rfl) (byt chX11_readText_6 9 rfl) (byt chX11_readText_6 10 rfl) rfl
theorem dX11_readText_107 : decode cX11_readText 107 = .ok (.iconst 0, 1) := oq_3 (byt chX11_readText_6 11 rfl)
theorem dX11_readText_108 : decode cX11_readText 108 = .ok (.iload_n 2, 1) := oq_28 (byt chX11_readText_6 12 rfl)
theorem dX11_readText_109 : decode cX11_readText 109 = .ok (.ifCond .ne 10, 3) := oq_154 (byt chX11_readText_6 13 rfl) (byt chX11_readText_6 14 rfl) (byt chX11_readText_6 15 rfl) (by decide +kernel)
theorem dX11_readText_112 : decode cX11_readText 112 = .ok (.aload_n 0, 1) := oq_42 (byt chX11_readText_7 0 rfl)
theorem dX11_readText_113 : decode cX11_readText 113 = .ok (.getfield 129, 3) := oq_180 (byt chX11_readText_7 1 rfl) (byt chX11_readText_7 2 rfl) (byt chX11_readText_7 3 rfl) rfl
theorem dX11_readText_116 : decode cX11_readText 116 = .ok (.goto 18, 3) := oq_167 (byt chX11_readText_7 4 rfl) (byt chX11_readText_7 5 rfl) (byt chX11_readText_7 6 rfl) (by decide +kernel)
theorem dX11_readText_119 : decode cX11_readText 119 = .ok (.aload_n 0, 1) := oq_42 (byt chX11_readText_7 7 rfl)
theorem dX11_readText_120 : decode cX11_readText 120 = .ok (.getfield 132, 3) := oq_180 (byt chX11_readText_7 8 rfl) (byt chX11_readText_7 9 rfl) (byt chX11_readText_7 10 rfl) rfl
theorem dX11_readText_123 : decode cX11_readText 123 = .ok (.ifCond .le 10, 3) := oq_158 (byt chX11_readText_7 11 rfl) (byt chX11_readText_7 12 rfl) (byt chX11_readText_7 13 rfl) (by decide +kernel)
theorem dX11_readText_126 : decode cX11_readText 126 = .ok (.aload_n 0, 1) := oq_42 (byt chX11_readText_7 14 rfl)
theorem dX11_readText_127 : decode cX11_readText 127 = .ok (.getfield 135, 3) := oq_180 (byt chX11_readText_7 15 rfl) (byt chX11_readText_8 0 rfl) (byt chX11_readText_8 1 rfl) rfl
theorem dX11_readText_130 : decode cX11_readText 130 = .ok (.goto 4, 3) := oq_167 (byt chX11_readText_8 2 rfl) (byt chX11_readText_8 3 rfl) (byt chX11_readText_8 4 rfl) (by decide +kernel)
theorem dX11_readText_133 : decode cX11_readText 133 = .ok (.iconst (-1), 1) := oq_2 (byt chX11_readText_8 5 rfl)
theorem dX11_readText_134 : decode cX11_readText 134 = .ok (.iastore, 1) := oq_79 (byt chX11_readText_8 6 rfl)
theorem dX11_readText_135 : decode cX11_readText 135 = .ok (.aload_n 0, 1) := oq_42 (byt chX11_readText_8 7 rfl)
theorem dX11_readText_136 : decode cX11_readText 136 = .ok (.getfield 17, 3) := oq_180 (byt chX11_readText_8 8 rfl) (byt chX11_readText_8 9 rfl) (byt chX11_readText_8 10 rfl) rfl
theorem dX11_readText_139 : decode cX11_readText 139 = .ok (.iconst 0, 1) := oq_3 (byt chX11_readText_8 11 rfl)
theorem dX11_readText_140 : decode cX11_readText 140 = .ok (.iaload, 1) := oq_46 (byt chX11_readText_8 12 rfl)
theorem dX11_readText_141 : decode cX11_readText 141 = .ok (.ifCond .ne 7, 3) := oq_154 (byt chX11_readText_8 13 rfl) (byt chX11_readText_8 14 rfl) (byt chX11_readText_8 15 rfl) (by decide +kernel)
theorem dX11_readText_144 : decode cX11_readText 144 = .ok (.iconst 1, 1) := oq_4 (byt chX11_readText_9 0 rfl)
theorem dX11_readText_145 : decode cX11_readText 145 = .ok (.goto 4, 3) := oq_167 (byt chX11_readText_9 1 rfl) (byt chX11_readText_9 2 rfl) (byt chX11_readText_9 3 rfl) (by decide +kernel)
theorem dX11_readText_148 : decode cX11_readText 148 = .ok (.iconst 0, 1) := oq_3 (byt chX11_readText_9 4 rfl)
theorem dX11_readText_149 : decode cX11_readText 149 = .ok (.ireturn, 1) := oq_172 (byt chX11_readText_9 5 rfl)
abbrev mX11_readText : MI := (yX11_readText, cX11_readText, 3, (some .boolean), noE)
theorem okX11_readText : cok mX11_readText 1 := ⟨tw1374, tw11, by decide, by decide, by decide, by decide +kernel⟩
def fX11_readText (M : Mem) (a0 a1 : Int) : Option (Int × Mem) :=
  if M.2.1 a0 = 10 then (fX11_blank M a0 a1).bind fun r1 => if r1.2.1 a0 = 10 then bM (mst r1 a0 21 (-1)) fun M5 => bM (mst M5 a0 22 (-1)) fun M7 => bM (mst M7 a0 10 0) fun M9 => bM (mst M9 a0 17 0) fun M11 => (fX11_token M11 a0).bind fun r13 => if r13.2.1 a0 = 10 then (fX11_lines r13 a0 a1).bind fun r15 => jn (fun (t19 : Mem) => if t19.2.1 a0 = 10 then jn (fun (t22 : Int) => if t19.2.1 (t19.1 a0 3) = 12 ∧ (0 : Int) ≤ 0 ∧ 0 < t19.2.2.1 (t19.1 a0 3) then bM (mst t19 (t19.1 a0 3) 0 t22) fun M24 => jn (fun (t27 : Int) => if M24.2.1 (M24.1 a0 4) = 12 ∧ (0 : Int) ≤ 0 ∧ 0 < M24.2.2.1 (M24.1 a0 4) then bM (mst M24 (M24.1 a0 4) 0 t27) fun M29 => if M29.2.1 (M29.1 a0 3) = 12 ∧ (0 : Int) ≤ 0 ∧ 0 < M29.2.2.1 (M29.1 a0 3) then if M29.1 (M29.1 a0 3) 0 = 0 then (some (1, M29)) else (some (0, M29)) else none else none) (fun (j26 : Int → Option (Int × Mem)) => if r15.1 = 0 then (j26 (M24.1 a0 16)) else (if 0 < M24.1 a0 17 then (j26 (M24.1 a0 18)) else (j26 (-1)))) else none) (fun (j21 : Int → Option (Int × Mem)) => if r15.1 = 0 then (j21 1) else (j21 (t19.1 a0 17))) else none) (fun (j18 : Mem → Option (Int × Mem)) => if r15.1 = 0 then (j18 r15.2) else (if a1 = 0 then (if r15.2.2.1 a0 = 10 then if r15.2.1 a0 17 = 0 then (if r15.2.2.1 (r15.2.1 a0 19) = 12 ∧ (0 : Int) ≤ 0 ∧ 0 < r15.2.2.2.1 (r15.2.1 a0 19) then jn (fun (t42 : Unit) => (fX11_later r15.2 a0 4 (r15.2.1 a0 12)).bind fun r43 => j18 r43) (fun (j41 : Unit → Option (Int × Mem)) => if r15.2.1 a0 21 < r15.2.1 (r15.2.1 a0 19) 0 then (if r15.2.2.1 (r15.2.1 a0 19) = 12 ∧ (0 : Int) ≤ 1 ∧ 1 < r15.2.2.2.1 (r15.2.1 a0 19) then if r15.2.1 a0 22 < r15.2.1 (r15.2.1 a0 19) 1 then (j18 r15.2) else (j41 ()) else none) else (j41 ())) else none) else (j18 r15.2) else none) else (j18 r15.2))) else none else none else none
set_option maxRecDepth 100000 in
set_option maxHeartbeats 4000000 in
theorem kX11_readText (d : Nat) (hd : 9 ≤ d) (M : Mem) (a0 a1 : Int) : Ct mX11_readText d 0 0 [pA a0, pI a1] M dIM (fX11_readText M a0 a1) := by
  obtain ⟨d, rfl⟩ : ∃ k, d = k + 1 := ⟨d - 1, by omega⟩
  refine Ct.of 1 (fun _ _ _ => trivial) (by decide +kernel) rfl ?_
  unfold fX11_readText
  refine v_aload_n dX11_readText_0 rfl ?_
  refine v_iload_n dX11_readText_1 rfl ?_
  refine v_if (fun h3 => ?_)
  refine v_cV (mi := mX11_readText) (c0 := 0) (c1 := 0) (As := [pI a1]) (st := []) (kX11_blank d (by omega) _ _ _) rfl h3 rfl okX11_blank (Or.inl tw1375) tw1377 tp30 rfl (Nat.le_of_ble_eq_true rfl) dX11_readText_2 (fun r1 => []) (fun r1 => r1) (fun _ => rfl) (fun _ => rfl) (fun r1 h2 => ?_) rfl
  refine v_aload_n dX11_readText_5 rfl ?_
  refine v_iconst dX11_readText_6 (by decide) ?_
  refine v_if (fun h4 => ?_)
  refine v_put (x := (-1)) 10 21 rfl inX11 (by decide) tw1214 (Or.inl rfl) rfl dX11_readText_7 h4 rfl id ?_
  refine v_bM (fun M5 e6 => ?_)
  refine v_aload_n dX11_readText_10 rfl ?_
  refine v_iconst dX11_readText_11 (by decide) ?_
  refine v_put (x := (-1)) 10 22 rfl inX11 (by decide) tw1215 (Or.inl rfl) rfl dX11_readText_12 (by rw [e6]; exact h4) rfl id ?_
  refine v_bM (fun M7 e8 => ?_)
  refine v_aload_n dX11_readText_15 rfl ?_
  refine v_iconst dX11_readText_16 (by decide) ?_
  refine v_put (x := 0) 10 10 rfl inX11 (by decide) tw1203 (Or.inl rfl) rfl dX11_readText_17 (by rw [e8, e6]; exact h4) rfl id ?_
  refine v_bM (fun M9 e10 => ?_)
  refine v_aload_n dX11_readText_20 rfl ?_
  refine v_iconst dX11_readText_21 (by decide) ?_
  refine v_put (x := 0) 10 17 rfl inX11 (by decide) tw1210 (Or.inl rfl) rfl dX11_readText_22 (by rw [e10, e8, e6]; exact h4) rfl id ?_
  refine v_bM (fun M11 e12 => ?_)
  refine v_aload_n dX11_readText_25 rfl ?_
  refine v_cV (mi := mX11_readText) (c0 := 0) (c1 := 0) (As := []) (st := []) (kX11_token d (by omega) _ _) rfl (by rw [e12, e10, e8, e6]; exact h4) rfl okX11_token (Or.inl tw1383) tw1385 tp32 rfl (Nat.le_of_ble_eq_true rfl) dX11_readText_26 (fun r13 => []) (fun r13 => r13) (fun _ => rfl) (fun _ => rfl) (fun r13 h14 => ?_) rfl
  refine v_aload_n dX11_readText_29 rfl ?_
  refine v_iload_n dX11_readText_30 rfl ?_
  refine v_if (fun h17 => ?_)
  refine v_cV (mi := mX11_readText) (c0 := 0) (c1 := 0) (As := [pI a1]) (st := []) (kX11_lines d (by omega) _ _ _) rfl h17 rfl okX11_lines (Or.inl tw1391) tw1393 tp34 rfl (Nat.le_of_ble_eq_true rfl) dX11_readText_31 (fun r15 => [pI r15.1]) (fun r15 => r15.2) (fun _ => rfl) (fun _ => rfl) (fun r15 h16 => ?_) rfl
  refine v_istore_n (ls' := [some (pA a0), some (pI a1), some (pI r15.1)]) dX11_readText_34 (by decide) rfl ?_
  refine v_iload_n dX11_readText_35 rfl ?_
  refine v_join (fun (t19 : Mem) => [some (pA a0), none, some (pI r15.1)]) (fun (t19 : Mem) => []) (fun (t19 : Mem) => t19) 85 (fun t19 => ?_) (fun j18 hj18 => ?_)
  · refine v_aload_n dX11_readText_85 rfl ?_
    refine v_if (fun h20 => ?_)
    refine v_get (v := pA (t19.1 a0 3)) 10 3 rfl inX11 (by decide) tw1196 dX11_readText_86 h20 rfl ?_
    refine v_iconst dX11_readText_89 (by decide) ?_
    refine v_iload_n dX11_readText_90 rfl ?_
    refine v_join (fun (t22 : Int) => [some (pA a0), none, some (pI r15.1)]) (fun (t22 : Int) => [pI t22, pI 0, pA (t19.1 a0 3)]) (fun (t22 : Int) => t19) 102 (fun t22 => ?_) (fun j21 hj21 => ?_)
    · refine v_if (fun h23 => ?_)
      refine v_iastore h23 dX11_readText_102 ?_
      refine v_bM (fun M24 e25 => ?_)
      refine v_aload_n dX11_readText_103 rfl ?_
      refine v_get (v := pA (M24.1 a0 4)) 10 4 rfl inX11 (by decide) tw1197 dX11_readText_104 (by rw [e25]; exact h20) rfl ?_
      refine v_iconst dX11_readText_107 (by decide) ?_
      refine v_iload_n dX11_readText_108 rfl ?_
      refine v_join (fun (t27 : Int) => [some (pA a0), none, none]) (fun (t27 : Int) => [pI t27, pI 0, pA (M24.1 a0 4)]) (fun (t27 : Int) => M24) 134 (fun t27 => ?_) (fun j26 hj26 => ?_)
      · refine v_if (fun h28 => ?_)
        refine v_iastore h28 dX11_readText_134 ?_
        refine v_bM (fun M29 e30 => ?_)
        refine v_aload_n dX11_readText_135 rfl ?_
        refine v_get (v := pA (M29.1 a0 3)) 10 3 rfl inX11 (by decide) tw1196 dX11_readText_136 (by rw [e30, e25]; exact h20) rfl ?_
        refine v_iconst dX11_readText_139 (by decide) ?_
        refine v_if (fun h31 => ?_)
        refine v_iaload h31 dX11_readText_140 ?_
        refine v_if_ne (tgt := 148) dX11_readText_141 (by decide) (fun c32 => ?_) (fun c32 => ?_)
        · refine v_iconst dX11_readText_144 (by decide) ?_
          refine v_goto (tgt := 149) dX11_readText_145 (by decide) ?_
          exact v_breturn dX11_readText_149 rfl (by decide) rfl
        · refine v_iconst dX11_readText_148 (by decide) ?_
          exact v_breturn dX11_readText_149 rfl (by decide) rfl
      · refine v_if_ne (tgt := 119) dX11_readText_109 (by decide) (fun c33 => ?_) (fun c33 => ?_)
        · refine v_aload_n dX11_readText_112 rfl ?_
          refine v_get (v := pI (M24.1 a0 16)) 10 16 rfl inX11 (by decide) tw1209 dX11_readText_113 (by rw [e25]; exact h20) rfl ?_
          refine v_goto (tgt := 134) dX11_readText_116 (by decide) ?_
          exact v_drop [some (pA a0), none, none] (ls_s (ls_n (ls_n ls_e))) (hj26 (M24.1 a0 16))
        · refine v_aload_n dX11_readText_119 rfl ?_
          refine v_get (v := pI (M24.1 a0 17)) 10 17 rfl inX11 (by decide) tw1210 dX11_readText_120 (by rw [e25]; exact h20) rfl ?_
          refine v_if_le (tgt := 133) dX11_readText_123 (by decide) (fun c34 => ?_) (fun c34 => ?_)
          · refine v_aload_n dX11_readText_126 rfl ?_
            refine v_get (v := pI (M24.1 a0 18)) 10 18 rfl inX11 (by decide) tw1211 dX11_readText_127 (by rw [e25]; exact h20) rfl ?_
            refine v_goto (tgt := 134) dX11_readText_130 (by decide) ?_
            exact v_drop [some (pA a0), none, none] (ls_s (ls_n (ls_n ls_e))) (hj26 (M24.1 a0 18))
          · refine v_iconst dX11_readText_133 (by decide) ?_
            exact v_drop [some (pA a0), none, none] (ls_s (ls_n (ls_n ls_e))) (hj26 (-1))
    · refine v_if_eq (tgt := 101) dX11_readText_91 (by decide) (fun c35 => ?_) (fun c35 => ?_)
      · refine v_iconst dX11_readText_101 (by decide) ?_
        exact hj21 1
      · refine v_aload_n dX11_readText_94 rfl ?_
        refine v_get (v := pI (t19.1 a0 17)) 10 17 rfl inX11 (by decide) tw1210 dX11_readText_95 h20 rfl ?_
        refine v_goto (tgt := 102) dX11_readText_98 (by decide) ?_
        exact hj21 (t19.1 a0 17)
  · refine v_if_eq (tgt := 85) dX11_readText_36 (by decide) (fun c36 => ?_) (fun c36 => ?_)
    · exact v_drop [some (pA a0), none, some (pI r15.1)] (ls_s (ls_n (ls_s ls_e))) (hj18 r15.2)
    · refine v_iload_n dX11_readText_39 rfl ?_
      refine v_if_ne (tgt := 85) dX11_readText_40 (by decide) (fun c37 => ?_) (fun c37 => ?_)
      · refine v_aload_n dX11_readText_43 rfl ?_
        refine v_if (fun h38 => ?_)
        refine v_get (v := pI (r15.2.1 a0 17)) 10 17 rfl inX11 (by decide) tw1210 dX11_readText_44 h38 rfl ?_
        refine v_if_ne (tgt := 85) dX11_readText_47 (by decide) (fun c39 => ?_) (fun c39 => ?_)
        · refine v_aload_n dX11_readText_50 rfl ?_
          refine v_get (v := pI (r15.2.1 a0 21)) 10 21 rfl inX11 (by decide) tw1214 dX11_readText_51 h38 rfl ?_
          refine v_aload_n dX11_readText_54 rfl ?_
          refine v_get (v := pA (r15.2.1 a0 19)) 10 19 rfl inX11 (by decide) tw1212 dX11_readText_55 h38 rfl ?_
          refine v_iconst dX11_readText_58 (by decide) ?_
          refine v_if (fun h40 => ?_)
          refine v_iaload h40 dX11_readText_59 ?_
          refine v_join (fun (t42 : Unit) => [some (pA a0), none, some (pI r15.1)]) (fun (t42 : Unit) => []) (fun (t42 : Unit) => r15.2) 76 (fun t42 => ?_) (fun j41 hj41 => ?_)
          · refine v_aload_n dX11_readText_76 rfl ?_
            refine v_iconst dX11_readText_77 (by decide) ?_
            refine v_aload_n dX11_readText_78 rfl ?_
            refine v_get (v := pI (r15.2.1 a0 12)) 10 12 rfl inX11 (by decide) tw1205 dX11_readText_79 h38 rfl ?_
            refine v_cV (mi := mX11_readText) (c0 := 0) (c1 := 0) (As := [pI 4, pI (r15.2.1 a0 12)]) (st := []) (kX11_later d (by omega) _ _ _ _) rfl h38 rfl okX11_later (Or.inl tw1420) tw1422 tp39 rfl (Nat.le_of_ble_eq_true rfl) dX11_readText_82 (fun r43 => []) (fun r43 => r43) (fun _ => rfl) (fun _ => rfl) (fun r43 h44 => ?_) rfl
            exact hj18 r43
          · refine v_icmp_ge (tgt := 76) dX11_readText_60 (by decide) (fun c45 => ?_) (fun c45 => ?_)
            · refine v_aload_n dX11_readText_63 rfl ?_
              refine v_get (v := pI (r15.2.1 a0 22)) 10 22 rfl inX11 (by decide) tw1215 dX11_readText_64 h38 rfl ?_
              refine v_aload_n dX11_readText_67 rfl ?_
              refine v_get (v := pA (r15.2.1 a0 19)) 10 19 rfl inX11 (by decide) tw1212 dX11_readText_68 h38 rfl ?_
              refine v_iconst dX11_readText_71 (by decide) ?_
              refine v_if (fun h46 => ?_)
              refine v_iaload h46 dX11_readText_72 ?_
              refine v_icmp_lt (tgt := 85) dX11_readText_73 (by decide) (fun c47 => ?_) (fun c47 => ?_)
              · exact v_drop [some (pA a0), none, some (pI r15.1)] (ls_s (ls_n (ls_s ls_e))) (hj18 r15.2)
              · exact v_drop [some (pA a0), none, some (pI r15.1)] (ls_s (ls_n (ls_s ls_e))) (hj41 ())
            · exact v_drop [some (pA a0), none, some (pI r15.1)] (ls_s (ls_n (ls_s ls_e))) (hj41 ())
        · exact v_drop [some (pA a0), none, some (pI r15.1)] (ls_s (ls_n (ls_s ls_e))) (hj18 r15.2)
      · exact v_drop [some (pA a0), none, some (pI r15.1)] (ls_s (ls_n (ls_s ls_e))) (hj18 r15.2)
theorem chX11_store_0 : (cX11_store.data.toList.drop 0).take 16 = [3, 54, 4, 21, 4, 28, 162, 0, 24, 43, 28, 29, 104, 21, 4, 96] := by decide +kernel
theorem chX11_store_1 : (cX11_store.data.toList.drop 16).take 16 = [42, 180, 0, 38, 21, 4, 46, 79, 132, 4, 1, 167, 255, 232, 177] := by decide +kernel
theorem dX11_store_0 : decode cX11_store 0 = .ok (.iconst 0, 1) := oq_3 (byt chX11_store_0 0 rfl)
theorem dX11_store_1 : decode cX11_store 1 = .ok (.istore 4, 2) := oq_54 (byt chX11_store_0 1 rfl) (byt chX11_store_0 2 rfl) rfl
theorem dX11_store_3 : decode cX11_store 3 = .ok (.iload 4, 2) := oq_21 (byt chX11_store_0 3 rfl) (byt chX11_store_0 4 rfl) rfl
theorem dX11_store_5 : decode cX11_store 5 = .ok (.iload_n 2, 1) := oq_28 (byt chX11_store_0 5 rfl)
theorem dX11_store_6 : decode cX11_store 6 = .ok (.if_icmp .ge 24, 3) := oq_162 (byt chX11_store_0 6 rfl) (byt chX11_store_0 7 rfl) (byt chX11_store_0 8 rfl) (by decide +kernel)
theorem dX11_store_9 : decode cX11_store 9 = .ok (.aload_n 1, 1) := oq_43 (byt chX11_store_0 9 rfl)
theorem dX11_store_10 : decode cX11_store 10 = .ok (.iload_n 2, 1) := oq_28 (byt chX11_store_0 10 rfl)
theorem dX11_store_11 : decode cX11_store 11 = .ok (.iload_n 3, 1) := oq_29 (byt chX11_store_0 11 rfl)
theorem dX11_store_12 : decode cX11_store 12 = .ok (.imul, 1) := oq_104 (byt chX11_store_0 12 rfl)
theorem dX11_store_13 : decode cX11_store 13 = .ok (.iload 4, 2) := oq_21 (byt chX11_store_0 13 rfl) (byt chX11_store_0 14 rfl) rfl
theorem dX11_store_15 : decode cX11_store 15 = .ok (.iadd, 1) := oq_96 (byt chX11_store_0 15 rfl)
theorem dX11_store_16 : decode cX11_store 16 = .ok (.aload_n 0, 1) := oq_42 (byt chX11_store_1 0 rfl)
theorem dX11_store_17 : decode cX11_store 17 = .ok (.getfield 38, 3) := oq_180 (byt chX11_store_1 1 rfl) (byt chX11_store_1 2 rfl) (byt chX11_store_1 3 rfl) rfl
theorem dX11_store_20 : decode cX11_store 20 = .ok (.iload 4, 2) := oq_21 (byt chX11_store_1 4 rfl) (byt chX11_store_1 5 rfl) rfl
theorem dX11_store_22 : decode cX11_store 22 = .ok (.iaload, 1) := oq_46 (byt chX11_store_1 6 rfl)
theorem dX11_store_23 : decode cX11_store 23 = .ok (.iastore, 1) := oq_79 (byt chX11_store_1 7 rfl)
theorem dX11_store_24 : decode cX11_store 24 = .ok (.iinc 4 1, 3) := oq_132 (byt chX11_store_1 8 rfl) (byt chX11_store_1 9 rfl) (byt chX11_store_1 10 rfl) rfl
theorem dX11_store_27 : decode cX11_store 27 = .ok (.goto (-24), 3) := oq_167 (byt chX11_store_1 11 rfl) (byt chX11_store_1 12 rfl) (byt chX11_store_1 13 rfl) (by decide +kernel)
theorem dX11_store_30 : decode cX11_store 30 = .ok (.return_, 1) := oq_177 (byt chX11_store_1 14 rfl)
abbrev mX11_store : MI := (yX11_store, cX11_store, 5, none, noE)
theorem okX11_store : cok mX11_store 3 := ⟨tw1491, tw11, by decide, by decide, by decide, by decide +kernel⟩
def fX11_store (M : Mem) (a0 a1 a2 a3 : Int) : Option Mem :=
  iterC (fun (rec1 : (Int × Mem) → Option Mem) (s2 : Int × Mem) => if s2.1 < a2 then (if s2.2.2.1 a0 = 10 then if s2.2.2.1 (s2.2.1 a0 19) = 12 ∧ (0 : Int) ≤ s2.1 ∧ s2.1 < s2.2.2.2.1 (s2.2.1 a0 19) then if s2.2.2.1 a1 = 12 ∧ (0 : Int) ≤ (w32 ((w32 (a2 * a3)) + s2.1)) ∧ (w32 ((w32 (a2 * a3)) + s2.1)) < s2.2.2.2.1 a1 then bM (mst s2.2 a1 (w32 ((w32 (a2 * a3)) + s2.1)) (s2.2.1 (s2.2.1 a0 19) s2.1)) fun M7 => rec1 (w32 (s2.1 + 1), M7) else none else none else none) else (some s2.2)) BIG (0, M)
set_option maxRecDepth 100000 in
set_option maxHeartbeats 4000000 in
theorem kX11_store (d : Nat) (hd : 0 ≤ d) (M : Mem) (a0 a1 a2 a3 : Int) : Ct mX11_store d 0 0 [pA a0, pA a1, pI a2, pI a3] M dV (fX11_store M a0 a1 a2 a3) := by
  refine Ct.of 1 (fun _ _ _ => trivial) (by decide +kernel) rfl ?_
  unfold fX11_store
  refine v_iconst dX11_store_0 (by decide) ?_
  refine v_istore (ls' := [some (pA a0), some (pA a1), some (pI a2), some (pI a3), some (pI 0)]) dX11_store_1 (by decide) rfl ?_
  refine v_loop (fun (s2 : Int × Mem) => [some (pA a0), some (pA a1), some (pI a2), some (pI a3), some (pI s2.1)]) (fun (s2 : Int × Mem) => s2.2) (s0 := (0, M)) ?_
  intro rec1 hrec1 s2
  refine v_iload dX11_store_3 rfl ?_
  refine v_iload_n dX11_store_5 rfl ?_
  refine v_icmp_ge (tgt := 30) dX11_store_6 (by decide) (fun c3 => ?_) (fun c3 => ?_)
  · refine v_aload_n dX11_store_9 rfl ?_
    refine v_iload_n dX11_store_10 rfl ?_
    refine v_iload_n dX11_store_11 rfl ?_
    refine v_imul dX11_store_12 ?_
    refine v_iload dX11_store_13 rfl ?_
    refine v_iadd dX11_store_15 ?_
    refine v_aload_n dX11_store_16 rfl ?_
    refine v_if (fun h4 => ?_)
    refine v_get (v := pA (s2.2.1 a0 19)) 10 19 rfl inX11 (by decide) tw1212 dX11_store_17 h4 rfl ?_
    refine v_iload dX11_store_20 rfl ?_
    refine v_if (fun h5 => ?_)
    refine v_iaload h5 dX11_store_22 ?_
    refine v_if (fun h6 => ?_)
    refine v_iastore h6 dX11_store_23 ?_
    refine v_bM (fun M7 e8 => ?_)
    refine v_iinc (ls' := [some (pA a0), some (pA a1), some (pI a2), some (pI a3), some (pI (w32 (s2.1 + 1)))]) dX11_store_24 (by decide) rfl rfl ?_
    refine v_goto (tgt := 3) dX11_store_27 (by decide) ?_
    exact hrec1 (w32 (s2.1 + 1), M7)
  · exact v_return dX11_store_30 rfl rfl
theorem chX11_storeAll_0 : (cX11_storeAll.data.toList.drop 0).take 16 = [27, 170, 0, 0, 0, 0, 0, 63, 0, 0, 0, 0, 0, 0, 0, 2] := by decide +kernel
theorem chX11_storeAll_1 : (cX11_storeAll.data.toList.drop 16).take 16 = [0, 0, 0, 27, 0, 0, 0, 39, 0, 0, 0, 50, 42, 42, 180, 0] := by decide +kernel
theorem chX11_storeAll_2 : (cX11_storeAll.data.toList.drop 32).take 16 = [26, 16, 92, 28, 182, 1, 4, 177, 42, 42, 180, 0, 29, 6, 28, 182] := by decide +kernel
theorem chX11_storeAll_3 : (cX11_storeAll.data.toList.drop 48).take 16 = [1, 4, 177, 42, 42, 180, 0, 32, 17, 0, 161, 28, 182, 1, 4, 177] := by decide +kernel
theorem chX11_storeAll_4 : (cX11_storeAll.data.toList.drop 64).take 16 = [42, 42, 180, 0, 35, 16, 47, 28, 182, 1, 4, 177] := by decide +kernel
theorem dX11_storeAll_0 : decode cX11_storeAll 0 = .ok (.iload_n 1, 1) := oq_27 (byt chX11_storeAll_0 0 rfl)
theorem dX11_storeAll_1 : decode cX11_storeAll 1 = .ok (.tableswitch 63 0 2 #[27, 39, 50], 27) := by decide +kernel
theorem dX11_storeAll_28 : decode cX11_storeAll 28 = .ok (.aload_n 0, 1) := oq_42 (byt chX11_storeAll_1 12 rfl)
theorem dX11_storeAll_29 : decode cX11_storeAll 29 = .ok (.aload_n 0, 1) := oq_42 (byt chX11_storeAll_1 13 rfl)
theorem dX11_storeAll_30 : decode cX11_storeAll 30 = .ok (.getfield 26, 3) := oq_180 (byt chX11_storeAll_1 14 rfl) (byt chX11_storeAll_1 15 rfl) (byt chX11_storeAll_2 0 rfl) rfl
theorem dX11_storeAll_33 : decode cX11_storeAll 33 = .ok (.bipush 92, 2) := oq_16 (byt chX11_storeAll_2 1 rfl) (byt chX11_storeAll_2 2 rfl) rfl
theorem dX11_storeAll_35 : decode cX11_storeAll 35 = .ok (.iload_n 2, 1) := oq_28 (byt chX11_storeAll_2 3 rfl)
theorem dX11_storeAll_36 : decode cX11_storeAll 36 = .ok (.invokevirtual 260, 3) := oq_182 (byt chX11_storeAll_2 4 rfl) (byt chX11_storeAll_2 5 rfl) (byt chX11_storeAll_2 6 rfl) rfl
theorem dX11_storeAll_39 : decode cX11_storeAll 39 = .ok (.return_, 1) := oq_177 (byt chX11_storeAll_2 7 rfl)
theorem dX11_storeAll_40 : decode cX11_storeAll 40 = .ok (.aload_n 0, 1) := oq_42 (byt chX11_storeAll_2 8 rfl)
theorem dX11_storeAll_41 : decode cX11_storeAll 41 = .ok (.aload_n 0, 1) := oq_42 (byt chX11_storeAll_2 9 rfl)
theorem dX11_storeAll_42 : decode cX11_storeAll 42 = .ok (.getfield 29, 3) := oq_180 (byt chX11_storeAll_2 10 rfl) (byt chX11_storeAll_2 11 rfl) (byt chX11_storeAll_2 12 rfl) rfl
theorem dX11_storeAll_45 : decode cX11_storeAll 45 = .ok (.iconst 3, 1) := oq_6 (byt chX11_storeAll_2 13 rfl)
theorem dX11_storeAll_46 : decode cX11_storeAll 46 = .ok (.iload_n 2, 1) := oq_28 (byt chX11_storeAll_2 14 rfl)
theorem dX11_storeAll_47 : decode cX11_storeAll 47 = .ok (.invokevirtual 260, 3) := oq_182 (byt chX11_storeAll_2 15 rfl) (byt chX11_storeAll_3 0 rfl) (byt chX11_storeAll_3 1 rfl) rfl
theorem dX11_storeAll_50 : decode cX11_storeAll 50 = .ok (.return_, 1) := oq_177 (byt chX11_storeAll_3 2 rfl)
theorem dX11_storeAll_51 : decode cX11_storeAll 51 = .ok (.aload_n 0, 1) := oq_42 (byt chX11_storeAll_3 3 rfl)
theorem dX11_storeAll_52 : decode cX11_storeAll 52 = .ok (.aload_n 0, 1) := oq_42 (byt chX11_storeAll_3 4 rfl)
theorem dX11_storeAll_53 : decode cX11_storeAll 53 = .ok (.getfield 32, 3) := oq_180 (byt chX11_storeAll_3 5 rfl) (byt chX11_storeAll_3 6 rfl) (byt chX11_storeAll_3 7 rfl) rfl
theorem dX11_storeAll_56 : decode cX11_storeAll 56 = .ok (.sipush 161, 3) := oq_17 (byt chX11_storeAll_3 8 rfl) (byt chX11_storeAll_3 9 rfl) (byt chX11_storeAll_3 10 rfl) (by decide +kernel)
theorem dX11_storeAll_59 : decode cX11_storeAll 59 = .ok (.iload_n 2, 1) := oq_28 (byt chX11_storeAll_3 11 rfl)
theorem dX11_storeAll_60 : decode cX11_storeAll 60 = .ok (.invokevirtual 260, 3) := oq_182 (byt chX11_storeAll_3 12 rfl) (byt chX11_storeAll_3 13 rfl) (byt chX11_storeAll_3 14 rfl) rfl
theorem dX11_storeAll_63 : decode cX11_storeAll 63 = .ok (.return_, 1) := oq_177 (byt chX11_storeAll_3 15 rfl)
theorem dX11_storeAll_64 : decode cX11_storeAll 64 = .ok (.aload_n 0, 1) := oq_42 (byt chX11_storeAll_4 0 rfl)
theorem dX11_storeAll_65 : decode cX11_storeAll 65 = .ok (.aload_n 0, 1) := oq_42 (byt chX11_storeAll_4 1 rfl)
theorem dX11_storeAll_66 : decode cX11_storeAll 66 = .ok (.getfield 35, 3) := oq_180 (byt chX11_storeAll_4 2 rfl) (byt chX11_storeAll_4 3 rfl) (byt chX11_storeAll_4 4 rfl) rfl
theorem dX11_storeAll_69 : decode cX11_storeAll 69 = .ok (.bipush 47, 2) := oq_16 (byt chX11_storeAll_4 5 rfl) (byt chX11_storeAll_4 6 rfl) rfl
theorem dX11_storeAll_71 : decode cX11_storeAll 71 = .ok (.iload_n 2, 1) := oq_28 (byt chX11_storeAll_4 7 rfl)
theorem dX11_storeAll_72 : decode cX11_storeAll 72 = .ok (.invokevirtual 260, 3) := oq_182 (byt chX11_storeAll_4 8 rfl) (byt chX11_storeAll_4 9 rfl) (byt chX11_storeAll_4 10 rfl) rfl
theorem dX11_storeAll_75 : decode cX11_storeAll 75 = .ok (.return_, 1) := oq_177 (byt chX11_storeAll_4 11 rfl)
abbrev mX11_storeAll : MI := (yX11_storeAll, cX11_storeAll, 3, none, noE)
theorem okX11_storeAll : cok mX11_storeAll 2 := ⟨tw1487, tw11, by decide, by decide, by decide, by decide +kernel⟩
def fX11_storeAll (M : Mem) (a0 a1 a2 : Int) : Option Mem :=
  if a1 = 0 then (if M.2.1 a0 = 10 then (fX11_store M a0 (M.1 a0 6) 92 a2).bind fun r3 => some r3 else none) else if a1 = 1 then (if M.2.1 a0 = 10 then (fX11_store M a0 (M.1 a0 7) 3 a2).bind fun r7 => some r7 else none) else if a1 = 2 then (if M.2.1 a0 = 10 then (fX11_store M a0 (M.1 a0 8) 161 a2).bind fun r11 => some r11 else none) else if M.2.1 a0 = 10 then (fX11_store M a0 (M.1 a0 9) 47 a2).bind fun r14 => some r14 else none
set_option maxRecDepth 100000 in
set_option maxHeartbeats 4000000 in
theorem kX11_storeAll (d : Nat) (hd : 1 ≤ d) (M : Mem) (a0 a1 a2 : Int) : Ct mX11_storeAll d 0 0 [pA a0, pI a1, pI a2] M dV (fX11_storeAll M a0 a1 a2) := by
  obtain ⟨d, rfl⟩ : ∃ k, d = k + 1 := ⟨d - 1, by omega⟩
  refine Ct.of 0 (fun _ _ _ => trivial) (by decide +kernel) rfl ?_
  unfold fX11_storeAll
  refine v_iload_n dX11_storeAll_0 rfl ?_
  refine v_ite (fun h1 => ?_) (fun h1 => ?_)
  · refine v_tabIn (off := 27) (tgt := 28) dX11_storeAll_1 h1 (by decide) ?_
    refine v_aload_n dX11_storeAll_28 rfl ?_
    refine v_aload_n dX11_storeAll_29 rfl ?_
    refine v_if (fun h2 => ?_)
    refine v_get (v := pA (M.1 a0 6)) 10 6 rfl inX11 (by decide) tw1199 dX11_storeAll_30 h2 rfl ?_
    refine v_bipush dX11_storeAll_33 (by decide) ?_
    refine v_iload_n dX11_storeAll_35 rfl ?_
    refine v_cV (mi := mX11_storeAll) (c0 := 0) (c1 := 0) (As := [pA (M.1 a0 6), pI 92, pI a2]) (st := []) (kX11_store d (by omega) _ _ _ _ _) rfl h2 rfl okX11_store (Or.inl tw1488) tw1490 tp53 rfl (Nat.le_of_ble_eq_true rfl) dX11_storeAll_36 (fun r3 => []) (fun r3 => r3) (fun _ => rfl) (fun _ => rfl) (fun r3 h4 => ?_) rfl
    exact v_return dX11_storeAll_39 rfl rfl
  · refine v_ite (fun h5 => ?_) (fun h5 => ?_)
    · refine v_tabIn (off := 39) (tgt := 40) dX11_storeAll_1 h5 (by decide) ?_
      refine v_aload_n dX11_storeAll_40 rfl ?_
      refine v_aload_n dX11_storeAll_41 rfl ?_
      refine v_if (fun h6 => ?_)
      refine v_get (v := pA (M.1 a0 7)) 10 7 rfl inX11 (by decide) tw1200 dX11_storeAll_42 h6 rfl ?_
      refine v_iconst dX11_storeAll_45 (by decide) ?_
      refine v_iload_n dX11_storeAll_46 rfl ?_
      refine v_cV (mi := mX11_storeAll) (c0 := 0) (c1 := 0) (As := [pA (M.1 a0 7), pI 3, pI a2]) (st := []) (kX11_store d (by omega) _ _ _ _ _) rfl h6 rfl okX11_store (Or.inl tw1488) tw1490 tp53 rfl (Nat.le_of_ble_eq_true rfl) dX11_storeAll_47 (fun r7 => []) (fun r7 => r7) (fun _ => rfl) (fun _ => rfl) (fun r7 h8 => ?_) rfl
      exact v_return dX11_storeAll_50 rfl rfl
    · refine v_ite (fun h9 => ?_) (fun h9 => ?_)
      · refine v_tabIn (off := 50) (tgt := 51) dX11_storeAll_1 h9 (by decide) ?_
        refine v_aload_n dX11_storeAll_51 rfl ?_
        refine v_aload_n dX11_storeAll_52 rfl ?_
        refine v_if (fun h10 => ?_)
        refine v_get (v := pA (M.1 a0 8)) 10 8 rfl inX11 (by decide) tw1201 dX11_storeAll_53 h10 rfl ?_
        refine v_sipush dX11_storeAll_56 (by decide) ?_
        refine v_iload_n dX11_storeAll_59 rfl ?_
        refine v_cV (mi := mX11_storeAll) (c0 := 0) (c1 := 0) (As := [pA (M.1 a0 8), pI 161, pI a2]) (st := []) (kX11_store d (by omega) _ _ _ _ _) rfl h10 rfl okX11_store (Or.inl tw1488) tw1490 tp53 rfl (Nat.le_of_ble_eq_true rfl) dX11_storeAll_60 (fun r11 => []) (fun r11 => r11) (fun _ => rfl) (fun _ => rfl) (fun r11 h12 => ?_) rfl
        exact v_return dX11_storeAll_63 rfl rfl
      · refine v_tabOut (tgt := 64) dX11_storeAll_1 (by omega) (by decide) ?_
        refine v_aload_n dX11_storeAll_64 rfl ?_
        refine v_aload_n dX11_storeAll_65 rfl ?_
        refine v_if (fun h13 => ?_)
        refine v_get (v := pA (M.1 a0 9)) 10 9 rfl inX11 (by decide) tw1202 dX11_storeAll_66 h13 rfl ?_
        refine v_bipush dX11_storeAll_69 (by decide) ?_
        refine v_iload_n dX11_storeAll_71 rfl ?_
        refine v_cV (mi := mX11_storeAll) (c0 := 0) (c1 := 0) (As := [pA (M.1 a0 9), pI 47, pI a2]) (st := []) (kX11_store d (by omega) _ _ _ _ _) rfl h13 rfl okX11_store (Or.inl tw1488) tw1490 tp53 rfl (Nat.le_of_ble_eq_true rfl) dX11_storeAll_72 (fun r14 => []) (fun r14 => r14) (fun _ => rfl) (fun _ => rfl) (fun r14 h15 => ?_) rfl
        exact v_return dX11_storeAll_75 rfl rfl
theorem chX11_text_0 : (cX11_text.data.toList.drop 0).take 16 = [42, 3, 181, 0, 90, 42, 42, 180, 0, 13, 3, 46, 181, 0, 109, 42] := by decide +kernel
theorem chX11_text_1 : (cX11_text.data.toList.drop 16).take 16 = [180, 0, 13, 3, 3, 79, 42, 180, 0, 17, 3, 3, 79, 42, 180, 0] := by decide +kernel
theorem chX11_text_2 : (cX11_text.data.toList.drop 32).take 16 = [20, 3, 2, 79, 27, 3, 6, 184, 0, 98, 153, 0, 30, 28, 2, 160] := by decide +kernel
theorem chX11_text_3 : (cX11_text.data.toList.drop 48).take 16 = [0, 16, 42, 180, 0, 23, 27, 46, 5, 160, 0, 18, 167, 0, 12, 42] := by decide +kernel
theorem chX11_text_4 : (cX11_text.data.toList.drop 64).take 16 = [27, 28, 182, 1, 8, 154, 0, 6, 16, 254, 172, 42, 27, 182, 1, 12] := by decide +kernel
theorem chX11_text_5 : (cX11_text.data.toList.drop 80).take 16 = [154, 0, 5, 2, 172, 28, 2, 160, 0, 12, 42, 180, 0, 23, 27, 46] := by decide +kernel
theorem chX11_text_6 : (cX11_text.data.toList.drop 96).take 16 = [167, 0, 4, 28, 62, 42, 180, 0, 23, 27, 92, 46, 28, 2, 160, 0] := by decide +kernel
theorem chX11_text_7 : (cX11_text.data.toList.drop 112).take 16 = [7, 4, 167, 0, 4, 3, 96, 79, 42, 27, 29, 182, 1, 15, 29, 172] := by decide +kernel
theorem dX11_text_0 : decode cX11_text 0 = .ok (.aload_n 0, 1) := oq_42 (byt chX11_text_0 0 rfl)
theorem dX11_text_1 : decode cX11_text 1 = .ok (.iconst 0, 1) := oq_3 (byt chX11_text_0 1 rfl)
theorem dX11_text_2 : decode cX11_text 2 = .ok (.putfield 90, 3) := oq_181 (byt chX11_text_0 2 rfl) (byt chX11_text_0 3 rfl) (byt chX11_text_0 4 rfl) rfl
theorem dX11_text_5 : decode cX11_text 5 = .ok (.aload_n 0, 1) := oq_42 (byt chX11_text_0 5 rfl)
theorem dX11_text_6 : decode cX11_text 6 = .ok (.aload_n 0, 1) := oq_42 (byt chX11_text_0 6 rfl)
theorem dX11_text_7 : decode cX11_text 7 = .ok (.getfield 13, 3) := oq_180 (byt chX11_text_0 7 rfl) (byt chX11_text_0 8 rfl) (byt chX11_text_0 9 rfl) rfl
theorem dX11_text_10 : decode cX11_text 10 = .ok (.iconst 0, 1) := oq_3 (byt chX11_text_0 10 rfl)
theorem dX11_text_11 : decode cX11_text 11 = .ok (.iaload, 1) := oq_46 (byt chX11_text_0 11 rfl)
theorem dX11_text_12 : decode cX11_text 12 = .ok (.putfield 109, 3) := oq_181 (byt chX11_text_0 12 rfl) (byt chX11_text_0 13 rfl) (byt chX11_text_0 14 rfl) rfl
theorem dX11_text_15 : decode cX11_text 15 = .ok (.aload_n 0, 1) := oq_42 (byt chX11_text_0 15 rfl)
theorem dX11_text_16 : decode cX11_text 16 = .ok (.getfield 13, 3) := oq_180 (byt chX11_text_1 0 rfl) (byt chX11_text_1 1 rfl) (byt chX11_text_1 2 rfl) rfl
theorem dX11_text_19 : decode cX11_text 19 = .ok (.iconst 0, 1) := oq_3 (byt chX11_text_1 3 rfl)
theorem dX11_text_20 : decode cX11_text 20 = .ok (.iconst 0, 1) := oq_3 (byt chX11_text_1 4 rfl)
theorem dX11_text_21 : decode cX11_text 21 = .ok (.iastore, 1) := oq_79 (byt chX11_text_1 5 rfl)
theorem dX11_text_22 : decode cX11_text 22 = .ok (.aload_n 0, 1) := oq_42 (byt chX11_text_1 6 rfl)
theorem dX11_text_23 : decode cX11_text 23 = .ok (.getfield 17, 3) := oq_180 (byt chX11_text_1 7 rfl) (byt chX11_text_1 8 rfl) (byt chX11_text_1 9 rfl) rfl
theorem dX11_text_26 : decode cX11_text 26 = .ok (.iconst 0, 1) := oq_3 (byt chX11_text_1 10 rfl)
theorem dX11_text_27 : decode cX11_text 27 = .ok (.iconst 0, 1) := oq_3 (byt chX11_text_1 11 rfl)
theorem dX11_text_28 : decode cX11_text 28 = .ok (.iastore, 1) := oq_79 (byt chX11_text_1 12 rfl)
theorem dX11_text_29 : decode cX11_text 29 = .ok (.aload_n 0, 1) := oq_42 (byt chX11_text_1 13 rfl)
theorem dX11_text_30 : decode cX11_text 30 = .ok (.getfield 20, 3) := oq_180 (byt chX11_text_1 14 rfl) (byt chX11_text_1 15 rfl) (byt chX11_text_2 0 rfl) rfl
theorem dX11_text_33 : decode cX11_text 33 = .ok (.iconst 0, 1) := oq_3 (byt chX11_text_2 1 rfl)
theorem dX11_text_34 : decode cX11_text 34 = .ok (.iconst (-1), 1) := oq_2 (byt chX11_text_2 2 rfl)
theorem dX11_text_35 : decode cX11_text 35 = .ok (.iastore, 1) := oq_79 (byt chX11_text_2 3 rfl)
theorem dX11_text_36 : decode cX11_text 36 = .ok (.iload_n 1, 1) := oq_27 (byt chX11_text_2 4 rfl)
theorem dX11_text_37 : decode cX11_text 37 = .ok (.iconst 0, 1) := oq_3 (byt chX11_text_2 5 rfl)
theorem dX11_text_38 : decode cX11_text 38 = .ok (.iconst 3, 1) := oq_6 (byt chX11_text_2 6 rfl)
theorem dX11_text_39 : decode cX11_text 39 = .ok (.invokestatic 98, 3) := oq_184 (byt chX11_text_2 7 rfl) (byt chX11_text_2 8 rfl) (byt chX11_text_2 9 rfl) rfl
theorem dX11_text_42 : decode cX11_text 42 = .ok (.ifCond .eq 30, 3) := oq_153 (byt chX11_text_2 10 rfl) (byt chX11_text_2 11 rfl) (byt chX11_text_2 12 rfl) (by decide +kernel)
theorem dX11_text_45 : decode cX11_text 45 = .ok (.iload_n 2, 1) := oq_28 (byt chX11_text_2 13 rfl)
theorem dX11_text_46 : decode cX11_text 46 = .ok (.iconst (-1), 1) := oq_2 (byt chX11_text_2 14 rfl)
theorem dX11_text_47 : decode cX11_text 47 = .ok (.if_icmp .ne 16, 3) := oq_160 (byt chX11_text_2 15 rfl) (byt chX11_text_3 0 rfl) (byt chX11_text_3 1 rfl) (by decide +kernel)
theorem dX11_text_50 : decode cX11_text 50 = .ok (.aload_n 0, 1) := oq_42 (byt chX11_text_3 2 rfl)
theorem dX11_text_51 : decode cX11_text 51 = .ok (.getfield 23, 3) := oq_180 (byt chX11_text_3 3 rfl) (byt chX11_text_3 4 rfl) (byt chX11_text_3 5 rfl) rfl
theorem dX11_text_54 : decode cX11_text 54 = .ok (.iload_n 1, 1) := oq_27 (byt chX11_text_3 6 rfl)
theorem dX11_text_55 : decode cX11_text 55 = .ok (.iaload, 1) := oq_46 (byt chX11_text_3 7 rfl)
theorem dX11_text_56 : decode cX11_text 56 = .ok (.iconst 2, 1) := oq_5 (byt chX11_text_3 8 rfl)
theorem dX11_text_57 : decode cX11_text 57 = .ok (.if_icmp .ne 18, 3) := oq_160 (byt chX11_text_3 9 rfl) (byt chX11_text_3 10 rfl) (byt chX11_text_3 11 rfl) (by decide +kernel)
theorem dX11_text_60 : decode cX11_text 60 = .ok (.goto 12, 3) := oq_167 (byt chX11_text_3 12 rfl) (byt chX11_text_3 13 rfl) (byt chX11_text_3 14 rfl) (by decide +kernel)
theorem dX11_text_63 : decode cX11_text 63 = .ok (.aload_n 0, 1) := oq_42 (byt chX11_text_3 15 rfl)
theorem dX11_text_64 : decode cX11_text 64 = .ok (.iload_n 1, 1) := oq_27 (byt chX11_text_4 0 rfl)
theorem dX11_text_65 : decode cX11_text 65 = .ok (.iload_n 2, 1) := oq_28 (byt chX11_text_4 1 rfl)
theorem dX11_text_66 : decode cX11_text 66 = .ok (.invokevirtual 264, 3) := oq_182 (byt chX11_text_4 2 rfl) (byt chX11_text_4 3 rfl) (byt chX11_text_4 4 rfl) rfl
theorem dX11_text_69 : decode cX11_text 69 = .ok (.ifCond .ne 6, 3) := oq_154 (byt chX11_text_4 5 rfl) (byt chX11_text_4 6 rfl) (byt chX11_text_4 7 rfl) (by decide +kernel)
theorem dX11_text_72 : decode cX11_text 72 = .ok (.bipush (-2), 2) := oq_16 (byt chX11_text_4 8 rfl) (byt chX11_text_4 9 rfl) rfl
theorem dX11_text_74 : decode cX11_text 74 = .ok (.ireturn, 1) := oq_172 (byt chX11_text_4 10 rfl)
theorem dX11_text_75 : decode cX11_text 75 = .ok (.aload_n 0, 1) := oq_42 (byt chX11_text_4 11 rfl)
theorem dX11_text_76 : decode cX11_text 76 = .ok (.iload_n 1, 1) := oq_27 (byt chX11_text_4 12 rfl)
theorem dX11_text_77 : decode cX11_text 77 = .ok (.invokevirtual 268, 3) := oq_182 (byt chX11_text_4 13 rfl) (byt chX11_text_4 14 rfl) (byt chX11_text_4 15 rfl) rfl
theorem dX11_text_80 : decode cX11_text 80 = .ok (.ifCond .ne 5, 3) := oq_154 (byt chX11_text_5 0 rfl) (byt chX11_text_5 1 rfl) (byt chX11_text_5 2 rfl) (by decide +kernel)
theorem dX11_text_83 : decode cX11_text 83 = .ok (.iconst (-1), 1) := oq_2 (byt chX11_text_5 3 rfl)
theorem dX11_text_84 : decode cX11_text 84 = .ok (.ireturn, 1) := oq_172 (byt chX11_text_5 4 rfl)
theorem dX11_text_85 : decode cX11_text 85 = .ok (.iload_n 2, 1) := oq_28 (byt chX11_text_5 5 rfl)
theorem dX11_text_86 : decode cX11_text 86 = .ok (.iconst (-1), 1) := oq_2 (byt chX11_text_5 6 rfl)
theorem dX11_text_87 : decode cX11_text 87 = .ok (.if_icmp .ne 12, 3) := oq_160 (byt chX11_text_5 7 rfl) (byt chX11_text_5 8 rfl) (byt chX11_text_5 9 rfl) (by decide +kernel)
theorem dX11_text_90 : decode cX11_text 90 = .ok (.aload_n 0, 1) := oq_42 (byt chX11_text_5 10 rfl)
theorem dX11_text_91 : decode cX11_text 91 = .ok (.getfield 23, 3) := oq_180 (byt chX11_text_5 11 rfl) (byt chX11_text_5 12 rfl) (byt chX11_text_5 13 rfl) rfl
theorem dX11_text_94 : decode cX11_text 94 = .ok (.iload_n 1, 1) := oq_27 (byt chX11_text_5 14 rfl)
theorem dX11_text_95 : decode cX11_text 95 = .ok (.iaload, 1) := oq_46 (byt chX11_text_5 15 rfl)
theorem dX11_text_96 : decode cX11_text 96 = .ok (.goto 4, 3) := oq_167 (byt chX11_text_6 0 rfl) (byt chX11_text_6 1 rfl) (byt chX11_text_6 2 rfl) (by decide +kernel)
theorem dX11_text_99 : decode cX11_text 99 = .ok (.iload_n 2, 1) := oq_28 (byt chX11_text_6 3 rfl)
theorem dX11_text_100 : decode cX11_text 100 = .ok (.istore_n 3, 1) := oq_62 (byt chX11_text_6 4 rfl)
theorem dX11_text_101 : decode cX11_text 101 = .ok (.aload_n 0, 1) := oq_42 (byt chX11_text_6 5 rfl)
theorem dX11_text_102 : decode cX11_text 102 = .ok (.getfield 23, 3) := oq_180 (byt chX11_text_6 6 rfl) (byt chX11_text_6 7 rfl) (byt chX11_text_6 8 rfl) rfl
theorem dX11_text_105 : decode cX11_text 105 = .ok (.iload_n 1, 1) := oq_27 (byt chX11_text_6 9 rfl)
theorem dX11_text_106 : decode cX11_text 106 = .ok (.dup2, 1) := oq_92 (byt chX11_text_6 10 rfl)
theorem dX11_text_107 : decode cX11_text 107 = .ok (.iaload, 1) := oq_46 (byt chX11_text_6 11 rfl)
theorem dX11_text_108 : decode cX11_text 108 = .ok (.iload_n 2, 1) := oq_28 (byt chX11_text_6 12 rfl)
theorem dX11_text_109 : decode cX11_text 109 = .ok (.iconst (-1), 1) := oq_2 (byt chX11_text_6 13 rfl)
theorem dX11_text_110 : decode cX11_text 110 = .ok (.if_icmp .ne 7, 3) := oq_160 (byt chX11_text_6 14 rfl) (byt chX11_text_6 15 rfl) (byt chX11_text_7 0 rfl) (by decide +kernel)
theorem dX11_text_113 : decode cX11_text 113 = .ok (.iconst 1, 1) := oq_4 (byt chX11_text_7 1 rfl)
theorem dX11_text_114 : decode cX11_text 114 = .ok (.goto 4, 3) := oq_167 (byt chX11_text_7 2 rfl) (byt chX11_text_7 3 rfl) (byt chX11_text_7 4 rfl) (by decide +kernel)
theorem dX11_text_117 : decode cX11_text 117 = .ok (.iconst 0, 1) := oq_3 (byt chX11_text_7 5 rfl)
theorem dX11_text_118 : decode cX11_text 118 = .ok (.iadd, 1) := oq_96 (byt chX11_text_7 6 rfl)
theorem dX11_text_119 : decode cX11_text 119 = .ok (.iastore, 1) := oq_79 (byt chX11_text_7 7 rfl)
theorem dX11_text_120 : decode cX11_text 120 = .ok (.aload_n 0, 1) := oq_42 (byt chX11_text_7 8 rfl)
theorem dX11_text_121 : decode cX11_text 121 = .ok (.iload_n 1, 1) := oq_27 (byt chX11_text_7 9 rfl)
theorem dX11_text_122 : decode cX11_text 122 = .ok (.iload_n 3, 1) := oq_29 (byt chX11_text_7 10 rfl)
theorem dX11_text_123 : decode cX11_text 123 = .ok (.invokevirtual 271, 3) := oq_182 (byt chX11_text_7 11 rfl) (byt chX11_text_7 12 rfl) (byt chX11_text_7 13 rfl) rfl
theorem dX11_text_126 : decode cX11_text 126 = .ok (.iload_n 3, 1) := oq_29 (byt chX11_text_7 14 rfl)
theorem dX11_text_127 : decode cX11_text 127 = .ok (.ireturn, 1) := oq_172 (byt chX11_text_7 15 rfl)
abbrev mX11_text : MI := (yX11_text, cX11_text, 4, (some .int), noE)
theorem okX11_text : cok mX11_text 2 := ⟨tw1366, tw11, by decide, by decide, by decide, by decide +kernel⟩
def fX11_text (M : Mem) (a0 a1 a2 : Int) : Option (Int × Mem) :=
  if M.2.1 a0 = 10 then bM (mst M a0 0 0) fun M2 => if M2.2.1 (M2.1 a0 2) = 12 ∧ (0 : Int) ≤ 0 ∧ 0 < M2.2.2.1 (M2.1 a0 2) then bM (mst M2 a0 11 (M2.1 (M2.1 a0 2) 0)) fun M5 => if M5.2.1 (M5.1 a0 2) = 12 ∧ (0 : Int) ≤ 0 ∧ 0 < M5.2.2.1 (M5.1 a0 2) then bM (mst M5 (M5.1 a0 2) 0 0) fun M8 => if M8.2.1 (M8.1 a0 3) = 12 ∧ (0 : Int) ≤ 0 ∧ 0 < M8.2.2.1 (M8.1 a0 3) then bM (mst M8 (M8.1 a0 3) 0 0) fun M11 => if M11.2.1 (M11.1 a0 4) = 12 ∧ (0 : Int) ≤ 0 ∧ 0 < M11.2.2.1 (M11.1 a0 4) then bM (mst M11 (M11.1 a0 4) 0 (-1)) fun M14 => (fX11_in M14 a1 0 3).bind fun r16 => if r16 = 0 then (some ((-2), M14)) else (jn (fun (t20 : Unit) => (fX11_readText M14 a0 a1).bind fun r21 => if r21.1 = 0 then (some ((-1), r21.2)) else (jn (fun (t25 : Int) => if r21.2.2.1 a0 = 10 then if r21.2.2.1 (r21.2.1 a0 5) = 12 ∧ (0 : Int) ≤ a1 ∧ a1 < r21.2.2.2.1 (r21.2.1 a0 5) then jn (fun (t29 : Int) => if r21.2.2.1 (r21.2.1 a0 5) = 12 ∧ (0 : Int) ≤ a1 ∧ a1 < r21.2.2.2.1 (r21.2.1 a0 5) then bM (mst r21.2 (r21.2.1 a0 5) a1 (w32 ((r21.2.1 (r21.2.1 a0 5) a1) + t29))) fun M31 => (fX11_storeAll M31 a0 a1 t25).bind fun r33 => some (t25, r33) else none) (fun (j28 : Int → Option (Int × Mem)) => if a2 = (-1) then (j28 1) else (j28 0)) else none else none) (fun (j24 : Int → Option (Int × Mem)) => if a2 = (-1) then (if r21.2.2.1 a0 = 10 then if r21.2.2.1 (r21.2.1 a0 5) = 12 ∧ (0 : Int) ≤ a1 ∧ a1 < r21.2.2.2.1 (r21.2.1 a0 5) then j24 (r21.2.1 (r21.2.1 a0 5) a1) else none else none) else (j24 a2)))) (fun (j19 : Unit → Option (Int × Mem)) => if a2 = (-1) then (if M14.2.1 (M14.1 a0 5) = 12 ∧ (0 : Int) ≤ a1 ∧ a1 < M14.2.2.1 (M14.1 a0 5) then if M14.1 (M14.1 a0 5) a1 = 2 then (some ((-2), M14)) else (j19 ()) else none) else ((fX11_is M14 a0 a1 a2).bind fun r42 => if r42 = 0 then (some ((-2), M14)) else (j19 ())))) else none else none else none else none else none
set_option maxRecDepth 100000 in
set_option maxHeartbeats 4000000 in
theorem kX11_text (d : Nat) (hd : 10 ≤ d) (M : Mem) (a0 a1 a2 : Int) : Ct mX11_text d 0 0 [pA a0, pI a1, pI a2] M dIM (fX11_text M a0 a1 a2) := by
  obtain ⟨d, rfl⟩ : ∃ k, d = k + 1 := ⟨d - 1, by omega⟩
  refine Ct.of 1 (fun _ _ _ => trivial) (by decide +kernel) rfl ?_
  unfold fX11_text
  refine v_aload_n dX11_text_0 rfl ?_
  refine v_iconst dX11_text_1 (by decide) ?_
  refine v_if (fun h1 => ?_)
  refine v_put (x := 0) 10 0 rfl inX11 (by decide) tw1193 (Or.inl rfl) rfl dX11_text_2 h1 rfl id ?_
  refine v_bM (fun M2 e3 => ?_)
  refine v_aload_n dX11_text_5 rfl ?_
  refine v_aload_n dX11_text_6 rfl ?_
  refine v_get (v := pA (M2.1 a0 2)) 10 2 rfl inX11 (by decide) tw1195 dX11_text_7 (by rw [e3]; exact h1) rfl ?_
  refine v_iconst dX11_text_10 (by decide) ?_
  refine v_if (fun h4 => ?_)
  refine v_iaload h4 dX11_text_11 ?_
  refine v_put (x := M2.1 (M2.1 a0 2) 0) 10 11 rfl inX11 (by decide) tw1204 (Or.inl rfl) rfl dX11_text_12 (by rw [e3]; exact h1) rfl id ?_
  refine v_bM (fun M5 e6 => ?_)
  refine v_aload_n dX11_text_15 rfl ?_
  refine v_get (v := pA (M5.1 a0 2)) 10 2 rfl inX11 (by decide) tw1195 dX11_text_16 (by rw [e6, e3]; exact h1) rfl ?_
  refine v_iconst dX11_text_19 (by decide) ?_
  refine v_iconst dX11_text_20 (by decide) ?_
  refine v_if (fun h7 => ?_)
  refine v_iastore h7 dX11_text_21 ?_
  refine v_bM (fun M8 e9 => ?_)
  refine v_aload_n dX11_text_22 rfl ?_
  refine v_get (v := pA (M8.1 a0 3)) 10 3 rfl inX11 (by decide) tw1196 dX11_text_23 (by rw [e9, e6, e3]; exact h1) rfl ?_
  refine v_iconst dX11_text_26 (by decide) ?_
  refine v_iconst dX11_text_27 (by decide) ?_
  refine v_if (fun h10 => ?_)
  refine v_iastore h10 dX11_text_28 ?_
  refine v_bM (fun M11 e12 => ?_)
  refine v_aload_n dX11_text_29 rfl ?_
  refine v_get (v := pA (M11.1 a0 4)) 10 4 rfl inX11 (by decide) tw1197 dX11_text_30 (by rw [e12, e9, e6, e3]; exact h1) rfl ?_
  refine v_iconst dX11_text_33 (by decide) ?_
  refine v_iconst dX11_text_34 (by decide) ?_
  refine v_if (fun h13 => ?_)
  refine v_iastore h13 dX11_text_35 ?_
  refine v_bM (fun M14 e15 => ?_)
  refine v_iload_n dX11_text_36 rfl ?_
  refine v_iconst dX11_text_37 (by decide) ?_
  refine v_iconst dX11_text_38 (by decide) ?_
  refine v_cS (mi := mX11_text) (c0 := 0) (c1 := 0) (As := [pI a1, pI 0, pI 3]) (st := []) (kX11_in d (by omega) _ _ _ _) okX11_in (Or.inl tw1360) tw1361 rfl (Nat.le_of_ble_eq_true rfl) dX11_text_39 (fun r16 => [pI r16]) (fun r16 => M14) (fun _ => rfl) (fun _ => rfl) (fun r16 h17 => ?_) rfl
  refine v_if_eq (tgt := 72) dX11_text_42 (by decide) (fun c18 => ?_) (fun c18 => ?_)
  · refine v_bipush dX11_text_72 (by decide) ?_
    exact v_ireturn dX11_text_74 rfl rfl
  · refine v_iload_n dX11_text_45 rfl ?_
    refine v_iconst dX11_text_46 (by decide) ?_
    refine v_join (fun (t20 : Unit) => [some (pA a0), some (pI a1), some (pI a2), none]) (fun (t20 : Unit) => []) (fun (t20 : Unit) => M14) 75 (fun t20 => ?_) (fun j19 hj19 => ?_)
    · refine v_aload_n dX11_text_75 rfl ?_
      refine v_iload_n dX11_text_76 rfl ?_
      refine v_cV (mi := mX11_text) (c0 := 0) (c1 := 0) (As := [pI a1]) (st := []) (kX11_readText d (by omega) _ _ _) rfl (by rw [e15, e12, e9, e6, e3]; exact h1) rfl okX11_readText (Or.inl tw1371) tw1373 tp29 rfl (Nat.le_of_ble_eq_true rfl) dX11_text_77 (fun r21 => [pI r21.1]) (fun r21 => r21.2) (fun _ => rfl) (fun _ => rfl) (fun r21 h22 => ?_) rfl
      refine v_if_ne (tgt := 85) dX11_text_80 (by decide) (fun c23 => ?_) (fun c23 => ?_)
      · refine v_iconst dX11_text_83 (by decide) ?_
        exact v_ireturn dX11_text_84 rfl rfl
      · refine v_iload_n dX11_text_85 rfl ?_
        refine v_iconst dX11_text_86 (by decide) ?_
        refine v_join (fun (t25 : Int) => [some (pA a0), some (pI a1), some (pI a2), none]) (fun (t25 : Int) => [pI t25]) (fun (t25 : Int) => r21.2) 100 (fun t25 => ?_) (fun j24 hj24 => ?_)
        · refine v_istore_n (ls' := [some (pA a0), some (pI a1), some (pI a2), some (pI t25)]) dX11_text_100 (by decide) rfl ?_
          refine v_aload_n dX11_text_101 rfl ?_
          refine v_if (fun h26 => ?_)
          refine v_get (v := pA (r21.2.1 a0 5)) 10 5 rfl inX11 (by decide) tw1198 dX11_text_102 h26 rfl ?_
          refine v_iload_n dX11_text_105 rfl ?_
          refine v_dup2 dX11_text_106 (by intro z hz; cases hz) (by intro z hz; cases hz) ?_
          refine v_if (fun h27 => ?_)
          refine v_iaload h27 dX11_text_107 ?_
          refine v_iload_n dX11_text_108 rfl ?_
          refine v_iconst dX11_text_109 (by decide) ?_
          refine v_join (fun (t29 : Int) => [some (pA a0), some (pI a1), none, some (pI t25)]) (fun (t29 : Int) => [pI t29, pI (r21.2.1 (r21.2.1 a0 5) a1), pI a1, pA (r21.2.1 a0 5)]) (fun (t29 : Int) => r21.2) 118 (fun t29 => ?_) (fun j28 hj28 => ?_)
          · refine v_iadd dX11_text_118 ?_
            refine v_if (fun h30 => ?_)
            refine v_iastore h30 dX11_text_119 ?_
            refine v_bM (fun M31 e32 => ?_)
            refine v_aload_n dX11_text_120 rfl ?_
            refine v_iload_n dX11_text_121 rfl ?_
            refine v_iload_n dX11_text_122 rfl ?_
            refine v_cV (mi := mX11_text) (c0 := 0) (c1 := 0) (As := [pI a1, pI t25]) (st := []) (kX11_storeAll d (by omega) _ _ _ _) rfl (by rw [e32]; exact h26) rfl okX11_storeAll (Or.inl tw1484) tw1486 tp52 rfl (Nat.le_of_ble_eq_true rfl) dX11_text_123 (fun r33 => []) (fun r33 => r33) (fun _ => rfl) (fun _ => rfl) (fun r33 h34 => ?_) rfl
            refine v_iload_n dX11_text_126 rfl ?_
            exact v_ireturn dX11_text_127 rfl rfl
          · refine v_icmp_ne (tgt := 117) dX11_text_110 (by decide) (fun c35 => ?_) (fun c35 => ?_)
            · refine v_iconst dX11_text_113 (by decide) ?_
              refine v_goto (tgt := 118) dX11_text_114 (by decide) ?_
              exact v_drop [some (pA a0), some (pI a1), none, some (pI t25)] (ls_s (ls_s (ls_n (ls_s ls_e)))) (hj28 1)
            · refine v_iconst dX11_text_117 (by decide) ?_
              exact v_drop [some (pA a0), some (pI a1), none, some (pI t25)] (ls_s (ls_s (ls_n (ls_s ls_e)))) (hj28 0)
        · refine v_icmp_ne (tgt := 99) dX11_text_87 (by decide) (fun c36 => ?_) (fun c36 => ?_)
          · refine v_aload_n dX11_text_90 rfl ?_
            refine v_if (fun h37 => ?_)
            refine v_get (v := pA (r21.2.1 a0 5)) 10 5 rfl inX11 (by decide) tw1198 dX11_text_91 h37 rfl ?_
            refine v_iload_n dX11_text_94 rfl ?_
            refine v_if (fun h38 => ?_)
            refine v_iaload h38 dX11_text_95 ?_
            refine v_goto (tgt := 100) dX11_text_96 (by decide) ?_
            exact hj24 (r21.2.1 (r21.2.1 a0 5) a1)
          · refine v_iload_n dX11_text_99 rfl ?_
            exact hj24 a2
    · refine v_icmp_ne (tgt := 63) dX11_text_47 (by decide) (fun c39 => ?_) (fun c39 => ?_)
      · refine v_aload_n dX11_text_50 rfl ?_
        refine v_get (v := pA (M14.1 a0 5)) 10 5 rfl inX11 (by decide) tw1198 dX11_text_51 (by rw [e15, e12, e9, e6, e3]; exact h1) rfl ?_
        refine v_iload_n dX11_text_54 rfl ?_
        refine v_if (fun h40 => ?_)
        refine v_iaload h40 dX11_text_55 ?_
        refine v_iconst dX11_text_56 (by decide) ?_
        refine v_icmp_ne (tgt := 75) dX11_text_57 (by decide) (fun c41 => ?_) (fun c41 => ?_)
        · refine v_goto (tgt := 72) dX11_text_60 (by decide) ?_
          refine v_bipush dX11_text_72 (by decide) ?_
          exact v_ireturn dX11_text_74 rfl rfl
        · exact hj19 ()
      · refine v_aload_n dX11_text_63 rfl ?_
        refine v_iload_n dX11_text_64 rfl ?_
        refine v_iload_n dX11_text_65 rfl ?_
        refine v_cV (mi := mX11_text) (c0 := 0) (c1 := 0) (As := [pI a1, pI a2]) (st := []) (kX11_is d (by omega) _ _ _ _) rfl (by rw [e15, e12, e9, e6, e3]; exact h1) rfl okX11_is (Or.inl tw1367) tw1369 tp28 rfl (Nat.le_of_ble_eq_true rfl) dX11_text_66 (fun r42 => [pI r42]) (fun r42 => M14) (fun _ => rfl) (fun _ => rfl) (fun r42 h43 => ?_) rfl
        refine v_if_ne (tgt := 75) dX11_text_69 (by decide) (fun c44 => ?_) (fun c44 => ?_)
        · refine v_bipush dX11_text_72 (by decide) ?_
          exact v_ireturn dX11_text_74 rfl rfl
        · exact hj19 ()
theorem chX11_fault_0 : (cX11_fault.data.toList.drop 0).take 16 = [42, 3, 181, 0, 90, 27, 154, 0, 12, 42, 180, 0, 17, 3, 46, 167] := by decide +kernel
theorem chX11_fault_1 : (cX11_fault.data.toList.drop 16).take 16 = [0, 18, 27, 4, 160, 0, 12, 42, 180, 0, 20, 3, 46, 167, 0, 4] := by decide +kernel
theorem chX11_fault_2 : (cX11_fault.data.toList.drop 32).take 16 = [2, 172] := by decide +kernel
theorem dX11_fault_0 : decode cX11_fault 0 = .ok (.aload_n 0, 1) := oq_42 (byt chX11_fault_0 0 rfl)
theorem dX11_fault_1 : decode cX11_fault 1 = .ok (.iconst 0, 1) := oq_3 (byt chX11_fault_0 1 rfl)
theorem dX11_fault_2 : decode cX11_fault 2 = .ok (.putfield 90, 3) := oq_181 (byt chX11_fault_0 2 rfl) (byt chX11_fault_0 3 rfl) (byt chX11_fault_0 4 rfl) rfl
theorem dX11_fault_5 : decode cX11_fault 5 = .ok (.iload_n 1, 1) := oq_27 (byt chX11_fault_0 5 rfl)
theorem dX11_fault_6 : decode cX11_fault 6 = .ok (.ifCond .ne 12, 3) := oq_154 (byt chX11_fault_0 6 rfl) (byt chX11_fault_0 7 rfl) (byt chX11_fault_0 8 rfl) (by decide +kernel)
theorem dX11_fault_9 : decode cX11_fault 9 = .ok (.aload_n 0, 1) := oq_42 (byt chX11_fault_0 9 rfl)
theorem dX11_fault_10 : decode cX11_fault 10 = .ok (.getfield 17, 3) := oq_180 (byt chX11_fault_0 10 rfl) (byt chX11_fault_0 11 rfl) (byt chX11_fault_0 12 rfl) rfl
theorem dX11_fault_13 : decode cX11_fault 13 = .ok (.iconst 0, 1) := oq_3 (byt chX11_fault_0 13 rfl)
theorem dX11_fault_14 : decode cX11_fault 14 = .ok (.iaload, 1) := oq_46 (byt chX11_fault_0 14 rfl)
theorem dX11_fault_15 : decode cX11_fault 15 = .ok (.goto 18, 3) := oq_167 (byt chX11_fault_0 15 rfl) (byt chX11_fault_1 0 rfl) (byt chX11_fault_1 1 rfl) (by decide +kernel)
theorem dX11_fault_18 : decode cX11_fault 18 = .ok (.iload_n 1, 1) := oq_27 (byt chX11_fault_1 2 rfl)
theorem dX11_fault_19 : decode cX11_fault 19 = .ok (.iconst 1, 1) := oq_4 (byt chX11_fault_1 3 rfl)
theorem dX11_fault_20 : decode cX11_fault 20 = .ok (.if_icmp .ne 12, 3) := oq_160 (byt chX11_fault_1 4 rfl) (byt chX11_fault_1 5 rfl) (byt chX11_fault_1 6 rfl) (by decide +kernel)
theorem dX11_fault_23 : decode cX11_fault 23 = .ok (.aload_n 0, 1) := oq_42 (byt chX11_fault_1 7 rfl)
theorem dX11_fault_24 : decode cX11_fault 24 = .ok (.getfield 20, 3) := oq_180 (byt chX11_fault_1 8 rfl) (byt chX11_fault_1 9 rfl) (byt chX11_fault_1 10 rfl) rfl
theorem dX11_fault_27 : decode cX11_fault 27 = .ok (.iconst 0, 1) := oq_3 (byt chX11_fault_1 11 rfl)
theorem dX11_fault_28 : decode cX11_fault 28 = .ok (.iaload, 1) := oq_46 (byt chX11_fault_1 12 rfl)
theorem dX11_fault_29 : decode cX11_fault 29 = .ok (.goto 4, 3) := oq_167 (byt chX11_fault_1 13 rfl) (byt chX11_fault_1 14 rfl) (byt chX11_fault_1 15 rfl) (by decide +kernel)
theorem dX11_fault_32 : decode cX11_fault 32 = .ok (.iconst (-1), 1) := oq_2 (byt chX11_fault_2 0 rfl)
theorem dX11_fault_33 : decode cX11_fault 33 = .ok (.ireturn, 1) := oq_172 (byt chX11_fault_2 1 rfl)
abbrev mX11_fault : MI := (yX11_fault, cX11_fault, 2, (some .int), noE)
theorem okX11_fault : cok mX11_fault 1 := ⟨tw1495, tw11, by decide, by decide, by decide, by decide +kernel⟩
def fX11_fault (M : Mem) (a0 a1 : Int) : Option (Int × Mem) :=
  if M.2.1 a0 = 10 then bM (mst M a0 0 0) fun M2 => if a1 = 0 then (if M2.2.1 (M2.1 a0 3) = 12 ∧ (0 : Int) ≤ 0 ∧ 0 < M2.2.2.1 (M2.1 a0 3) then some (M2.1 (M2.1 a0 3) 0, M2) else none) else (if a1 = 1 then (if M2.2.1 (M2.1 a0 4) = 12 ∧ (0 : Int) ≤ 0 ∧ 0 < M2.2.2.1 (M2.1 a0 4) then some (M2.1 (M2.1 a0 4) 0, M2) else none) else (some ((-1), M2))) else none
set_option maxRecDepth 100000 in
set_option maxHeartbeats 4000000 in
theorem kX11_fault (d : Nat) (hd : 0 ≤ d) (M : Mem) (a0 a1 : Int) : Ct mX11_fault d 0 0 [pA a0, pI a1] M dIM (fX11_fault M a0 a1) := by
  refine Ct.of 0 (fun _ _ _ => trivial) (by decide +kernel) rfl ?_
  unfold fX11_fault
  refine v_aload_n dX11_fault_0 rfl ?_
  refine v_iconst dX11_fault_1 (by decide) ?_
  refine v_if (fun h1 => ?_)
  refine v_put (x := 0) 10 0 rfl inX11 (by decide) tw1193 (Or.inl rfl) rfl dX11_fault_2 h1 rfl id ?_
  refine v_bM (fun M2 e3 => ?_)
  refine v_iload_n dX11_fault_5 rfl ?_
  refine v_if_ne (tgt := 18) dX11_fault_6 (by decide) (fun c4 => ?_) (fun c4 => ?_)
  · refine v_aload_n dX11_fault_9 rfl ?_
    refine v_get (v := pA (M2.1 a0 3)) 10 3 rfl inX11 (by decide) tw1196 dX11_fault_10 (by rw [e3]; exact h1) rfl ?_
    refine v_iconst dX11_fault_13 (by decide) ?_
    refine v_if (fun h5 => ?_)
    refine v_iaload h5 dX11_fault_14 ?_
    refine v_goto (tgt := 33) dX11_fault_15 (by decide) ?_
    exact v_ireturn dX11_fault_33 rfl rfl
  · refine v_iload_n dX11_fault_18 rfl ?_
    refine v_iconst dX11_fault_19 (by decide) ?_
    refine v_icmp_ne (tgt := 32) dX11_fault_20 (by decide) (fun c6 => ?_) (fun c6 => ?_)
    · refine v_aload_n dX11_fault_23 rfl ?_
      refine v_get (v := pA (M2.1 a0 4)) 10 4 rfl inX11 (by decide) tw1197 dX11_fault_24 (by rw [e3]; exact h1) rfl ?_
      refine v_iconst dX11_fault_27 (by decide) ?_
      refine v_if (fun h7 => ?_)
      refine v_iaload h7 dX11_fault_28 ?_
      refine v_goto (tgt := 33) dX11_fault_29 (by decide) ?_
      exact v_ireturn dX11_fault_33 rfl rfl
    · refine v_iconst dX11_fault_32 (by decide) ?_
      exact v_ireturn dX11_fault_33 rfl rfl
theorem chX11_of_0 : (cX11_of.data.toList.drop 0).take 16 = [42, 180, 0, 26, 16, 92, 42, 180, 1, 18, 104, 27, 96, 46, 172] := by decide +kernel
theorem dX11_of_0 : decode cX11_of 0 = .ok (.aload_n 0, 1) := oq_42 (byt chX11_of_0 0 rfl)
theorem dX11_of_1 : decode cX11_of 1 = .ok (.getfield 26, 3) := oq_180 (byt chX11_of_0 1 rfl) (byt chX11_of_0 2 rfl) (byt chX11_of_0 3 rfl) rfl
theorem dX11_of_4 : decode cX11_of 4 = .ok (.bipush 92, 2) := oq_16 (byt chX11_of_0 4 rfl) (byt chX11_of_0 5 rfl) rfl
theorem dX11_of_6 : decode cX11_of 6 = .ok (.aload_n 0, 1) := oq_42 (byt chX11_of_0 6 rfl)
theorem dX11_of_7 : decode cX11_of 7 = .ok (.getfield 274, 3) := oq_180 (byt chX11_of_0 7 rfl) (byt chX11_of_0 8 rfl) (byt chX11_of_0 9 rfl) rfl
theorem dX11_of_10 : decode cX11_of 10 = .ok (.imul, 1) := oq_104 (byt chX11_of_0 10 rfl)
theorem dX11_of_11 : decode cX11_of 11 = .ok (.iload_n 1, 1) := oq_27 (byt chX11_of_0 11 rfl)
theorem dX11_of_12 : decode cX11_of 12 = .ok (.iadd, 1) := oq_96 (byt chX11_of_0 12 rfl)
theorem dX11_of_13 : decode cX11_of 13 = .ok (.iaload, 1) := oq_46 (byt chX11_of_0 13 rfl)
theorem dX11_of_14 : decode cX11_of 14 = .ok (.ireturn, 1) := oq_172 (byt chX11_of_0 14 rfl)
abbrev mX11_of : MI := (yX11_of, cX11_of, 2, (some .int), noE)
theorem okX11_of : cok mX11_of 1 := ⟨tw1507, tw11, by decide, by decide, by decide, by decide +kernel⟩
def fX11_of (M : Mem) (a0 a1 : Int) : Option Int :=
  if M.2.1 a0 = 10 then if M.2.1 (M.1 a0 6) = 12 ∧ (0 : Int) ≤ (w32 ((w32 (92 * (M.1 a0 24))) + a1)) ∧ (w32 ((w32 (92 * (M.1 a0 24))) + a1)) < M.2.2.1 (M.1 a0 6) then some (M.1 (M.1 a0 6) (w32 ((w32 (92 * (M.1 a0 24))) + a1))) else none else none
set_option maxRecDepth 100000 in
set_option maxHeartbeats 4000000 in
theorem kX11_of (d : Nat) (hd : 0 ≤ d) (M : Mem) (a0 a1 : Int) : Ct mX11_of d 0 0 [pA a0, pI a1] M (dI M) (fX11_of M a0 a1) := by
  refine Ct.of 0 (fun _ _ _ => trivial) (by decide +kernel) rfl ?_
  unfold fX11_of
  refine v_aload_n dX11_of_0 rfl ?_
  refine v_if (fun h1 => ?_)
  refine v_get (v := pA (M.1 a0 6)) 10 6 rfl inX11 (by decide) tw1199 dX11_of_1 h1 rfl ?_
  refine v_bipush dX11_of_4 (by decide) ?_
  refine v_aload_n dX11_of_6 rfl ?_
  refine v_get (v := pI (M.1 a0 24)) 10 24 rfl inX11 (by decide) tw1217 dX11_of_7 h1 rfl ?_
  refine v_imul dX11_of_10 ?_
  refine v_iload_n dX11_of_11 rfl ?_
  refine v_iadd dX11_of_12 ?_
  refine v_if (fun h2 => ?_)
  refine v_iaload h2 dX11_of_13 ?_
  exact v_ireturn dX11_of_14 rfl rfl
theorem chX11_hand_0 : (cX11_hand.data.toList.drop 0).take 16 = [42, 3, 27, 182, 1, 8, 154, 0, 5, 3, 172, 42, 27, 181, 1, 18] := by decide +kernel
theorem chX11_hand_1 : (cX11_hand.data.toList.drop 16).take 16 = [42, 42, 3, 182, 1, 21, 181, 1, 25, 42, 42, 4, 182, 1, 21, 181] := by decide +kernel
theorem chX11_hand_2 : (cX11_hand.data.toList.drop 32).take 16 = [1, 28, 4, 172] := by decide +kernel
theorem dX11_hand_0 : decode cX11_hand 0 = .ok (.aload_n 0, 1) := oq_42 (byt chX11_hand_0 0 rfl)
theorem dX11_hand_1 : decode cX11_hand 1 = .ok (.iconst 0, 1) := oq_3 (byt chX11_hand_0 1 rfl)
theorem dX11_hand_2 : decode cX11_hand 2 = .ok (.iload_n 1, 1) := oq_27 (byt chX11_hand_0 2 rfl)
theorem dX11_hand_3 : decode cX11_hand 3 = .ok (.invokevirtual 264, 3) := oq_182 (byt chX11_hand_0 3 rfl) (byt chX11_hand_0 4 rfl) (byt chX11_hand_0 5 rfl) rfl
theorem dX11_hand_6 : decode cX11_hand 6 = .ok (.ifCond .ne 5, 3) := oq_154 (byt chX11_hand_0 6 rfl) (byt chX11_hand_0 7 rfl) (byt chX11_hand_0 8 rfl) (by decide +kernel)
theorem dX11_hand_9 : decode cX11_hand 9 = .ok (.iconst 0, 1) := oq_3 (byt chX11_hand_0 9 rfl)
theorem dX11_hand_10 : decode cX11_hand 10 = .ok (.ireturn, 1) := oq_172 (byt chX11_hand_0 10 rfl)
theorem dX11_hand_11 : decode cX11_hand 11 = .ok (.aload_n 0, 1) := oq_42 (byt chX11_hand_0 11 rfl)
theorem dX11_hand_12 : decode cX11_hand 12 = .ok (.iload_n 1, 1) := oq_27 (byt chX11_hand_0 12 rfl)
theorem dX11_hand_13 : decode cX11_hand 13 = .ok (.putfield 274, 3) := oq_181 (byt chX11_hand_0 13 rfl) (byt chX11_hand_0 14 rfl) (byt chX11_hand_0 15 rfl) rfl
theorem dX11_hand_16 : decode cX11_hand 16 = .ok (.aload_n 0, 1) := oq_42 (byt chX11_hand_1 0 rfl)
theorem dX11_hand_17 : decode cX11_hand 17 = .ok (.aload_n 0, 1) := oq_42 (byt chX11_hand_1 1 rfl)
theorem dX11_hand_18 : decode cX11_hand 18 = .ok (.iconst 0, 1) := oq_3 (byt chX11_hand_1 2 rfl)
theorem dX11_hand_19 : decode cX11_hand 19 = .ok (.invokevirtual 277, 3) := oq_182 (byt chX11_hand_1 3 rfl) (byt chX11_hand_1 4 rfl) (byt chX11_hand_1 5 rfl) rfl
theorem dX11_hand_22 : decode cX11_hand 22 = .ok (.putfield 281, 3) := oq_181 (byt chX11_hand_1 6 rfl) (byt chX11_hand_1 7 rfl) (byt chX11_hand_1 8 rfl) rfl
theorem dX11_hand_25 : decode cX11_hand 25 = .ok (.aload_n 0, 1) := oq_42 (byt chX11_hand_1 9 rfl)
theorem dX11_hand_26 : decode cX11_hand 26 = .ok (.aload_n 0, 1) := oq_42 (byt chX11_hand_1 10 rfl)
theorem dX11_hand_27 : decode cX11_hand 27 = .ok (.iconst 1, 1) := oq_4 (byt chX11_hand_1 11 rfl)
theorem dX11_hand_28 : decode cX11_hand 28 = .ok (.invokevirtual 277, 3) := oq_182 (byt chX11_hand_1 12 rfl) (byt chX11_hand_1 13 rfl) (byt chX11_hand_1 14 rfl) rfl
theorem dX11_hand_31 : decode cX11_hand 31 = .ok (.putfield 284, 3) := oq_181 (byt chX11_hand_1 15 rfl) (byt chX11_hand_2 0 rfl) (byt chX11_hand_2 1 rfl) rfl
theorem dX11_hand_34 : decode cX11_hand 34 = .ok (.iconst 1, 1) := oq_4 (byt chX11_hand_2 2 rfl)
theorem dX11_hand_35 : decode cX11_hand 35 = .ok (.ireturn, 1) := oq_172 (byt chX11_hand_2 3 rfl)
abbrev mX11_hand : MI := (yX11_hand, cX11_hand, 2, (some .boolean), noE)
theorem okX11_hand : cok mX11_hand 1 := ⟨tw1503, tw11, by decide, by decide, by decide, by decide +kernel⟩
def fX11_hand (M : Mem) (a0 a1 : Int) : Option (Int × Mem) :=
  if M.2.1 a0 = 10 then (fX11_is M a0 0 a1).bind fun r1 => if r1 = 0 then (some (0, M)) else (bM (mst M a0 24 a1) fun M5 => (fX11_of M5 a0 0).bind fun r7 => bM (mst M5 a0 25 r7) fun M9 => (fX11_of M9 a0 1).bind fun r11 => bM (mst M9 a0 26 r11) fun M13 => some (1, M13)) else none
set_option maxRecDepth 100000 in
set_option maxHeartbeats 4000000 in
theorem kX11_hand (d : Nat) (hd : 2 ≤ d) (M : Mem) (a0 a1 : Int) : Ct mX11_hand d 0 0 [pA a0, pI a1] M dIM (fX11_hand M a0 a1) := by
  obtain ⟨d, rfl⟩ : ∃ k, d = k + 1 := ⟨d - 1, by omega⟩
  refine Ct.of 0 (fun _ _ _ => trivial) (by decide +kernel) rfl ?_
  unfold fX11_hand
  refine v_aload_n dX11_hand_0 rfl ?_
  refine v_iconst dX11_hand_1 (by decide) ?_
  refine v_iload_n dX11_hand_2 rfl ?_
  refine v_if (fun h3 => ?_)
  refine v_cV (mi := mX11_hand) (c0 := 0) (c1 := 0) (As := [pI 0, pI a1]) (st := []) (kX11_is d (by omega) _ _ _ _) rfl h3 rfl okX11_is (Or.inl tw1367) tw1369 tp28 rfl (Nat.le_of_ble_eq_true rfl) dX11_hand_3 (fun r1 => [pI r1]) (fun r1 => M) (fun _ => rfl) (fun _ => rfl) (fun r1 h2 => ?_) rfl
  refine v_if_ne (tgt := 11) dX11_hand_6 (by decide) (fun c4 => ?_) (fun c4 => ?_)
  · refine v_iconst dX11_hand_9 (by decide) ?_
    exact v_breturn dX11_hand_10 rfl (by decide) rfl
  · refine v_aload_n dX11_hand_11 rfl ?_
    refine v_iload_n dX11_hand_12 rfl ?_
    refine v_put (x := a1) 10 24 rfl inX11 (by decide) tw1217 (Or.inl rfl) rfl dX11_hand_13 h3 rfl id ?_
    refine v_bM (fun M5 e6 => ?_)
    refine v_aload_n dX11_hand_16 rfl ?_
    refine v_aload_n dX11_hand_17 rfl ?_
    refine v_iconst dX11_hand_18 (by decide) ?_
    refine v_cV (mi := mX11_hand) (c0 := 0) (c1 := 0) (As := [pI 0]) (st := [pA a0]) (kX11_of d (by omega) _ _ _) rfl (by rw [e6]; exact h3) rfl okX11_of (Or.inl tw1504) tw1506 tp55 rfl (Nat.le_of_ble_eq_true rfl) dX11_hand_19 (fun r7 => [pI r7, pA a0]) (fun r7 => M5) (fun _ => rfl) (fun _ => rfl) (fun r7 h8 => ?_) rfl
    refine v_put (x := r7) 10 25 rfl inX11 (by decide) tw1218 (Or.inl rfl) rfl dX11_hand_22 (by rw [e6]; exact h3) rfl id ?_
    refine v_bM (fun M9 e10 => ?_)
    refine v_aload_n dX11_hand_25 rfl ?_
    refine v_aload_n dX11_hand_26 rfl ?_
    refine v_iconst dX11_hand_27 (by decide) ?_
    refine v_cV (mi := mX11_hand) (c0 := 0) (c1 := 0) (As := [pI 1]) (st := [pA a0]) (kX11_of d (by omega) _ _ _) rfl (by rw [e10, e6]; exact h3) rfl okX11_of (Or.inl tw1504) tw1506 tp55 rfl (Nat.le_of_ble_eq_true rfl) dX11_hand_28 (fun r11 => [pI r11, pA a0]) (fun r11 => M9) (fun _ => rfl) (fun _ => rfl) (fun r11 h12 => ?_) rfl
    refine v_put (x := r11) 10 26 rfl inX11 (by decide) tw1219 (Or.inl rfl) rfl dX11_hand_31 (by rw [e10, e6]; exact h3) rfl id ?_
    refine v_bM (fun M13 e14 => ?_)
    refine v_iconst dX11_hand_34 (by decide) ?_
    exact v_breturn dX11_hand_35 rfl (by decide) rfl
theorem chX11_isHouse_0 : (cX11_isHouse.data.toList.drop 0).take 16 = [27, 3, 42, 180, 1, 25, 4, 100, 184, 0, 98, 172] := by decide +kernel
theorem dX11_isHouse_0 : decode cX11_isHouse 0 = .ok (.iload_n 1, 1) := oq_27 (byt chX11_isHouse_0 0 rfl)
theorem dX11_isHouse_1 : decode cX11_isHouse 1 = .ok (.iconst 0, 1) := oq_3 (byt chX11_isHouse_0 1 rfl)
theorem dX11_isHouse_2 : decode cX11_isHouse 2 = .ok (.aload_n 0, 1) := oq_42 (byt chX11_isHouse_0 2 rfl)
theorem dX11_isHouse_3 : decode cX11_isHouse 3 = .ok (.getfield 281, 3) := oq_180 (byt chX11_isHouse_0 3 rfl) (byt chX11_isHouse_0 4 rfl) (byt chX11_isHouse_0 5 rfl) rfl
theorem dX11_isHouse_6 : decode cX11_isHouse 6 = .ok (.iconst 1, 1) := oq_4 (byt chX11_isHouse_0 6 rfl)
theorem dX11_isHouse_7 : decode cX11_isHouse 7 = .ok (.isub, 1) := oq_100 (byt chX11_isHouse_0 7 rfl)
theorem dX11_isHouse_8 : decode cX11_isHouse 8 = .ok (.invokestatic 98, 3) := oq_184 (byt chX11_isHouse_0 8 rfl) (byt chX11_isHouse_0 9 rfl) (byt chX11_isHouse_0 10 rfl) rfl
theorem dX11_isHouse_11 : decode cX11_isHouse 11 = .ok (.ireturn, 1) := oq_172 (byt chX11_isHouse_0 11 rfl)
abbrev mX11_isHouse : MI := (yX11_isHouse, cX11_isHouse, 2, (some .boolean), noE)
theorem okX11_isHouse : cok mX11_isHouse 1 := ⟨tw1511, tw11, by decide, by decide, by decide, by decide +kernel⟩
def fX11_isHouse (M : Mem) (a0 a1 : Int) : Option Int :=
  if M.2.1 a0 = 10 then (fX11_in M a1 0 (w32 ((M.1 a0 25) - 1))).bind fun r2 => if r2 = 0 ∨ r2 = 1 then some r2 else none else none
set_option maxRecDepth 100000 in
set_option maxHeartbeats 4000000 in
theorem kX11_isHouse (d : Nat) (hd : 1 ≤ d) (M : Mem) (a0 a1 : Int) : Ct mX11_isHouse d 0 0 [pA a0, pI a1] M (dI M) (fX11_isHouse M a0 a1) := by
  obtain ⟨d, rfl⟩ : ∃ k, d = k + 1 := ⟨d - 1, by omega⟩
  refine Ct.of 0 (fun _ _ _ => trivial) (by decide +kernel) rfl ?_
  unfold fX11_isHouse
  refine v_iload_n dX11_isHouse_0 rfl ?_
  refine v_iconst dX11_isHouse_1 (by decide) ?_
  refine v_aload_n dX11_isHouse_2 rfl ?_
  refine v_if (fun h1 => ?_)
  refine v_get (v := pI (M.1 a0 25)) 10 25 rfl inX11 (by decide) tw1218 dX11_isHouse_3 h1 rfl ?_
  refine v_iconst dX11_isHouse_6 (by decide) ?_
  refine v_isub dX11_isHouse_7 ?_
  refine v_cS (mi := mX11_isHouse) (c0 := 0) (c1 := 0) (As := [pI a1, pI 0, pI (w32 ((M.1 a0 25) - 1))]) (st := []) (kX11_in d (by omega) _ _ _ _) okX11_in (Or.inl tw1360) tw1361 rfl (Nat.le_of_ble_eq_true rfl) dX11_isHouse_8 (fun r2 => [pI r2]) (fun r2 => M) (fun _ => rfl) (fun _ => rfl) (fun r2 h3 => ?_) rfl
  refine v_if (fun h4 => ?_)
  exact v_breturn dX11_isHouse_11 rfl h4 rfl
theorem chX11_isThief_0 : (cX11_isThief.data.toList.drop 0).take 16 = [27, 3, 42, 180, 1, 28, 4, 100, 184, 0, 98, 172] := by decide +kernel
theorem dX11_isThief_0 : decode cX11_isThief 0 = .ok (.iload_n 1, 1) := oq_27 (byt chX11_isThief_0 0 rfl)
theorem dX11_isThief_1 : decode cX11_isThief 1 = .ok (.iconst 0, 1) := oq_3 (byt chX11_isThief_0 1 rfl)
theorem dX11_isThief_2 : decode cX11_isThief 2 = .ok (.aload_n 0, 1) := oq_42 (byt chX11_isThief_0 2 rfl)
theorem dX11_isThief_3 : decode cX11_isThief 3 = .ok (.getfield 284, 3) := oq_180 (byt chX11_isThief_0 3 rfl) (byt chX11_isThief_0 4 rfl) (byt chX11_isThief_0 5 rfl) rfl
theorem dX11_isThief_6 : decode cX11_isThief 6 = .ok (.iconst 1, 1) := oq_4 (byt chX11_isThief_0 6 rfl)
theorem dX11_isThief_7 : decode cX11_isThief 7 = .ok (.isub, 1) := oq_100 (byt chX11_isThief_0 7 rfl)
theorem dX11_isThief_8 : decode cX11_isThief 8 = .ok (.invokestatic 98, 3) := oq_184 (byt chX11_isThief_0 8 rfl) (byt chX11_isThief_0 9 rfl) (byt chX11_isThief_0 10 rfl) rfl
theorem dX11_isThief_11 : decode cX11_isThief 11 = .ok (.ireturn, 1) := oq_172 (byt chX11_isThief_0 11 rfl)
abbrev mX11_isThief : MI := (yX11_isThief, cX11_isThief, 2, (some .boolean), noE)
theorem okX11_isThief : cok mX11_isThief 1 := ⟨tw1518, tw11, by decide, by decide, by decide, by decide +kernel⟩
def fX11_isThief (M : Mem) (a0 a1 : Int) : Option Int :=
  if M.2.1 a0 = 10 then (fX11_in M a1 0 (w32 ((M.1 a0 26) - 1))).bind fun r2 => if r2 = 0 ∨ r2 = 1 then some r2 else none else none
set_option maxRecDepth 100000 in
set_option maxHeartbeats 4000000 in
theorem kX11_isThief (d : Nat) (hd : 1 ≤ d) (M : Mem) (a0 a1 : Int) : Ct mX11_isThief d 0 0 [pA a0, pI a1] M (dI M) (fX11_isThief M a0 a1) := by
  obtain ⟨d, rfl⟩ : ∃ k, d = k + 1 := ⟨d - 1, by omega⟩
  refine Ct.of 0 (fun _ _ _ => trivial) (by decide +kernel) rfl ?_
  unfold fX11_isThief
  refine v_iload_n dX11_isThief_0 rfl ?_
  refine v_iconst dX11_isThief_1 (by decide) ?_
  refine v_aload_n dX11_isThief_2 rfl ?_
  refine v_if (fun h1 => ?_)
  refine v_get (v := pI (M.1 a0 26)) 10 26 rfl inX11 (by decide) tw1219 dX11_isThief_3 h1 rfl ?_
  refine v_iconst dX11_isThief_6 (by decide) ?_
  refine v_isub dX11_isThief_7 ?_
  refine v_cS (mi := mX11_isThief) (c0 := 0) (c1 := 0) (As := [pI a1, pI 0, pI (w32 ((M.1 a0 26) - 1))]) (st := []) (kX11_in d (by omega) _ _ _ _) okX11_in (Or.inl tw1360) tw1361 rfl (Nat.le_of_ble_eq_true rfl) dX11_isThief_8 (fun r2 => [pI r2]) (fun r2 => M) (fun _ => rfl) (fun _ => rfl) (fun r2 h3 => ?_) rfl
  refine v_if (fun h4 => ?_)
  exact v_breturn dX11_isThief_11 rfl h4 rfl
theorem chX11_isGood_0 : (cX11_isGood.data.toList.drop 0).take 16 = [26, 3, 7, 184, 0, 98, 172] := by decide +kernel
theorem dX11_isGood_0 : decode cX11_isGood 0 = .ok (.iload_n 0, 1) := oq_26 (byt chX11_isGood_0 0 rfl)
theorem dX11_isGood_1 : decode cX11_isGood 1 = .ok (.iconst 0, 1) := oq_3 (byt chX11_isGood_0 1 rfl)
theorem dX11_isGood_2 : decode cX11_isGood 2 = .ok (.iconst 4, 1) := oq_7 (byt chX11_isGood_0 2 rfl)
theorem dX11_isGood_3 : decode cX11_isGood 3 = .ok (.invokestatic 98, 3) := oq_184 (byt chX11_isGood_0 3 rfl) (byt chX11_isGood_0 4 rfl) (byt chX11_isGood_0 5 rfl) rfl
theorem dX11_isGood_6 : decode cX11_isGood 6 = .ok (.ireturn, 1) := oq_172 (byt chX11_isGood_0 6 rfl)
abbrev mX11_isGood : MI := (yX11_isGood, cX11_isGood, 1, (some .boolean), noE)
theorem okX11_isGood : cok mX11_isGood 1 := ⟨tw1514, tw11, by decide, by decide, by decide, by decide +kernel⟩
def fX11_isGood (M : Mem) (a0 : Int) : Option Int :=
  (fX11_in M a0 0 4).bind fun r1 => if r1 = 0 ∨ r1 = 1 then some r1 else none
set_option maxRecDepth 100000 in
set_option maxHeartbeats 4000000 in
theorem kX11_isGood (d : Nat) (hd : 1 ≤ d) (M : Mem) (a0 : Int) : Ct mX11_isGood d 0 0 [pI a0] M (dI M) (fX11_isGood M a0) := by
  obtain ⟨d, rfl⟩ : ∃ k, d = k + 1 := ⟨d - 1, by omega⟩
  refine Ct.of 0 (fun _ _ _ => trivial) (by decide +kernel) rfl ?_
  unfold fX11_isGood
  refine v_iload_n dX11_isGood_0 rfl ?_
  refine v_iconst dX11_isGood_1 (by decide) ?_
  refine v_iconst dX11_isGood_2 (by decide) ?_
  refine v_cS (mi := mX11_isGood) (c0 := 0) (c1 := 0) (As := [pI a0, pI 0, pI 4]) (st := []) (kX11_in d (by omega) _ _ _ _) okX11_in (Or.inl tw1360) tw1361 rfl (Nat.le_of_ble_eq_true rfl) dX11_isGood_3 (fun r1 => [pI r1]) (fun r1 => M) (fun _ => rfl) (fun _ => rfl) (fun r1 h2 => ?_) rfl
  refine v_if (fun h3 => ?_)
  exact v_breturn dX11_isGood_6 rfl h3 rfl
theorem chX11_spare_0 : (cX11_spare.data.toList.drop 0).take 16 = [3, 42, 5, 8, 27, 104, 96, 28, 96, 182, 1, 21, 42, 16, 32, 8] := by decide +kernel
theorem chX11_spare_1 : (cX11_spare.data.toList.drop 16).take 16 = [27, 104, 96, 28, 96, 182, 1, 21, 100, 184, 0, 163, 172] := by decide +kernel
theorem dX11_spare_0 : decode cX11_spare 0 = .ok (.iconst 0, 1) := oq_3 (byt chX11_spare_0 0 rfl)
theorem dX11_spare_1 : decode cX11_spare 1 = .ok (.aload_n 0, 1) := oq_42 (byt chX11_spare_0 1 rfl)
theorem dX11_spare_2 : decode cX11_spare 2 = .ok (.iconst 2, 1) := oq_5 (byt chX11_spare_0 2 rfl)
theorem dX11_spare_3 : decode cX11_spare 3 = .ok (.iconst 5, 1) := oq_8 (byt chX11_spare_0 3 rfl)
theorem dX11_spare_4 : decode cX11_spare 4 = .ok (.iload_n 1, 1) := oq_27 (byt chX11_spare_0 4 rfl)
theorem dX11_spare_5 : decode cX11_spare 5 = .ok (.imul, 1) := oq_104 (byt chX11_spare_0 5 rfl)
theorem dX11_spare_6 : decode cX11_spare 6 = .ok (.iadd, 1) := oq_96 (byt chX11_spare_0 6 rfl)
theorem dX11_spare_7 : decode cX11_spare 7 = .ok (.iload_n 2, 1) := oq_28 (byt chX11_spare_0 7 rfl)
theorem dX11_spare_8 : decode cX11_spare 8 = .ok (.iadd, 1) := oq_96 (byt chX11_spare_0 8 rfl)
theorem dX11_spare_9 : decode cX11_spare 9 = .ok (.invokevirtual 277, 3) := oq_182 (byt chX11_spare_0 9 rfl) (byt chX11_spare_0 10 rfl) (byt chX11_spare_0 11 rfl) rfl
theorem dX11_spare_12 : decode cX11_spare 12 = .ok (.aload_n 0, 1) := oq_42 (byt chX11_spare_0 12 rfl)
theorem dX11_spare_13 : decode cX11_spare 13 = .ok (.bipush 32, 2) := oq_16 (byt chX11_spare_0 13 rfl) (byt chX11_spare_0 14 rfl) rfl
theorem dX11_spare_15 : decode cX11_spare 15 = .ok (.iconst 5, 1) := oq_8 (byt chX11_spare_0 15 rfl)
theorem dX11_spare_16 : decode cX11_spare 16 = .ok (.iload_n 1, 1) := oq_27 (byt chX11_spare_1 0 rfl)
theorem dX11_spare_17 : decode cX11_spare 17 = .ok (.imul, 1) := oq_104 (byt chX11_spare_1 1 rfl)
theorem dX11_spare_18 : decode cX11_spare 18 = .ok (.iadd, 1) := oq_96 (byt chX11_spare_1 2 rfl)
theorem dX11_spare_19 : decode cX11_spare 19 = .ok (.iload_n 2, 1) := oq_28 (byt chX11_spare_1 3 rfl)
theorem dX11_spare_20 : decode cX11_spare 20 = .ok (.iadd, 1) := oq_96 (byt chX11_spare_1 4 rfl)
theorem dX11_spare_21 : decode cX11_spare 21 = .ok (.invokevirtual 277, 3) := oq_182 (byt chX11_spare_1 5 rfl) (byt chX11_spare_1 6 rfl) (byt chX11_spare_1 7 rfl) rfl
theorem dX11_spare_24 : decode cX11_spare 24 = .ok (.isub, 1) := oq_100 (byt chX11_spare_1 8 rfl)
theorem dX11_spare_25 : decode cX11_spare 25 = .ok (.invokestatic 163, 3) := oq_184 (byt chX11_spare_1 9 rfl) (byt chX11_spare_1 10 rfl) (byt chX11_spare_1 11 rfl) rfl
theorem dX11_spare_28 : decode cX11_spare 28 = .ok (.ireturn, 1) := oq_172 (byt chX11_spare_1 12 rfl)
abbrev mX11_spare : MI := (yX11_spare, cX11_spare, 3, (some .int), noE)
theorem okX11_spare : cok mX11_spare 2 := ⟨tw1526, tw11, by decide, by decide, by decide, by decide +kernel⟩
def fX11_spare (M : Mem) (a0 a1 a2 : Int) : Option Int :=
  if M.2.1 a0 = 10 then (fX11_of M a0 (w32 ((w32 (2 + (w32 (5 * a1)))) + a2))).bind fun r1 => (fX11_of M a0 (w32 ((w32 (32 + (w32 (5 * a1)))) + a2))).bind fun r4 => (fX11_greater M 0 (w32 (r1 - r4))).bind fun r6 => some r6 else none
set_option maxRecDepth 100000 in
set_option maxHeartbeats 4000000 in
theorem kX11_spare (d : Nat) (hd : 1 ≤ d) (M : Mem) (a0 a1 a2 : Int) : Ct mX11_spare d 0 0 [pA a0, pI a1, pI a2] M (dI M) (fX11_spare M a0 a1 a2) := by
  obtain ⟨d, rfl⟩ : ∃ k, d = k + 1 := ⟨d - 1, by omega⟩
  refine Ct.of 0 (fun _ _ _ => trivial) (by decide +kernel) rfl ?_
  unfold fX11_spare
  refine v_iconst dX11_spare_0 (by decide) ?_
  refine v_aload_n dX11_spare_1 rfl ?_
  refine v_iconst dX11_spare_2 (by decide) ?_
  refine v_iconst dX11_spare_3 (by decide) ?_
  refine v_iload_n dX11_spare_4 rfl ?_
  refine v_imul dX11_spare_5 ?_
  refine v_iadd dX11_spare_6 ?_
  refine v_iload_n dX11_spare_7 rfl ?_
  refine v_iadd dX11_spare_8 ?_
  refine v_if (fun h3 => ?_)
  refine v_cV (mi := mX11_spare) (c0 := 0) (c1 := 0) (As := [pI (w32 ((w32 (2 + (w32 (5 * a1)))) + a2))]) (st := [pI 0]) (kX11_of d (by omega) _ _ _) rfl h3 rfl okX11_of (Or.inl tw1504) tw1506 tp55 rfl (Nat.le_of_ble_eq_true rfl) dX11_spare_9 (fun r1 => [pI r1, pI 0]) (fun r1 => M) (fun _ => rfl) (fun _ => rfl) (fun r1 h2 => ?_) rfl
  refine v_aload_n dX11_spare_12 rfl ?_
  refine v_bipush dX11_spare_13 (by decide) ?_
  refine v_iconst dX11_spare_15 (by decide) ?_
  refine v_iload_n dX11_spare_16 rfl ?_
  refine v_imul dX11_spare_17 ?_
  refine v_iadd dX11_spare_18 ?_
  refine v_iload_n dX11_spare_19 rfl ?_
  refine v_iadd dX11_spare_20 ?_
  refine v_cV (mi := mX11_spare) (c0 := 0) (c1 := 0) (As := [pI (w32 ((w32 (32 + (w32 (5 * a1)))) + a2))]) (st := [pI r1, pI 0]) (kX11_of d (by omega) _ _ _) rfl h3 rfl okX11_of (Or.inl tw1504) tw1506 tp55 rfl (Nat.le_of_ble_eq_true rfl) dX11_spare_21 (fun r4 => [pI r4, pI r1, pI 0]) (fun r4 => M) (fun _ => rfl) (fun _ => rfl) (fun r4 h5 => ?_) rfl
  refine v_isub dX11_spare_24 ?_
  refine v_cS (mi := mX11_spare) (c0 := 0) (c1 := 0) (As := [pI 0, pI (w32 (r1 - r4))]) (st := []) (kX11_greater d (by omega) _ _ _) okX11_greater (Or.inl tw1440) tw1441 rfl (Nat.le_of_ble_eq_true rfl) dX11_spare_25 (fun r6 => [pI r6]) (fun r6 => M) (fun _ => rfl) (fun _ => rfl) (fun r6 h7 => ?_) rfl
  exact v_ireturn dX11_spare_28 rfl rfl
theorem chX11_lacks_0 : (cX11_lacks.data.toList.drop 0).take 16 = [3, 42, 16, 32, 8, 27, 104, 96, 28, 96, 182, 1, 21, 42, 5, 8] := by decide +kernel
theorem chX11_lacks_1 : (cX11_lacks.data.toList.drop 16).take 16 = [27, 104, 96, 28, 96, 182, 1, 21, 100, 184, 0, 163, 172] := by decide +kernel
theorem dX11_lacks_0 : decode cX11_lacks 0 = .ok (.iconst 0, 1) := oq_3 (byt chX11_lacks_0 0 rfl)
theorem dX11_lacks_1 : decode cX11_lacks 1 = .ok (.aload_n 0, 1) := oq_42 (byt chX11_lacks_0 1 rfl)
theorem dX11_lacks_2 : decode cX11_lacks 2 = .ok (.bipush 32, 2) := oq_16 (byt chX11_lacks_0 2 rfl) (byt chX11_lacks_0 3 rfl) rfl
theorem dX11_lacks_4 : decode cX11_lacks 4 = .ok (.iconst 5, 1) := oq_8 (byt chX11_lacks_0 4 rfl)
theorem dX11_lacks_5 : decode cX11_lacks 5 = .ok (.iload_n 1, 1) := oq_27 (byt chX11_lacks_0 5 rfl)
theorem dX11_lacks_6 : decode cX11_lacks 6 = .ok (.imul, 1) := oq_104 (byt chX11_lacks_0 6 rfl)
theorem dX11_lacks_7 : decode cX11_lacks 7 = .ok (.iadd, 1) := oq_96 (byt chX11_lacks_0 7 rfl)
theorem dX11_lacks_8 : decode cX11_lacks 8 = .ok (.iload_n 2, 1) := oq_28 (byt chX11_lacks_0 8 rfl)
theorem dX11_lacks_9 : decode cX11_lacks 9 = .ok (.iadd, 1) := oq_96 (byt chX11_lacks_0 9 rfl)
theorem dX11_lacks_10 : decode cX11_lacks 10 = .ok (.invokevirtual 277, 3) := oq_182 (byt chX11_lacks_0 10 rfl) (byt chX11_lacks_0 11 rfl) (byt chX11_lacks_0 12 rfl) rfl
theorem dX11_lacks_13 : decode cX11_lacks 13 = .ok (.aload_n 0, 1) := oq_42 (byt chX11_lacks_0 13 rfl)
theorem dX11_lacks_14 : decode cX11_lacks 14 = .ok (.iconst 2, 1) := oq_5 (byt chX11_lacks_0 14 rfl)
theorem dX11_lacks_15 : decode cX11_lacks 15 = .ok (.iconst 5, 1) := oq_8 (byt chX11_lacks_0 15 rfl)
theorem dX11_lacks_16 : decode cX11_lacks 16 = .ok (.iload_n 1, 1) := oq_27 (byt chX11_lacks_1 0 rfl)
theorem dX11_lacks_17 : decode cX11_lacks 17 = .ok (.imul, 1) := oq_104 (byt chX11_lacks_1 1 rfl)
theorem dX11_lacks_18 : decode cX11_lacks 18 = .ok (.iadd, 1) := oq_96 (byt chX11_lacks_1 2 rfl)
theorem dX11_lacks_19 : decode cX11_lacks 19 = .ok (.iload_n 2, 1) := oq_28 (byt chX11_lacks_1 3 rfl)
theorem dX11_lacks_20 : decode cX11_lacks 20 = .ok (.iadd, 1) := oq_96 (byt chX11_lacks_1 4 rfl)
theorem dX11_lacks_21 : decode cX11_lacks 21 = .ok (.invokevirtual 277, 3) := oq_182 (byt chX11_lacks_1 5 rfl) (byt chX11_lacks_1 6 rfl) (byt chX11_lacks_1 7 rfl) rfl
theorem dX11_lacks_24 : decode cX11_lacks 24 = .ok (.isub, 1) := oq_100 (byt chX11_lacks_1 8 rfl)
theorem dX11_lacks_25 : decode cX11_lacks 25 = .ok (.invokestatic 163, 3) := oq_184 (byt chX11_lacks_1 9 rfl) (byt chX11_lacks_1 10 rfl) (byt chX11_lacks_1 11 rfl) rfl
theorem dX11_lacks_28 : decode cX11_lacks 28 = .ok (.ireturn, 1) := oq_172 (byt chX11_lacks_1 12 rfl)
abbrev mX11_lacks : MI := (yX11_lacks, cX11_lacks, 3, (some .int), noE)
theorem okX11_lacks : cok mX11_lacks 2 := ⟨tw1530, tw11, by decide, by decide, by decide, by decide +kernel⟩
def fX11_lacks (M : Mem) (a0 a1 a2 : Int) : Option Int :=
  if M.2.1 a0 = 10 then (fX11_of M a0 (w32 ((w32 (32 + (w32 (5 * a1)))) + a2))).bind fun r1 => (fX11_of M a0 (w32 ((w32 (2 + (w32 (5 * a1)))) + a2))).bind fun r4 => (fX11_greater M 0 (w32 (r1 - r4))).bind fun r6 => some r6 else none
set_option maxRecDepth 100000 in
set_option maxHeartbeats 4000000 in
theorem kX11_lacks (d : Nat) (hd : 1 ≤ d) (M : Mem) (a0 a1 a2 : Int) : Ct mX11_lacks d 0 0 [pA a0, pI a1, pI a2] M (dI M) (fX11_lacks M a0 a1 a2) := by
  obtain ⟨d, rfl⟩ : ∃ k, d = k + 1 := ⟨d - 1, by omega⟩
  refine Ct.of 0 (fun _ _ _ => trivial) (by decide +kernel) rfl ?_
  unfold fX11_lacks
  refine v_iconst dX11_lacks_0 (by decide) ?_
  refine v_aload_n dX11_lacks_1 rfl ?_
  refine v_bipush dX11_lacks_2 (by decide) ?_
  refine v_iconst dX11_lacks_4 (by decide) ?_
  refine v_iload_n dX11_lacks_5 rfl ?_
  refine v_imul dX11_lacks_6 ?_
  refine v_iadd dX11_lacks_7 ?_
  refine v_iload_n dX11_lacks_8 rfl ?_
  refine v_iadd dX11_lacks_9 ?_
  refine v_if (fun h3 => ?_)
  refine v_cV (mi := mX11_lacks) (c0 := 0) (c1 := 0) (As := [pI (w32 ((w32 (32 + (w32 (5 * a1)))) + a2))]) (st := [pI 0]) (kX11_of d (by omega) _ _ _) rfl h3 rfl okX11_of (Or.inl tw1504) tw1506 tp55 rfl (Nat.le_of_ble_eq_true rfl) dX11_lacks_10 (fun r1 => [pI r1, pI 0]) (fun r1 => M) (fun _ => rfl) (fun _ => rfl) (fun r1 h2 => ?_) rfl
  refine v_aload_n dX11_lacks_13 rfl ?_
  refine v_iconst dX11_lacks_14 (by decide) ?_
  refine v_iconst dX11_lacks_15 (by decide) ?_
  refine v_iload_n dX11_lacks_16 rfl ?_
  refine v_imul dX11_lacks_17 ?_
  refine v_iadd dX11_lacks_18 ?_
  refine v_iload_n dX11_lacks_19 rfl ?_
  refine v_iadd dX11_lacks_20 ?_
  refine v_cV (mi := mX11_lacks) (c0 := 0) (c1 := 0) (As := [pI (w32 ((w32 (2 + (w32 (5 * a1)))) + a2))]) (st := [pI r1, pI 0]) (kX11_of d (by omega) _ _ _) rfl h3 rfl okX11_of (Or.inl tw1504) tw1506 tp55 rfl (Nat.le_of_ble_eq_true rfl) dX11_lacks_21 (fun r4 => [pI r4, pI r1, pI 0]) (fun r4 => M) (fun _ => rfl) (fun _ => rfl) (fun r4 h5 => ?_) rfl
  refine v_isub dX11_lacks_24 ?_
  refine v_cS (mi := mX11_lacks) (c0 := 0) (c1 := 0) (As := [pI 0, pI (w32 (r1 - r4))]) (st := []) (kX11_greater d (by omega) _ _ _) okX11_greater (Or.inl tw1440) tw1441 rfl (Nat.le_of_ble_eq_true rfl) dX11_lacks_25 (fun r6 => [pI r6]) (fun r6 => M) (fun _ => rfl) (fun _ => rfl) (fun r6 h7 => ?_) rfl
  exact v_ireturn dX11_lacks_28 rfl rfl
theorem chX11_town_0 : (cX11_town.data.toList.drop 0).take 16 = [42, 3, 181, 0, 90, 42, 27, 182, 1, 31, 154, 0, 6, 16, 254, 172] := by decide +kernel
theorem chX11_town_1 : (cX11_town.data.toList.drop 16).take 16 = [28, 16, 10, 112, 62, 28, 16, 10, 108, 170, 0, 0, 0, 0, 0, 169] := by decide +kernel
theorem chX11_town_4 : (cX11_town.data.toList.drop 64).take 16 = [42, 29, 182, 1, 34, 153, 0, 14, 42, 16, 62, 29, 96, 182, 1, 21] := by decide +kernel
theorem chX11_town_5 : (cX11_town.data.toList.drop 80).take 16 = [167, 0, 5, 16, 254, 172, 42, 29, 182, 1, 34, 153, 0, 14, 42, 16] := by decide +kernel
theorem chX11_town_6 : (cX11_town.data.toList.drop 96).take 16 = [68, 29, 96, 182, 1, 21, 167, 0, 5, 16, 254, 172, 29, 184, 1, 37] := by decide +kernel
theorem chX11_town_7 : (cX11_town.data.toList.drop 112).take 16 = [153, 0, 14, 42, 16, 74, 29, 96, 182, 1, 21, 167, 0, 5, 16, 254] := by decide +kernel
theorem chX11_town_8 : (cX11_town.data.toList.drop 128).take 16 = [172, 29, 184, 1, 37, 153, 0, 14, 42, 16, 79, 29, 96, 182, 1, 21] := by decide +kernel
theorem chX11_town_9 : (cX11_town.data.toList.drop 144).take 16 = [167, 0, 5, 16, 254, 172, 42, 29, 182, 1, 40, 153, 0, 14, 42, 16] := by decide +kernel
theorem chX11_town_10 : (cX11_town.data.toList.drop 160).take 16 = [84, 29, 96, 182, 1, 21, 167, 0, 5, 16, 254, 172, 42, 29, 182, 1] := by decide +kernel
theorem chX11_town_11 : (cX11_town.data.toList.drop 176).take 16 = [40, 153, 0, 14, 42, 16, 88, 29, 96, 182, 1, 21, 167, 0, 5, 16] := by decide +kernel
theorem chX11_town_12 : (cX11_town.data.toList.drop 192).take 16 = [254, 172, 28, 3, 4, 184, 0, 98, 153, 0, 11, 42, 28, 182, 1, 21] := by decide +kernel
theorem chX11_town_13 : (cX11_town.data.toList.drop 208).take 16 = [167, 0, 5, 16, 254, 172] := by decide +kernel
theorem dX11_town_0 : decode cX11_town 0 = .ok (.aload_n 0, 1) := oq_42 (byt chX11_town_0 0 rfl)
theorem dX11_town_1 : decode cX11_town 1 = .ok (.iconst 0, 1) := oq_3 (byt chX11_town_0 1 rfl)
theorem dX11_town_2 : decode cX11_town 2 = .ok (.putfield 90, 3) := oq_181 (byt chX11_town_0 2 rfl) (byt chX11_town_0 3 rfl) (byt chX11_town_0 4 rfl) rfl
theorem dX11_town_5 : decode cX11_town 5 = .ok (.aload_n 0, 1) := oq_42 (byt chX11_town_0 5 rfl)
theorem dX11_town_6 : decode cX11_town 6 = .ok (.iload_n 1, 1) := oq_27 (byt chX11_town_0 6 rfl)
theorem dX11_town_7 : decode cX11_town 7 = .ok (.invokevirtual 287, 3) := oq_182 (byt chX11_town_0 7 rfl) (byt chX11_town_0 8 rfl) (byt chX11_town_0 9 rfl) rfl
theorem dX11_town_10 : decode cX11_town 10 = .ok (.ifCond .ne 6, 3) := oq_154 (byt chX11_town_0 10 rfl) (byt chX11_town_0 11 rfl) (byt chX11_town_0 12 rfl) (by decide +kernel)
theorem dX11_town_13 : decode cX11_town 13 = .ok (.bipush (-2), 2) := oq_16 (byt chX11_town_0 13 rfl) (byt chX11_town_0 14 rfl) rfl
theorem dX11_town_15 : decode cX11_town 15 = .ok (.ireturn, 1) := oq_172 (byt chX11_town_0 15 rfl)
theorem dX11_town_16 : decode cX11_town 16 = .ok (.iload_n 2, 1) := oq_28 (byt chX11_town_1 0 rfl)
theorem dX11_town_17 : decode cX11_town 17 = .ok (.bipush 10, 2) := oq_16 (byt chX11_town_1 1 rfl) (byt chX11_town_1 2 rfl) rfl
theorem dX11_town_19 : decode cX11_town 19 = .ok (.irem, 1) := oq_112 (byt chX11_town_1 3 rfl)
theorem dX11_town_20 : decode cX11_town 20 = .ok (.istore_n 3, 1) := oq_62 (byt chX11_town_1 4 rfl)
theorem dX11_town_21 : decode cX11_town 21 = .ok (.iload_n 2, 1) := oq_28 (byt chX11_town_1 5 rfl)
theorem dX11_town_22 : decode cX11_town 22 = .ok (.bipush 10, 2) := oq_16 (byt chX11_town_1 6 rfl) (byt chX11_town_1 7 rfl) rfl
theorem dX11_town_24 : decode cX11_town 24 = .ok (.idiv, 1) := oq_108 (byt chX11_town_1 8 rfl)
theorem dX11_town_25 : decode cX11_town 25 = .ok (.tableswitch 169 1 6 #[39, 61, 83, 104, 125, 147], 39) := by decide +kernel
theorem dX11_town_64 : decode cX11_town 64 = .ok (.aload_n 0, 1) := oq_42 (byt chX11_town_4 0 rfl)
theorem dX11_town_65 : decode cX11_town 65 = .ok (.iload_n 3, 1) := oq_29 (byt chX11_town_4 1 rfl)
theorem dX11_town_66 : decode cX11_town 66 = .ok (.invokevirtual 290, 3) := oq_182 (byt chX11_town_4 2 rfl) (byt chX11_town_4 3 rfl) (byt chX11_town_4 4 rfl) rfl
theorem dX11_town_69 : decode cX11_town 69 = .ok (.ifCond .eq 14, 3) := oq_153 (byt chX11_town_4 5 rfl) (byt chX11_town_4 6 rfl) (byt chX11_town_4 7 rfl) (by decide +kernel)
theorem dX11_town_72 : decode cX11_town 72 = .ok (.aload_n 0, 1) := oq_42 (byt chX11_town_4 8 rfl)
theorem dX11_town_73 : decode cX11_town 73 = .ok (.bipush 62, 2) := oq_16 (byt chX11_town_4 9 rfl) (byt chX11_town_4 10 rfl) rfl
theorem dX11_town_75 : decode cX11_town 75 = .ok (.iload_n 3, 1) := oq_29 (byt chX11_town_4 11 rfl)
theorem dX11_town_76 : decode cX11_town 76 = .ok (.iadd, 1) := oq_96 (byt chX11_town_4 12 rfl)
theorem dX11_town_77 : decode cX11_town 77 = .ok (.invokevirtual 277, 3) := oq_182 (byt chX11_town_4 13 rfl) (byt chX11_town_4 14 rfl) (byt chX11_town_4 15 rfl) rfl
theorem dX11_town_80 : decode cX11_town 80 = .ok (.goto 5, 3) := oq_167 (byt chX11_town_5 0 rfl) (byt chX11_town_5 1 rfl) (byt chX11_town_5 2 rfl) (by decide +kernel)
theorem dX11_town_83 : decode cX11_town 83 = .ok (.bipush (-2), 2) := oq_16 (byt chX11_town_5 3 rfl) (byt chX11_town_5 4 rfl) rfl
theorem dX11_town_85 : decode cX11_town 85 = .ok (.ireturn, 1) := oq_172 (byt chX11_town_5 5 rfl)
theorem dX11_town_86 : decode cX11_town 86 = .ok (.aload_n 0, 1) := oq_42 (byt chX11_town_5 6 rfl)
theorem dX11_town_87 : decode cX11_town 87 = .ok (.iload_n 3, 1) := oq_29 (byt chX11_town_5 7 rfl)
theorem dX11_town_88 : decode cX11_town 88 = .ok (.invokevirtual 290, 3) := oq_182 (byt chX11_town_5 8 rfl) (byt chX11_town_5 9 rfl) (byt chX11_town_5 10 rfl) rfl
theorem dX11_town_91 : decode cX11_town 91 = .ok (.ifCond .eq 14, 3) := oq_153 (byt chX11_town_5 11 rfl) (byt chX11_town_5 12 rfl) (byt chX11_town_5 13 rfl) (by decide +kernel)
theorem dX11_town_94 : decode cX11_town 94 = .ok (.aload_n 0, 1) := oq_42 (byt chX11_town_5 14 rfl)
theorem dX11_town_95 : decode cX11_town 95 = .ok (.bipush 68, 2) := oq_16 (byt chX11_town_5 15 rfl) (byt chX11_town_6 0 rfl) rfl
theorem dX11_town_97 : decode cX11_town 97 = .ok (.iload_n 3, 1) := oq_29 (byt chX11_town_6 1 rfl)
theorem dX11_town_98 : decode cX11_town 98 = .ok (.iadd, 1) := oq_96 (byt chX11_town_6 2 rfl)
theorem dX11_town_99 : decode cX11_town 99 = .ok (.invokevirtual 277, 3) := oq_182 (byt chX11_town_6 3 rfl) (byt chX11_town_6 4 rfl) (byt chX11_town_6 5 rfl) rfl
theorem dX11_town_102 : decode cX11_town 102 = .ok (.goto 5, 3) := oq_167 (byt chX11_town_6 6 rfl) (byt chX11_town_6 7 rfl) (byt chX11_town_6 8 rfl) (by decide +kernel)
theorem dX11_town_105 : decode cX11_town 105 = .ok (.bipush (-2), 2) := oq_16 (byt chX11_town_6 9 rfl) (byt chX11_town_6 10 rfl) rfl
theorem dX11_town_107 : decode cX11_town 107 = .ok (.ireturn, 1) := oq_172 (byt chX11_town_6 11 rfl)
theorem dX11_town_108 : decode cX11_town 108 = .ok (.iload_n 3, 1) := oq_29 (byt chX11_town_6 12 rfl)
theorem dX11_town_109 : decode cX11_town 109 = .ok (.invokestatic 293, 3) := oq_184 (byt chX11_town_6 13 rfl) (byt chX11_town_6 14 rfl) (byt chX11_town_6 15 rfl) rfl
theorem dX11_town_112 : decode cX11_town 112 = .ok (.ifCond .eq 14, 3) := oq_153 (byt chX11_town_7 0 rfl) (byt chX11_town_7 1 rfl) (byt chX11_town_7 2 rfl) (by decide +kernel)
theorem dX11_town_115 : decode cX11_town 115 = .ok (.aload_n 0, 1) := oq_42 (byt chX11_town_7 3 rfl)
theorem dX11_town_116 : decode cX11_town 116 = .ok (.bipush 74, 2) := oq_16 (byt chX11_town_7 4 rfl) (byt chX11_town_7 5 rfl) rfl
theorem dX11_town_118 : decode cX11_town 118 = .ok (.iload_n 3, 1) := oq_29 (byt chX11_town_7 6 rfl)
theorem dX11_town_119 : decode cX11_town 119 = .ok (.iadd, 1) := oq_96 (byt chX11_town_7 7 rfl)
theorem dX11_town_120 : decode cX11_town 120 = .ok (.invokevirtual 277, 3) := oq_182 (byt chX11_town_7 8 rfl) (byt chX11_town_7 9 rfl) (byt chX11_town_7 10 rfl) rfl
theorem dX11_town_123 : decode cX11_town 123 = .ok (.goto 5, 3) := oq_167 (byt chX11_town_7 11 rfl) (byt chX11_town_7 12 rfl) (byt chX11_town_7 13 rfl) (by decide +kernel)
theorem dX11_town_126 : decode cX11_town 126 = .ok (.bipush (-2), 2) := oq_16 (byt chX11_town_7 14 rfl) (byt chX11_town_7 15 rfl) rfl
theorem dX11_town_128 : decode cX11_town 128 = .ok (.ireturn, 1) := oq_172 (byt chX11_town_8 0 rfl)
theorem dX11_town_129 : decode cX11_town 129 = .ok (.iload_n 3, 1) := oq_29 (byt chX11_town_8 1 rfl)
theorem dX11_town_130 : decode cX11_town 130 = .ok (.invokestatic 293, 3) := oq_184 (byt chX11_town_8 2 rfl) (byt chX11_town_8 3 rfl) (byt chX11_town_8 4 rfl) rfl
theorem dX11_town_133 : decode cX11_town 133 = .ok (.ifCond .eq 14, 3) := oq_153 (byt chX11_town_8 5 rfl) (byt chX11_town_8 6 rfl) (byt chX11_town_8 7 rfl) (by decide +kernel)
theorem dX11_town_136 : decode cX11_town 136 = .ok (.aload_n 0, 1) := oq_42 (byt chX11_town_8 8 rfl)
theorem dX11_town_137 : decode cX11_town 137 = .ok (.bipush 79, 2) := oq_16 (byt chX11_town_8 9 rfl) (byt chX11_town_8 10 rfl) rfl
theorem dX11_town_139 : decode cX11_town 139 = .ok (.iload_n 3, 1) := oq_29 (byt chX11_town_8 11 rfl)
theorem dX11_town_140 : decode cX11_town 140 = .ok (.iadd, 1) := oq_96 (byt chX11_town_8 12 rfl)
theorem dX11_town_141 : decode cX11_town 141 = .ok (.invokevirtual 277, 3) := oq_182 (byt chX11_town_8 13 rfl) (byt chX11_town_8 14 rfl) (byt chX11_town_8 15 rfl) rfl
theorem dX11_town_144 : decode cX11_town 144 = .ok (.goto 5, 3) := oq_167 (byt chX11_town_9 0 rfl) (byt chX11_town_9 1 rfl) (byt chX11_town_9 2 rfl) (by decide +kernel)
theorem dX11_town_147 : decode cX11_town 147 = .ok (.bipush (-2), 2) := oq_16 (byt chX11_town_9 3 rfl) (byt chX11_town_9 4 rfl) rfl
theorem dX11_town_149 : decode cX11_town 149 = .ok (.ireturn, 1) := oq_172 (byt chX11_town_9 5 rfl)
theorem dX11_town_150 : decode cX11_town 150 = .ok (.aload_n 0, 1) := oq_42 (byt chX11_town_9 6 rfl)
theorem dX11_town_151 : decode cX11_town 151 = .ok (.iload_n 3, 1) := oq_29 (byt chX11_town_9 7 rfl)
theorem dX11_town_152 : decode cX11_town 152 = .ok (.invokevirtual 296, 3) := oq_182 (byt chX11_town_9 8 rfl) (byt chX11_town_9 9 rfl) (byt chX11_town_9 10 rfl) rfl
theorem dX11_town_155 : decode cX11_town 155 = .ok (.ifCond .eq 14, 3) := oq_153 (byt chX11_town_9 11 rfl) (byt chX11_town_9 12 rfl) (byt chX11_town_9 13 rfl) (by decide +kernel)
theorem dX11_town_158 : decode cX11_town 158 = .ok (.aload_n 0, 1) := oq_42 (byt chX11_town_9 14 rfl)
theorem dX11_town_159 : decode cX11_town 159 = .ok (.bipush 84, 2) := oq_16 (byt chX11_town_9 15 rfl) (byt chX11_town_10 0 rfl) rfl
theorem dX11_town_161 : decode cX11_town 161 = .ok (.iload_n 3, 1) := oq_29 (byt chX11_town_10 1 rfl)
theorem dX11_town_162 : decode cX11_town 162 = .ok (.iadd, 1) := oq_96 (byt chX11_town_10 2 rfl)
theorem dX11_town_163 : decode cX11_town 163 = .ok (.invokevirtual 277, 3) := oq_182 (byt chX11_town_10 3 rfl) (byt chX11_town_10 4 rfl) (byt chX11_town_10 5 rfl) rfl
theorem dX11_town_166 : decode cX11_town 166 = .ok (.goto 5, 3) := oq_167 (byt chX11_town_10 6 rfl) (byt chX11_town_10 7 rfl) (byt chX11_town_10 8 rfl) (by decide +kernel)
theorem dX11_town_169 : decode cX11_town 169 = .ok (.bipush (-2), 2) := oq_16 (byt chX11_town_10 9 rfl) (byt chX11_town_10 10 rfl) rfl
theorem dX11_town_171 : decode cX11_town 171 = .ok (.ireturn, 1) := oq_172 (byt chX11_town_10 11 rfl)
theorem dX11_town_172 : decode cX11_town 172 = .ok (.aload_n 0, 1) := oq_42 (byt chX11_town_10 12 rfl)
theorem dX11_town_173 : decode cX11_town 173 = .ok (.iload_n 3, 1) := oq_29 (byt chX11_town_10 13 rfl)
theorem dX11_town_174 : decode cX11_town 174 = .ok (.invokevirtual 296, 3) := oq_182 (byt chX11_town_10 14 rfl) (byt chX11_town_10 15 rfl) (byt chX11_town_11 0 rfl) rfl
theorem dX11_town_177 : decode cX11_town 177 = .ok (.ifCond .eq 14, 3) := oq_153 (byt chX11_town_11 1 rfl) (byt chX11_town_11 2 rfl) (byt chX11_town_11 3 rfl) (by decide +kernel)
theorem dX11_town_180 : decode cX11_town 180 = .ok (.aload_n 0, 1) := oq_42 (byt chX11_town_11 4 rfl)
theorem dX11_town_181 : decode cX11_town 181 = .ok (.bipush 88, 2) := oq_16 (byt chX11_town_11 5 rfl) (byt chX11_town_11 6 rfl) rfl
theorem dX11_town_183 : decode cX11_town 183 = .ok (.iload_n 3, 1) := oq_29 (byt chX11_town_11 7 rfl)
theorem dX11_town_184 : decode cX11_town 184 = .ok (.iadd, 1) := oq_96 (byt chX11_town_11 8 rfl)
theorem dX11_town_185 : decode cX11_town 185 = .ok (.invokevirtual 277, 3) := oq_182 (byt chX11_town_11 9 rfl) (byt chX11_town_11 10 rfl) (byt chX11_town_11 11 rfl) rfl
theorem dX11_town_188 : decode cX11_town 188 = .ok (.goto 5, 3) := oq_167 (byt chX11_town_11 12 rfl) (byt chX11_town_11 13 rfl) (byt chX11_town_11 14 rfl) (by decide +kernel)
theorem dX11_town_191 : decode cX11_town 191 = .ok (.bipush (-2), 2) := oq_16 (byt chX11_town_11 15 rfl) (byt chX11_town_12 0 rfl) rfl
theorem dX11_town_193 : decode cX11_town 193 = .ok (.ireturn, 1) := oq_172 (byt chX11_town_12 1 rfl)
theorem dX11_town_194 : decode cX11_town 194 = .ok (.iload_n 2, 1) := oq_28 (byt chX11_town_12 2 rfl)
theorem dX11_town_195 : decode cX11_town 195 = .ok (.iconst 0, 1) := oq_3 (byt chX11_town_12 3 rfl)
theorem dX11_town_196 : decode cX11_town 196 = .ok (.iconst 1, 1) := oq_4 (byt chX11_town_12 4 rfl)
theorem dX11_town_197 : decode cX11_town 197 = .ok (.invokestatic 98, 3) := oq_184 (byt chX11_town_12 5 rfl) (byt chX11_town_12 6 rfl) (byt chX11_town_12 7 rfl) rfl
theorem dX11_town_200 : decode cX11_town 200 = .ok (.ifCond .eq 11, 3) := oq_153 (byt chX11_town_12 8 rfl) (byt chX11_town_12 9 rfl) (byt chX11_town_12 10 rfl) (by decide +kernel)
theorem dX11_town_203 : decode cX11_town 203 = .ok (.aload_n 0, 1) := oq_42 (byt chX11_town_12 11 rfl)
theorem dX11_town_204 : decode cX11_town 204 = .ok (.iload_n 2, 1) := oq_28 (byt chX11_town_12 12 rfl)
theorem dX11_town_205 : decode cX11_town 205 = .ok (.invokevirtual 277, 3) := oq_182 (byt chX11_town_12 13 rfl) (byt chX11_town_12 14 rfl) (byt chX11_town_12 15 rfl) rfl
theorem dX11_town_208 : decode cX11_town 208 = .ok (.goto 5, 3) := oq_167 (byt chX11_town_13 0 rfl) (byt chX11_town_13 1 rfl) (byt chX11_town_13 2 rfl) (by decide +kernel)
theorem dX11_town_211 : decode cX11_town 211 = .ok (.bipush (-2), 2) := oq_16 (byt chX11_town_13 3 rfl) (byt chX11_town_13 4 rfl) rfl
theorem dX11_town_213 : decode cX11_town 213 = .ok (.ireturn, 1) := oq_172 (byt chX11_town_13 5 rfl)
abbrev mX11_town : MI := (yX11_town, cX11_town, 4, (some .int), noE)
theorem okX11_town : cok mX11_town 2 := ⟨tw1499, tw11, by decide, by decide, by decide, by decide +kernel⟩
def fX11_town (M : Mem) (a0 a1 a2 : Int) : Option (Int × Mem) :=
  if M.2.1 a0 = 10 then bM (mst M a0 0 0) fun M2 => (fX11_hand M2 a0 a1).bind fun r4 => if r4.1 = 0 then (some ((-2), r4.2)) else (if w32 (a2.tdiv 10) = 1 then (if r4.2.2.1 a0 = 10 then (fX11_isHouse r4.2 a0 (a2.tmod 10)).bind fun r8 => if r8 = 0 then (some ((-2), r4.2)) else ((fX11_of r4.2 a0 (w32 (62 + (a2.tmod 10)))).bind fun r12 => some (r12, r4.2)) else none) else if w32 (a2.tdiv 10) = 2 then (if r4.2.2.1 a0 = 10 then (fX11_isHouse r4.2 a0 (a2.tmod 10)).bind fun r15 => if r15 = 0 then (some ((-2), r4.2)) else ((fX11_of r4.2 a0 (w32 (68 + (a2.tmod 10)))).bind fun r19 => some (r19, r4.2)) else none) else if w32 (a2.tdiv 10) = 3 then ((fX11_isGood r4.2 (a2.tmod 10)).bind fun r22 => if r22 = 0 then (some ((-2), r4.2)) else (if r4.2.2.1 a0 = 10 then (fX11_of r4.2 a0 (w32 (74 + (a2.tmod 10)))).bind fun r25 => some (r25, r4.2) else none)) else if w32 (a2.tdiv 10) = 4 then ((fX11_isGood r4.2 (a2.tmod 10)).bind fun r29 => if r29 = 0 then (some ((-2), r4.2)) else (if r4.2.2.1 a0 = 10 then (fX11_of r4.2 a0 (w32 (79 + (a2.tmod 10)))).bind fun r32 => some (r32, r4.2) else none)) else if w32 (a2.tdiv 10) = 5 then (if r4.2.2.1 a0 = 10 then (fX11_isThief r4.2 a0 (a2.tmod 10)).bind fun r36 => if r36 = 0 then (some ((-2), r4.2)) else ((fX11_of r4.2 a0 (w32 (84 + (a2.tmod 10)))).bind fun r40 => some (r40, r4.2)) else none) else if w32 (a2.tdiv 10) = 6 then (if r4.2.2.1 a0 = 10 then (fX11_isThief r4.2 a0 (a2.tmod 10)).bind fun r43 => if r43 = 0 then (some ((-2), r4.2)) else ((fX11_of r4.2 a0 (w32 (88 + (a2.tmod 10)))).bind fun r47 => some (r47, r4.2)) else none) else (fX11_in r4.2 a2 0 1).bind fun r49 => if r49 = 0 then (some ((-2), r4.2)) else (if r4.2.2.1 a0 = 10 then (fX11_of r4.2 a0 a2).bind fun r52 => some (r52, r4.2) else none)) else none
set_option maxRecDepth 100000 in
set_option maxHeartbeats 4000000 in
theorem kX11_town (d : Nat) (hd : 3 ≤ d) (M : Mem) (a0 a1 a2 : Int) : Ct mX11_town d 0 0 [pA a0, pI a1, pI a2] M dIM (fX11_town M a0 a1 a2) := by
  obtain ⟨d, rfl⟩ : ∃ k, d = k + 1 := ⟨d - 1, by omega⟩
  refine Ct.of 1 (fun _ _ _ => trivial) (by decide +kernel) rfl ?_
  unfold fX11_town
  refine v_aload_n dX11_town_0 rfl ?_
  refine v_iconst dX11_town_1 (by decide) ?_
  refine v_if (fun h1 => ?_)
  refine v_put (x := 0) 10 0 rfl inX11 (by decide) tw1193 (Or.inl rfl) rfl dX11_town_2 h1 rfl id ?_
  refine v_bM (fun M2 e3 => ?_)
  refine v_aload_n dX11_town_5 rfl ?_
  refine v_iload_n dX11_town_6 rfl ?_
  refine v_cV (mi := mX11_town) (c0 := 0) (c1 := 0) (As := [pI a1]) (st := []) (kX11_hand d (by omega) _ _ _) rfl (by rw [e3]; exact h1) rfl okX11_hand (Or.inl tw1500) tw1502 tp54 rfl (Nat.le_of_ble_eq_true rfl) dX11_town_7 (fun r4 => [pI r4.1]) (fun r4 => r4.2) (fun _ => rfl) (fun _ => rfl) (fun r4 h5 => ?_) rfl
  refine v_if_ne (tgt := 16) dX11_town_10 (by decide) (fun c6 => ?_) (fun c6 => ?_)
  · refine v_bipush dX11_town_13 (by decide) ?_
    exact v_ireturn dX11_town_15 rfl rfl
  · refine v_iload_n dX11_town_16 rfl ?_
    refine v_bipush dX11_town_17 (by decide) ?_
    refine v_irem (by decide) dX11_town_19 ?_
    refine v_istore_n (ls' := [some (pA a0), some (pI a1), some (pI a2), some (pI (a2.tmod 10))]) dX11_town_20 (by decide) rfl ?_
    refine v_iload_n dX11_town_21 rfl ?_
    refine v_bipush dX11_town_22 (by decide) ?_
    refine v_idiv (by decide) dX11_town_24 ?_
    refine v_ite (fun h7 => ?_) (fun h7 => ?_)
    · refine v_tabIn (off := 39) (tgt := 64) dX11_town_25 h7 (by decide) ?_
      refine v_aload_n dX11_town_64 rfl ?_
      refine v_iload_n dX11_town_65 rfl ?_
      refine v_if (fun h10 => ?_)
      refine v_cV (mi := mX11_town) (c0 := 0) (c1 := 0) (As := [pI (a2.tmod 10)]) (st := []) (kX11_isHouse d (by omega) _ _ _) rfl h10 rfl okX11_isHouse (Or.inl tw1508) tw1510 tp56 rfl (Nat.le_of_ble_eq_true rfl) dX11_town_66 (fun r8 => [pI r8]) (fun r8 => r4.2) (fun _ => rfl) (fun _ => rfl) (fun r8 h9 => ?_) rfl
      refine v_if_eq (tgt := 83) dX11_town_69 (by decide) (fun c11 => ?_) (fun c11 => ?_)
      · refine v_bipush dX11_town_83 (by decide) ?_
        exact v_ireturn dX11_town_85 rfl rfl
      · refine v_aload_n dX11_town_72 rfl ?_
        refine v_bipush dX11_town_73 (by decide) ?_
        refine v_iload_n dX11_town_75 rfl ?_
        refine v_iadd dX11_town_76 ?_
        refine v_cV (mi := mX11_town) (c0 := 0) (c1 := 0) (As := [pI (w32 (62 + (a2.tmod 10)))]) (st := []) (kX11_of d (by omega) _ _ _) rfl h10 rfl okX11_of (Or.inl tw1504) tw1506 tp55 rfl (Nat.le_of_ble_eq_true rfl) dX11_town_77 (fun r12 => [pI r12]) (fun r12 => r4.2) (fun _ => rfl) (fun _ => rfl) (fun r12 h13 => ?_) rfl
        refine v_goto (tgt := 85) dX11_town_80 (by decide) ?_
        exact v_ireturn dX11_town_85 rfl rfl
    · refine v_ite (fun h14 => ?_) (fun h14 => ?_)
      · refine v_tabIn (off := 61) (tgt := 86) dX11_town_25 h14 (by decide) ?_
        refine v_aload_n dX11_town_86 rfl ?_
        refine v_iload_n dX11_town_87 rfl ?_
        refine v_if (fun h17 => ?_)
        refine v_cV (mi := mX11_town) (c0 := 0) (c1 := 0) (As := [pI (a2.tmod 10)]) (st := []) (kX11_isHouse d (by omega) _ _ _) rfl h17 rfl okX11_isHouse (Or.inl tw1508) tw1510 tp56 rfl (Nat.le_of_ble_eq_true rfl) dX11_town_88 (fun r15 => [pI r15]) (fun r15 => r4.2) (fun _ => rfl) (fun _ => rfl) (fun r15 h16 => ?_) rfl
        refine v_if_eq (tgt := 105) dX11_town_91 (by decide) (fun c18 => ?_) (fun c18 => ?_)
        · refine v_bipush dX11_town_105 (by decide) ?_
          exact v_ireturn dX11_town_107 rfl rfl
        · refine v_aload_n dX11_town_94 rfl ?_
          refine v_bipush dX11_town_95 (by decide) ?_
          refine v_iload_n dX11_town_97 rfl ?_
          refine v_iadd dX11_town_98 ?_
          refine v_cV (mi := mX11_town) (c0 := 0) (c1 := 0) (As := [pI (w32 (68 + (a2.tmod 10)))]) (st := []) (kX11_of d (by omega) _ _ _) rfl h17 rfl okX11_of (Or.inl tw1504) tw1506 tp55 rfl (Nat.le_of_ble_eq_true rfl) dX11_town_99 (fun r19 => [pI r19]) (fun r19 => r4.2) (fun _ => rfl) (fun _ => rfl) (fun r19 h20 => ?_) rfl
          refine v_goto (tgt := 107) dX11_town_102 (by decide) ?_
          exact v_ireturn dX11_town_107 rfl rfl
      · refine v_ite (fun h21 => ?_) (fun h21 => ?_)
        · refine v_tabIn (off := 83) (tgt := 108) dX11_town_25 h21 (by decide) ?_
          refine v_iload_n dX11_town_108 rfl ?_
          refine v_cS (mi := mX11_town) (c0 := 0) (c1 := 0) (As := [pI (a2.tmod 10)]) (st := []) (kX11_isGood d (by omega) _ _) okX11_isGood (Or.inl tw1512) tw1513 rfl (Nat.le_of_ble_eq_true rfl) dX11_town_109 (fun r22 => [pI r22]) (fun r22 => r4.2) (fun _ => rfl) (fun _ => rfl) (fun r22 h23 => ?_) rfl
          refine v_if_eq (tgt := 126) dX11_town_112 (by decide) (fun c24 => ?_) (fun c24 => ?_)
          · refine v_bipush dX11_town_126 (by decide) ?_
            exact v_ireturn dX11_town_128 rfl rfl
          · refine v_aload_n dX11_town_115 rfl ?_
            refine v_bipush dX11_town_116 (by decide) ?_
            refine v_iload_n dX11_town_118 rfl ?_
            refine v_iadd dX11_town_119 ?_
            refine v_if (fun h27 => ?_)
            refine v_cV (mi := mX11_town) (c0 := 0) (c1 := 0) (As := [pI (w32 (74 + (a2.tmod 10)))]) (st := []) (kX11_of d (by omega) _ _ _) rfl h27 rfl okX11_of (Or.inl tw1504) tw1506 tp55 rfl (Nat.le_of_ble_eq_true rfl) dX11_town_120 (fun r25 => [pI r25]) (fun r25 => r4.2) (fun _ => rfl) (fun _ => rfl) (fun r25 h26 => ?_) rfl
            refine v_goto (tgt := 128) dX11_town_123 (by decide) ?_
            exact v_ireturn dX11_town_128 rfl rfl
        · refine v_ite (fun h28 => ?_) (fun h28 => ?_)
          · refine v_tabIn (off := 104) (tgt := 129) dX11_town_25 h28 (by decide) ?_
            refine v_iload_n dX11_town_129 rfl ?_
            refine v_cS (mi := mX11_town) (c0 := 0) (c1 := 0) (As := [pI (a2.tmod 10)]) (st := []) (kX11_isGood d (by omega) _ _) okX11_isGood (Or.inl tw1512) tw1513 rfl (Nat.le_of_ble_eq_true rfl) dX11_town_130 (fun r29 => [pI r29]) (fun r29 => r4.2) (fun _ => rfl) (fun _ => rfl) (fun r29 h30 => ?_) rfl
            refine v_if_eq (tgt := 147) dX11_town_133 (by decide) (fun c31 => ?_) (fun c31 => ?_)
            · refine v_bipush dX11_town_147 (by decide) ?_
              exact v_ireturn dX11_town_149 rfl rfl
            · refine v_aload_n dX11_town_136 rfl ?_
              refine v_bipush dX11_town_137 (by decide) ?_
              refine v_iload_n dX11_town_139 rfl ?_
              refine v_iadd dX11_town_140 ?_
              refine v_if (fun h34 => ?_)
              refine v_cV (mi := mX11_town) (c0 := 0) (c1 := 0) (As := [pI (w32 (79 + (a2.tmod 10)))]) (st := []) (kX11_of d (by omega) _ _ _) rfl h34 rfl okX11_of (Or.inl tw1504) tw1506 tp55 rfl (Nat.le_of_ble_eq_true rfl) dX11_town_141 (fun r32 => [pI r32]) (fun r32 => r4.2) (fun _ => rfl) (fun _ => rfl) (fun r32 h33 => ?_) rfl
              refine v_goto (tgt := 149) dX11_town_144 (by decide) ?_
              exact v_ireturn dX11_town_149 rfl rfl
          · refine v_ite (fun h35 => ?_) (fun h35 => ?_)
            · refine v_tabIn (off := 125) (tgt := 150) dX11_town_25 h35 (by decide) ?_
              refine v_aload_n dX11_town_150 rfl ?_
              refine v_iload_n dX11_town_151 rfl ?_
              refine v_if (fun h38 => ?_)
              refine v_cV (mi := mX11_town) (c0 := 0) (c1 := 0) (As := [pI (a2.tmod 10)]) (st := []) (kX11_isThief d (by omega) _ _ _) rfl h38 rfl okX11_isThief (Or.inl tw1515) tw1517 tp57 rfl (Nat.le_of_ble_eq_true rfl) dX11_town_152 (fun r36 => [pI r36]) (fun r36 => r4.2) (fun _ => rfl) (fun _ => rfl) (fun r36 h37 => ?_) rfl
              refine v_if_eq (tgt := 169) dX11_town_155 (by decide) (fun c39 => ?_) (fun c39 => ?_)
              · refine v_bipush dX11_town_169 (by decide) ?_
                exact v_ireturn dX11_town_171 rfl rfl
              · refine v_aload_n dX11_town_158 rfl ?_
                refine v_bipush dX11_town_159 (by decide) ?_
                refine v_iload_n dX11_town_161 rfl ?_
                refine v_iadd dX11_town_162 ?_
                refine v_cV (mi := mX11_town) (c0 := 0) (c1 := 0) (As := [pI (w32 (84 + (a2.tmod 10)))]) (st := []) (kX11_of d (by omega) _ _ _) rfl h38 rfl okX11_of (Or.inl tw1504) tw1506 tp55 rfl (Nat.le_of_ble_eq_true rfl) dX11_town_163 (fun r40 => [pI r40]) (fun r40 => r4.2) (fun _ => rfl) (fun _ => rfl) (fun r40 h41 => ?_) rfl
                refine v_goto (tgt := 171) dX11_town_166 (by decide) ?_
                exact v_ireturn dX11_town_171 rfl rfl
            · refine v_ite (fun h42 => ?_) (fun h42 => ?_)
              · refine v_tabIn (off := 147) (tgt := 172) dX11_town_25 h42 (by decide) ?_
                refine v_aload_n dX11_town_172 rfl ?_
                refine v_iload_n dX11_town_173 rfl ?_
                refine v_if (fun h45 => ?_)
                refine v_cV (mi := mX11_town) (c0 := 0) (c1 := 0) (As := [pI (a2.tmod 10)]) (st := []) (kX11_isThief d (by omega) _ _ _) rfl h45 rfl okX11_isThief (Or.inl tw1515) tw1517 tp57 rfl (Nat.le_of_ble_eq_true rfl) dX11_town_174 (fun r43 => [pI r43]) (fun r43 => r4.2) (fun _ => rfl) (fun _ => rfl) (fun r43 h44 => ?_) rfl
                refine v_if_eq (tgt := 191) dX11_town_177 (by decide) (fun c46 => ?_) (fun c46 => ?_)
                · refine v_bipush dX11_town_191 (by decide) ?_
                  exact v_ireturn dX11_town_193 rfl rfl
                · refine v_aload_n dX11_town_180 rfl ?_
                  refine v_bipush dX11_town_181 (by decide) ?_
                  refine v_iload_n dX11_town_183 rfl ?_
                  refine v_iadd dX11_town_184 ?_
                  refine v_cV (mi := mX11_town) (c0 := 0) (c1 := 0) (As := [pI (w32 (88 + (a2.tmod 10)))]) (st := []) (kX11_of d (by omega) _ _ _) rfl h45 rfl okX11_of (Or.inl tw1504) tw1506 tp55 rfl (Nat.le_of_ble_eq_true rfl) dX11_town_185 (fun r47 => [pI r47]) (fun r47 => r4.2) (fun _ => rfl) (fun _ => rfl) (fun r47 h48 => ?_) rfl
                  refine v_goto (tgt := 193) dX11_town_188 (by decide) ?_
                  exact v_ireturn dX11_town_193 rfl rfl
              · refine v_tabOut (tgt := 194) dX11_town_25 (by omega) (by decide) ?_
                refine v_iload_n dX11_town_194 rfl ?_
                refine v_iconst dX11_town_195 (by decide) ?_
                refine v_iconst dX11_town_196 (by decide) ?_
                refine v_cS (mi := mX11_town) (c0 := 0) (c1 := 0) (As := [pI a2, pI 0, pI 1]) (st := []) (kX11_in d (by omega) _ _ _ _) okX11_in (Or.inl tw1360) tw1361 rfl (Nat.le_of_ble_eq_true rfl) dX11_town_197 (fun r49 => [pI r49]) (fun r49 => r4.2) (fun _ => rfl) (fun _ => rfl) (fun r49 h50 => ?_) rfl
                refine v_if_eq (tgt := 211) dX11_town_200 (by decide) (fun c51 => ?_) (fun c51 => ?_)
                · refine v_bipush dX11_town_211 (by decide) ?_
                  exact v_ireturn dX11_town_213 rfl rfl
                · refine v_aload_n dX11_town_203 rfl ?_
                  refine v_iload_n dX11_town_204 rfl ?_
                  refine v_if (fun h54 => ?_)
                  refine v_cV (mi := mX11_town) (c0 := 0) (c1 := 0) (As := [pI a2]) (st := []) (kX11_of d (by omega) _ _ _) rfl h54 rfl okX11_of (Or.inl tw1504) tw1506 tp55 rfl (Nat.le_of_ble_eq_true rfl) dX11_town_205 (fun r52 => [pI r52]) (fun r52 => r4.2) (fun _ => rfl) (fun _ => rfl) (fun r52 h53 => ?_) rfl
                  refine v_goto (tgt := 213) dX11_town_208 (by decide) ?_
                  exact v_ireturn dX11_town_213 rfl rfl
theorem chX11_house_0 : (cX11_house.data.toList.drop 0).take 16 = [42, 3, 181, 0, 90, 42, 27, 182, 1, 31, 153, 0, 28, 42, 28, 182] := by decide +kernel
theorem chX11_house_1 : (cX11_house.data.toList.drop 16).take 16 = [1, 34, 153, 0, 20, 29, 184, 1, 37, 153, 0, 13, 21, 4, 3, 6] := by decide +kernel
theorem chX11_house_2 : (cX11_house.data.toList.drop 32).take 16 = [184, 0, 98, 154, 0, 5, 2, 172, 21, 4, 5, 160, 0, 12, 42, 28] := by decide +kernel
theorem chX11_house_3 : (cX11_house.data.toList.drop 48).take 16 = [29, 182, 1, 43, 167, 0, 39, 21, 4, 6, 160, 0, 12, 42, 28, 29] := by decide +kernel
theorem chX11_house_4 : (cX11_house.data.toList.drop 64).take 16 = [182, 1, 46, 167, 0, 24, 42, 21, 4, 154, 0, 7, 5, 167, 0, 5] := by decide +kernel
theorem chX11_house_5 : (cX11_house.data.toList.drop 80).take 16 = [16, 32, 8, 28, 104, 96, 29, 96, 182, 1, 21, 172] := by decide +kernel
theorem dX11_house_0 : decode cX11_house 0 = .ok (.aload_n 0, 1) := oq_42 (byt chX11_house_0 0 rfl)
theorem dX11_house_1 : decode cX11_house 1 = .ok (.iconst 0, 1) := oq_3 (byt chX11_house_0 1 rfl)
theorem dX11_house_2 : decode cX11_house 2 = .ok (.putfield 90, 3) := oq_181 (byt chX11_house_0 2 rfl) (byt chX11_house_0 3 rfl) (byt chX11_house_0 4 rfl) rfl
theorem dX11_house_5 : decode cX11_house 5 = .ok (.aload_n 0, 1) := oq_42 (byt chX11_house_0 5 rfl)
theorem dX11_house_6 : decode cX11_house 6 = .ok (.iload_n 1, 1) := oq_27 (byt chX11_house_0 6 rfl)
theorem dX11_house_7 : decode cX11_house 7 = .ok (.invokevirtual 287, 3) := oq_182 (byt chX11_house_0 7 rfl) (byt chX11_house_0 8 rfl) (byt chX11_house_0 9 rfl) rfl
theorem dX11_house_10 : decode cX11_house 10 = .ok (.ifCond .eq 28, 3) := oq_153 (byt chX11_house_0 10 rfl) (byt chX11_house_0 11 rfl) (byt chX11_house_0 12 rfl) (by decide +kernel)
theorem dX11_house_13 : decode cX11_house 13 = .ok (.aload_n 0, 1) := oq_42 (byt chX11_house_0 13 rfl)
theorem dX11_house_14 : decode cX11_house 14 = .ok (.iload_n 2, 1) := oq_28 (byt chX11_house_0 14 rfl)
theorem dX11_house_15 : decode cX11_house 15 = .ok (.invokevirtual 290, 3) := oq_182 (byt chX11_house_0 15 rfl) (byt chX11_house_1 0 rfl) (byt chX11_house_1 1 rfl) rfl
theorem dX11_house_18 : decode cX11_house 18 = .ok (.ifCond .eq 20, 3) := oq_153 (byt chX11_house_1 2 rfl) (byt chX11_house_1 3 rfl) (byt chX11_house_1 4 rfl) (by decide +kernel)
theorem dX11_house_21 : decode cX11_house 21 = .ok (.iload_n 3, 1) := oq_29 (byt chX11_house_1 5 rfl)
theorem dX11_house_22 : decode cX11_house 22 = .ok (.invokestatic 293, 3) := oq_184 (byt chX11_house_1 6 rfl) (byt chX11_house_1 7 rfl) (byt chX11_house_1 8 rfl) rfl
theorem dX11_house_25 : decode cX11_house 25 = .ok (.ifCond .eq 13, 3) := oq_153 (byt chX11_house_1 9 rfl) (byt chX11_house_1 10 rfl) (byt chX11_house_1 11 rfl) (by decide +kernel)
theorem dX11_house_28 : decode cX11_house 28 = .ok (.iload 4, 2) := oq_21 (byt chX11_house_1 12 rfl) (byt chX11_house_1 13 rfl) rfl
theorem dX11_house_30 : decode cX11_house 30 = .ok (.iconst 0, 1) := oq_3 (byt chX11_house_1 14 rfl)
theorem dX11_house_31 : decode cX11_house 31 = .ok (.iconst 3, 1) := oq_6 (byt chX11_house_1 15 rfl)
theorem dX11_house_32 : decode cX11_house 32 = .ok (.invokestatic 98, 3) := oq_184 (byt chX11_house_2 0 rfl) (byt chX11_house_2 1 rfl) (byt chX11_house_2 2 rfl) rfl
theorem dX11_house_35 : decode cX11_house 35 = .ok (.ifCond .ne 5, 3) := oq_154 (byt chX11_house_2 3 rfl) (byt chX11_house_2 4 rfl) (byt chX11_house_2 5 rfl) (by decide +kernel)
theorem dX11_house_38 : decode cX11_house 38 = .ok (.iconst (-1), 1) := oq_2 (byt chX11_house_2 6 rfl)
theorem dX11_house_39 : decode cX11_house 39 = .ok (.ireturn, 1) := oq_172 (byt chX11_house_2 7 rfl)
theorem dX11_house_40 : decode cX11_house 40 = .ok (.iload 4, 2) := oq_21 (byt chX11_house_2 8 rfl) (byt chX11_house_2 9 rfl) rfl
theorem dX11_house_42 : decode cX11_house 42 = .ok (.iconst 2, 1) := oq_5 (byt chX11_house_2 10 rfl)
theorem dX11_house_43 : decode cX11_house 43 = .ok (.if_icmp .ne 12, 3) := oq_160 (byt chX11_house_2 11 rfl) (byt chX11_house_2 12 rfl) (byt chX11_house_2 13 rfl) (by decide +kernel)
theorem dX11_house_46 : decode cX11_house 46 = .ok (.aload_n 0, 1) := oq_42 (byt chX11_house_2 14 rfl)
theorem dX11_house_47 : decode cX11_house 47 = .ok (.iload_n 2, 1) := oq_28 (byt chX11_house_2 15 rfl)
theorem dX11_house_48 : decode cX11_house 48 = .ok (.iload_n 3, 1) := oq_29 (byt chX11_house_3 0 rfl)
theorem dX11_house_49 : decode cX11_house 49 = .ok (.invokevirtual 299, 3) := oq_182 (byt chX11_house_3 1 rfl) (byt chX11_house_3 2 rfl) (byt chX11_house_3 3 rfl) rfl
theorem dX11_house_52 : decode cX11_house 52 = .ok (.goto 39, 3) := oq_167 (byt chX11_house_3 4 rfl) (byt chX11_house_3 5 rfl) (byt chX11_house_3 6 rfl) (by decide +kernel)
theorem dX11_house_55 : decode cX11_house 55 = .ok (.iload 4, 2) := oq_21 (byt chX11_house_3 7 rfl) (byt chX11_house_3 8 rfl) rfl
theorem dX11_house_57 : decode cX11_house 57 = .ok (.iconst 3, 1) := oq_6 (byt chX11_house_3 9 rfl)
theorem dX11_house_58 : decode cX11_house 58 = .ok (.if_icmp .ne 12, 3) := oq_160 (byt chX11_house_3 10 rfl) (byt chX11_house_3 11 rfl) (byt chX11_house_3 12 rfl) (by decide +kernel)
theorem dX11_house_61 : decode cX11_house 61 = .ok (.aload_n 0, 1) := oq_42 (byt chX11_house_3 13 rfl)
theorem dX11_house_62 : decode cX11_house 62 = .ok (.iload_n 2, 1) := oq_28 (byt chX11_house_3 14 rfl)
theorem dX11_house_63 : decode cX11_house 63 = .ok (.iload_n 3, 1) := oq_29 (byt chX11_house_3 15 rfl)
theorem dX11_house_64 : decode cX11_house 64 = .ok (.invokevirtual 302, 3) := oq_182 (byt chX11_house_4 0 rfl) (byt chX11_house_4 1 rfl) (byt chX11_house_4 2 rfl) rfl
theorem dX11_house_67 : decode cX11_house 67 = .ok (.goto 24, 3) := oq_167 (byt chX11_house_4 3 rfl) (byt chX11_house_4 4 rfl) (byt chX11_house_4 5 rfl) (by decide +kernel)
theorem dX11_house_70 : decode cX11_house 70 = .ok (.aload_n 0, 1) := oq_42 (byt chX11_house_4 6 rfl)
theorem dX11_house_71 : decode cX11_house 71 = .ok (.iload 4, 2) := oq_21 (byt chX11_house_4 7 rfl) (byt chX11_house_4 8 rfl) rfl
theorem dX11_house_73 : decode cX11_house 73 = .ok (.ifCond .ne 7, 3) := oq_154 (byt chX11_house_4 9 rfl) (byt chX11_house_4 10 rfl) (byt chX11_house_4 11 rfl) (by decide +kernel)
theorem dX11_house_76 : decode cX11_house 76 = .ok (.iconst 2, 1) := oq_5 (byt chX11_house_4 12 rfl)
theorem dX11_house_77 : decode cX11_house 77 = .ok (.goto 5, 3) := oq_167 (byt chX11_house_4 13 rfl) (byt chX11_house_4 14 rfl) (byt chX11_house_4 15 rfl) (by decide +kernel)
theorem dX11_house_80 : decode cX11_house 80 = .ok (.bipush 32, 2) := oq_16 (byt chX11_house_5 0 rfl) (byt chX11_house_5 1 rfl) rfl
theorem dX11_house_82 : decode cX11_house 82 = .ok (.iconst 5, 1) := oq_8 (byt chX11_house_5 2 rfl)
theorem dX11_house_83 : decode cX11_house 83 = .ok (.iload_n 2, 1) := oq_28 (byt chX11_house_5 3 rfl)
theorem dX11_house_84 : decode cX11_house 84 = .ok (.imul, 1) := oq_104 (byt chX11_house_5 4 rfl)
theorem dX11_house_85 : decode cX11_house 85 = .ok (.iadd, 1) := oq_96 (byt chX11_house_5 5 rfl)
theorem dX11_house_86 : decode cX11_house 86 = .ok (.iload_n 3, 1) := oq_29 (byt chX11_house_5 6 rfl)
theorem dX11_house_87 : decode cX11_house 87 = .ok (.iadd, 1) := oq_96 (byt chX11_house_5 7 rfl)
theorem dX11_house_88 : decode cX11_house 88 = .ok (.invokevirtual 277, 3) := oq_182 (byt chX11_house_5 8 rfl) (byt chX11_house_5 9 rfl) (byt chX11_house_5 10 rfl) rfl
theorem dX11_house_91 : decode cX11_house 91 = .ok (.ireturn, 1) := oq_172 (byt chX11_house_5 11 rfl)
abbrev mX11_house : MI := (yX11_house, cX11_house, 5, (some .int), noE)
theorem okX11_house : cok mX11_house 4 := ⟨tw1522, tw11, by decide, by decide, by decide, by decide +kernel⟩
def fX11_house (M : Mem) (a0 a1 a2 a3 a4 : Int) : Option (Int × Mem) :=
  if M.2.1 a0 = 10 then bM (mst M a0 0 0) fun M2 => (fX11_hand M2 a0 a1).bind fun r4 => if r4.1 = 0 then (some ((-1), r4.2)) else (if r4.2.2.1 a0 = 10 then (fX11_isHouse r4.2 a0 a2).bind fun r7 => if r7 = 0 then (some ((-1), r4.2)) else ((fX11_isGood r4.2 a3).bind fun r11 => if r11 = 0 then (some ((-1), r4.2)) else ((fX11_in r4.2 a4 0 3).bind fun r14 => if r14 = 0 then (some ((-1), r4.2)) else (if a4 = 2 then ((fX11_spare r4.2 a0 a2 a3).bind fun r18 => some (r18, r4.2)) else (if a4 = 3 then ((fX11_lacks r4.2 a0 a2 a3).bind fun r21 => some (r21, r4.2)) else (jn (fun (t24 : Int) => (fX11_of r4.2 a0 (w32 ((w32 (t24 + (w32 (5 * a2)))) + a3))).bind fun r25 => some (r25, r4.2)) (fun (j23 : Int → Option (Int × Mem)) => if a4 = 0 then (j23 2) else (j23 32))))))) else none) else none
set_option maxRecDepth 100000 in
set_option maxHeartbeats 4000000 in
theorem kX11_house (d : Nat) (hd : 3 ≤ d) (M : Mem) (a0 a1 a2 a3 a4 : Int) : Ct mX11_house d 0 0 [pA a0, pI a1, pI a2, pI a3, pI a4] M dIM (fX11_house M a0 a1 a2 a3 a4) := by
  obtain ⟨d, rfl⟩ : ∃ k, d = k + 1 := ⟨d - 1, by omega⟩
  refine Ct.of 0 (fun _ _ _ => trivial) (by decide +kernel) rfl ?_
  unfold fX11_house
  refine v_aload_n dX11_house_0 rfl ?_
  refine v_iconst dX11_house_1 (by decide) ?_
  refine v_if (fun h1 => ?_)
  refine v_put (x := 0) 10 0 rfl inX11 (by decide) tw1193 (Or.inl rfl) rfl dX11_house_2 h1 rfl id ?_
  refine v_bM (fun M2 e3 => ?_)
  refine v_aload_n dX11_house_5 rfl ?_
  refine v_iload_n dX11_house_6 rfl ?_
  refine v_cV (mi := mX11_house) (c0 := 0) (c1 := 0) (As := [pI a1]) (st := []) (kX11_hand d (by omega) _ _ _) rfl (by rw [e3]; exact h1) rfl okX11_hand (Or.inl tw1500) tw1502 tp54 rfl (Nat.le_of_ble_eq_true rfl) dX11_house_7 (fun r4 => [pI r4.1]) (fun r4 => r4.2) (fun _ => rfl) (fun _ => rfl) (fun r4 h5 => ?_) rfl
  refine v_if_eq (tgt := 38) dX11_house_10 (by decide) (fun c6 => ?_) (fun c6 => ?_)
  · refine v_iconst dX11_house_38 (by decide) ?_
    exact v_ireturn dX11_house_39 rfl rfl
  · refine v_aload_n dX11_house_13 rfl ?_
    refine v_iload_n dX11_house_14 rfl ?_
    refine v_if (fun h9 => ?_)
    refine v_cV (mi := mX11_house) (c0 := 0) (c1 := 0) (As := [pI a2]) (st := []) (kX11_isHouse d (by omega) _ _ _) rfl h9 rfl okX11_isHouse (Or.inl tw1508) tw1510 tp56 rfl (Nat.le_of_ble_eq_true rfl) dX11_house_15 (fun r7 => [pI r7]) (fun r7 => r4.2) (fun _ => rfl) (fun _ => rfl) (fun r7 h8 => ?_) rfl
    refine v_if_eq (tgt := 38) dX11_house_18 (by decide) (fun c10 => ?_) (fun c10 => ?_)
    · refine v_iconst dX11_house_38 (by decide) ?_
      exact v_ireturn dX11_house_39 rfl rfl
    · refine v_iload_n dX11_house_21 rfl ?_
      refine v_cS (mi := mX11_house) (c0 := 0) (c1 := 0) (As := [pI a3]) (st := []) (kX11_isGood d (by omega) _ _) okX11_isGood (Or.inl tw1512) tw1513 rfl (Nat.le_of_ble_eq_true rfl) dX11_house_22 (fun r11 => [pI r11]) (fun r11 => r4.2) (fun _ => rfl) (fun _ => rfl) (fun r11 h12 => ?_) rfl
      refine v_if_eq (tgt := 38) dX11_house_25 (by decide) (fun c13 => ?_) (fun c13 => ?_)
      · refine v_iconst dX11_house_38 (by decide) ?_
        exact v_ireturn dX11_house_39 rfl rfl
      · refine v_iload dX11_house_28 rfl ?_
        refine v_iconst dX11_house_30 (by decide) ?_
        refine v_iconst dX11_house_31 (by decide) ?_
        refine v_cS (mi := mX11_house) (c0 := 0) (c1 := 0) (As := [pI a4, pI 0, pI 3]) (st := []) (kX11_in d (by omega) _ _ _ _) okX11_in (Or.inl tw1360) tw1361 rfl (Nat.le_of_ble_eq_true rfl) dX11_house_32 (fun r14 => [pI r14]) (fun r14 => r4.2) (fun _ => rfl) (fun _ => rfl) (fun r14 h15 => ?_) rfl
        refine v_if_ne (tgt := 40) dX11_house_35 (by decide) (fun c16 => ?_) (fun c16 => ?_)
        · refine v_iconst dX11_house_38 (by decide) ?_
          exact v_ireturn dX11_house_39 rfl rfl
        · refine v_iload dX11_house_40 rfl ?_
          refine v_iconst dX11_house_42 (by decide) ?_
          refine v_icmp_ne (tgt := 55) dX11_house_43 (by decide) (fun c17 => ?_) (fun c17 => ?_)
          · refine v_aload_n dX11_house_46 rfl ?_
            refine v_iload_n dX11_house_47 rfl ?_
            refine v_iload_n dX11_house_48 rfl ?_
            refine v_cV (mi := mX11_house) (c0 := 0) (c1 := 0) (As := [pI a2, pI a3]) (st := []) (kX11_spare d (by omega) _ _ _ _) rfl h9 rfl okX11_spare (Or.inl tw1523) tw1525 tp58 rfl (Nat.le_of_ble_eq_true rfl) dX11_house_49 (fun r18 => [pI r18]) (fun r18 => r4.2) (fun _ => rfl) (fun _ => rfl) (fun r18 h19 => ?_) rfl
            refine v_goto (tgt := 91) dX11_house_52 (by decide) ?_
            exact v_ireturn dX11_house_91 rfl rfl
          · refine v_iload dX11_house_55 rfl ?_
            refine v_iconst dX11_house_57 (by decide) ?_
            refine v_icmp_ne (tgt := 70) dX11_house_58 (by decide) (fun c20 => ?_) (fun c20 => ?_)
            · refine v_aload_n dX11_house_61 rfl ?_
              refine v_iload_n dX11_house_62 rfl ?_
              refine v_iload_n dX11_house_63 rfl ?_
              refine v_cV (mi := mX11_house) (c0 := 0) (c1 := 0) (As := [pI a2, pI a3]) (st := []) (kX11_lacks d (by omega) _ _ _ _) rfl h9 rfl okX11_lacks (Or.inl tw1527) tw1529 tp59 rfl (Nat.le_of_ble_eq_true rfl) dX11_house_64 (fun r21 => [pI r21]) (fun r21 => r4.2) (fun _ => rfl) (fun _ => rfl) (fun r21 h22 => ?_) rfl
              refine v_goto (tgt := 91) dX11_house_67 (by decide) ?_
              exact v_ireturn dX11_house_91 rfl rfl
            · refine v_aload_n dX11_house_70 rfl ?_
              refine v_iload dX11_house_71 rfl ?_
              refine v_join (fun (t24 : Int) => [none, none, some (pI a2), some (pI a3), none]) (fun (t24 : Int) => [pI t24, pA a0]) (fun (t24 : Int) => r4.2) 82 (fun t24 => ?_) (fun j23 hj23 => ?_)
              · refine v_iconst dX11_house_82 (by decide) ?_
                refine v_iload_n dX11_house_83 rfl ?_
                refine v_imul dX11_house_84 ?_
                refine v_iadd dX11_house_85 ?_
                refine v_iload_n dX11_house_86 rfl ?_
                refine v_iadd dX11_house_87 ?_
                refine v_cV (mi := mX11_house) (c0 := 0) (c1 := 0) (As := [pI (w32 ((w32 (t24 + (w32 (5 * a2)))) + a3))]) (st := []) (kX11_of d (by omega) _ _ _) rfl h9 rfl okX11_of (Or.inl tw1504) tw1506 tp55 rfl (Nat.le_of_ble_eq_true rfl) dX11_house_88 (fun r25 => [pI r25]) (fun r25 => r4.2) (fun _ => rfl) (fun _ => rfl) (fun r25 h26 => ?_) rfl
                exact v_ireturn dX11_house_91 rfl rfl
              · refine v_if_ne (tgt := 80) dX11_house_73 (by decide) (fun c27 => ?_) (fun c27 => ?_)
                · refine v_iconst dX11_house_76 (by decide) ?_
                  refine v_goto (tgt := 82) dX11_house_77 (by decide) ?_
                  exact v_drop [none, none, some (pI a2), some (pI a3), none] (ls_n (ls_n (ls_s (ls_s (ls_n ls_e))))) (hj23 2)
                · refine v_bipush dX11_house_80 (by decide) ?_
                  exact v_drop [none, none, some (pI a2), some (pI a3), none] (ls_n (ls_n (ls_s (ls_s (ls_n ls_e))))) (hj23 32)
theorem chX11_lawOf_0 : (cX11_lawOf.data.toList.drop 0).take 16 = [42, 180, 0, 29, 6, 42, 180, 1, 49, 104, 27, 96, 46, 172] := by decide +kernel
theorem dX11_lawOf_0 : decode cX11_lawOf 0 = .ok (.aload_n 0, 1) := oq_42 (byt chX11_lawOf_0 0 rfl)
theorem dX11_lawOf_1 : decode cX11_lawOf 1 = .ok (.getfield 29, 3) := oq_180 (byt chX11_lawOf_0 1 rfl) (byt chX11_lawOf_0 2 rfl) (byt chX11_lawOf_0 3 rfl) rfl
theorem dX11_lawOf_4 : decode cX11_lawOf 4 = .ok (.iconst 3, 1) := oq_6 (byt chX11_lawOf_0 4 rfl)
theorem dX11_lawOf_5 : decode cX11_lawOf 5 = .ok (.aload_n 0, 1) := oq_42 (byt chX11_lawOf_0 5 rfl)
theorem dX11_lawOf_6 : decode cX11_lawOf 6 = .ok (.getfield 305, 3) := oq_180 (byt chX11_lawOf_0 6 rfl) (byt chX11_lawOf_0 7 rfl) (byt chX11_lawOf_0 8 rfl) rfl
theorem dX11_lawOf_9 : decode cX11_lawOf 9 = .ok (.imul, 1) := oq_104 (byt chX11_lawOf_0 9 rfl)
theorem dX11_lawOf_10 : decode cX11_lawOf 10 = .ok (.iload_n 1, 1) := oq_27 (byt chX11_lawOf_0 10 rfl)
theorem dX11_lawOf_11 : decode cX11_lawOf 11 = .ok (.iadd, 1) := oq_96 (byt chX11_lawOf_0 11 rfl)
theorem dX11_lawOf_12 : decode cX11_lawOf 12 = .ok (.iaload, 1) := oq_46 (byt chX11_lawOf_0 12 rfl)
theorem dX11_lawOf_13 : decode cX11_lawOf 13 = .ok (.ireturn, 1) := oq_172 (byt chX11_lawOf_0 13 rfl)
abbrev mX11_lawOf : MI := (yX11_lawOf, cX11_lawOf, 2, (some .int), noE)
theorem okX11_lawOf : cok mX11_lawOf 1 := ⟨tw1542, tw11, by decide, by decide, by decide, by decide +kernel⟩
def fX11_lawOf (M : Mem) (a0 a1 : Int) : Option Int :=
  if M.2.1 a0 = 10 then if M.2.1 (M.1 a0 7) = 12 ∧ (0 : Int) ≤ (w32 ((w32 (3 * (M.1 a0 27))) + a1)) ∧ (w32 ((w32 (3 * (M.1 a0 27))) + a1)) < M.2.2.1 (M.1 a0 7) then some (M.1 (M.1 a0 7) (w32 ((w32 (3 * (M.1 a0 27))) + a1))) else none else none
set_option maxRecDepth 100000 in
set_option maxHeartbeats 4000000 in
theorem kX11_lawOf (d : Nat) (hd : 0 ≤ d) (M : Mem) (a0 a1 : Int) : Ct mX11_lawOf d 0 0 [pA a0, pI a1] M (dI M) (fX11_lawOf M a0 a1) := by
  refine Ct.of 0 (fun _ _ _ => trivial) (by decide +kernel) rfl ?_
  unfold fX11_lawOf
  refine v_aload_n dX11_lawOf_0 rfl ?_
  refine v_if (fun h1 => ?_)
  refine v_get (v := pA (M.1 a0 7)) 10 7 rfl inX11 (by decide) tw1200 dX11_lawOf_1 h1 rfl ?_
  refine v_iconst dX11_lawOf_4 (by decide) ?_
  refine v_aload_n dX11_lawOf_5 rfl ?_
  refine v_get (v := pI (M.1 a0 27)) 10 27 rfl inX11 (by decide) tw1220 dX11_lawOf_6 h1 rfl ?_
  refine v_imul dX11_lawOf_9 ?_
  refine v_iload_n dX11_lawOf_10 rfl ?_
  refine v_iadd dX11_lawOf_11 ?_
  refine v_if (fun h2 => ?_)
  refine v_iaload h2 dX11_lawOf_12 ?_
  exact v_ireturn dX11_lawOf_13 rfl rfl
theorem chX11_hasLaw_0 : (cX11_hasLaw.data.toList.drop 0).take 16 = [42, 27, 181, 1, 49, 42, 4, 27, 182, 1, 8, 172] := by decide +kernel
theorem dX11_hasLaw_0 : decode cX11_hasLaw 0 = .ok (.aload_n 0, 1) := oq_42 (byt chX11_hasLaw_0 0 rfl)
theorem dX11_hasLaw_1 : decode cX11_hasLaw 1 = .ok (.iload_n 1, 1) := oq_27 (byt chX11_hasLaw_0 1 rfl)
theorem dX11_hasLaw_2 : decode cX11_hasLaw 2 = .ok (.putfield 305, 3) := oq_181 (byt chX11_hasLaw_0 2 rfl) (byt chX11_hasLaw_0 3 rfl) (byt chX11_hasLaw_0 4 rfl) rfl
theorem dX11_hasLaw_5 : decode cX11_hasLaw 5 = .ok (.aload_n 0, 1) := oq_42 (byt chX11_hasLaw_0 5 rfl)
theorem dX11_hasLaw_6 : decode cX11_hasLaw 6 = .ok (.iconst 1, 1) := oq_4 (byt chX11_hasLaw_0 6 rfl)
theorem dX11_hasLaw_7 : decode cX11_hasLaw 7 = .ok (.iload_n 1, 1) := oq_27 (byt chX11_hasLaw_0 7 rfl)
theorem dX11_hasLaw_8 : decode cX11_hasLaw 8 = .ok (.invokevirtual 264, 3) := oq_182 (byt chX11_hasLaw_0 8 rfl) (byt chX11_hasLaw_0 9 rfl) (byt chX11_hasLaw_0 10 rfl) rfl
theorem dX11_hasLaw_11 : decode cX11_hasLaw 11 = .ok (.ireturn, 1) := oq_172 (byt chX11_hasLaw_0 11 rfl)
abbrev mX11_hasLaw : MI := (yX11_hasLaw, cX11_hasLaw, 2, (some .boolean), noE)
theorem okX11_hasLaw : cok mX11_hasLaw 1 := ⟨tw1538, tw11, by decide, by decide, by decide, by decide +kernel⟩
def fX11_hasLaw (M : Mem) (a0 a1 : Int) : Option (Int × Mem) :=
  if M.2.1 a0 = 10 then bM (mst M a0 27 a1) fun M2 => (fX11_is M2 a0 1 a1).bind fun r4 => if r4 = 0 ∨ r4 = 1 then some (r4, M2) else none else none
set_option maxRecDepth 100000 in
set_option maxHeartbeats 4000000 in
theorem kX11_hasLaw (d : Nat) (hd : 2 ≤ d) (M : Mem) (a0 a1 : Int) : Ct mX11_hasLaw d 0 0 [pA a0, pI a1] M dIM (fX11_hasLaw M a0 a1) := by
  obtain ⟨d, rfl⟩ : ∃ k, d = k + 1 := ⟨d - 1, by omega⟩
  refine Ct.of 0 (fun _ _ _ => trivial) (by decide +kernel) rfl ?_
  unfold fX11_hasLaw
  refine v_aload_n dX11_hasLaw_0 rfl ?_
  refine v_iload_n dX11_hasLaw_1 rfl ?_
  refine v_if (fun h1 => ?_)
  refine v_put (x := a1) 10 27 rfl inX11 (by decide) tw1220 (Or.inl rfl) rfl dX11_hasLaw_2 h1 rfl id ?_
  refine v_bM (fun M2 e3 => ?_)
  refine v_aload_n dX11_hasLaw_5 rfl ?_
  refine v_iconst dX11_hasLaw_6 (by decide) ?_
  refine v_iload_n dX11_hasLaw_7 rfl ?_
  refine v_cV (mi := mX11_hasLaw) (c0 := 0) (c1 := 0) (As := [pI 1, pI a1]) (st := []) (kX11_is d (by omega) _ _ _ _) rfl (by rw [e3]; exact h1) rfl okX11_is (Or.inl tw1367) tw1369 tp28 rfl (Nat.le_of_ble_eq_true rfl) dX11_hasLaw_8 (fun r4 => [pI r4]) (fun r4 => M2) (fun _ => rfl) (fun _ => rfl) (fun r4 h5 => ?_) rfl
  refine v_if (fun h6 => ?_)
  exact v_breturn dX11_hasLaw_11 rfl h6 rfl
theorem chX11_isDouble_0 : (cX11_isDouble.data.toList.drop 0).take 16 = [27, 3, 16, 19, 184, 0, 98, 153, 0, 19, 42, 5, 182, 1, 52, 27] := by decide +kernel
theorem chX11_isDouble_1 : (cX11_isDouble.data.toList.drop 16).take 16 = [184, 1, 55, 153, 0, 7, 4, 167, 0, 4, 3, 172] := by decide +kernel
theorem dX11_isDouble_0 : decode cX11_isDouble 0 = .ok (.iload_n 1, 1) := oq_27 (byt chX11_isDouble_0 0 rfl)
theorem dX11_isDouble_1 : decode cX11_isDouble 1 = .ok (.iconst 0, 1) := oq_3 (byt chX11_isDouble_0 1 rfl)
theorem dX11_isDouble_2 : decode cX11_isDouble 2 = .ok (.bipush 19, 2) := oq_16 (byt chX11_isDouble_0 2 rfl) (byt chX11_isDouble_0 3 rfl) rfl
theorem dX11_isDouble_4 : decode cX11_isDouble 4 = .ok (.invokestatic 98, 3) := oq_184 (byt chX11_isDouble_0 4 rfl) (byt chX11_isDouble_0 5 rfl) (byt chX11_isDouble_0 6 rfl) rfl
theorem dX11_isDouble_7 : decode cX11_isDouble 7 = .ok (.ifCond .eq 19, 3) := oq_153 (byt chX11_isDouble_0 7 rfl) (byt chX11_isDouble_0 8 rfl) (byt chX11_isDouble_0 9 rfl) (by decide +kernel)
theorem dX11_isDouble_10 : decode cX11_isDouble 10 = .ok (.aload_n 0, 1) := oq_42 (byt chX11_isDouble_0 10 rfl)
theorem dX11_isDouble_11 : decode cX11_isDouble 11 = .ok (.iconst 2, 1) := oq_5 (byt chX11_isDouble_0 11 rfl)
theorem dX11_isDouble_12 : decode cX11_isDouble 12 = .ok (.invokevirtual 308, 3) := oq_182 (byt chX11_isDouble_0 12 rfl) (byt chX11_isDouble_0 13 rfl) (byt chX11_isDouble_0 14 rfl) rfl
theorem dX11_isDouble_15 : decode cX11_isDouble 15 = .ok (.iload_n 1, 1) := oq_27 (byt chX11_isDouble_0 15 rfl)
theorem dX11_isDouble_16 : decode cX11_isDouble 16 = .ok (.invokestatic 311, 3) := oq_184 (byt chX11_isDouble_1 0 rfl) (byt chX11_isDouble_1 1 rfl) (byt chX11_isDouble_1 2 rfl) rfl
theorem dX11_isDouble_19 : decode cX11_isDouble 19 = .ok (.ifCond .eq 7, 3) := oq_153 (byt chX11_isDouble_1 3 rfl) (byt chX11_isDouble_1 4 rfl) (byt chX11_isDouble_1 5 rfl) (by decide +kernel)
theorem dX11_isDouble_22 : decode cX11_isDouble 22 = .ok (.iconst 1, 1) := oq_4 (byt chX11_isDouble_1 6 rfl)
theorem dX11_isDouble_23 : decode cX11_isDouble 23 = .ok (.goto 4, 3) := oq_167 (byt chX11_isDouble_1 7 rfl) (byt chX11_isDouble_1 8 rfl) (byt chX11_isDouble_1 9 rfl) (by decide +kernel)
theorem dX11_isDouble_26 : decode cX11_isDouble 26 = .ok (.iconst 0, 1) := oq_3 (byt chX11_isDouble_1 10 rfl)
theorem dX11_isDouble_27 : decode cX11_isDouble 27 = .ok (.ireturn, 1) := oq_172 (byt chX11_isDouble_1 11 rfl)
abbrev mX11_isDouble : MI := (yX11_isDouble, cX11_isDouble, 2, (some .boolean), noE)
theorem okX11_isDouble : cok mX11_isDouble 1 := ⟨tw1546, tw11, by decide, by decide, by decide, by decide +kernel⟩
def fX11_isDouble (M : Mem) (a0 a1 : Int) : Option Int :=
  (fX11_in M a1 0 19).bind fun r1 => if r1 = 0 then (some 0) else (if M.2.1 a0 = 10 then (fX11_lawOf M a0 2).bind fun r4 => (fX11_has M r4 a1).bind fun r7 => if r7 = 0 then (some 0) else (some 1) else none)
set_option maxRecDepth 100000 in
set_option maxHeartbeats 4000000 in
theorem kX11_isDouble (d : Nat) (hd : 1 ≤ d) (M : Mem) (a0 a1 : Int) : Ct mX11_isDouble d 0 0 [pA a0, pI a1] M (dI M) (fX11_isDouble M a0 a1) := by
  obtain ⟨d, rfl⟩ : ∃ k, d = k + 1 := ⟨d - 1, by omega⟩
  refine Ct.of 0 (fun _ _ _ => trivial) (by decide +kernel) rfl ?_
  unfold fX11_isDouble
  refine v_iload_n dX11_isDouble_0 rfl ?_
  refine v_iconst dX11_isDouble_1 (by decide) ?_
  refine v_bipush dX11_isDouble_2 (by decide) ?_
  refine v_cS (mi := mX11_isDouble) (c0 := 0) (c1 := 0) (As := [pI a1, pI 0, pI 19]) (st := []) (kX11_in d (by omega) _ _ _ _) okX11_in (Or.inl tw1360) tw1361 rfl (Nat.le_of_ble_eq_true rfl) dX11_isDouble_4 (fun r1 => [pI r1]) (fun r1 => M) (fun _ => rfl) (fun _ => rfl) (fun r1 h2 => ?_) rfl
  refine v_if_eq (tgt := 26) dX11_isDouble_7 (by decide) (fun c3 => ?_) (fun c3 => ?_)
  · refine v_iconst dX11_isDouble_26 (by decide) ?_
    exact v_breturn dX11_isDouble_27 rfl (by decide) rfl
  · refine v_aload_n dX11_isDouble_10 rfl ?_
    refine v_iconst dX11_isDouble_11 (by decide) ?_
    refine v_if (fun h6 => ?_)
    refine v_cV (mi := mX11_isDouble) (c0 := 0) (c1 := 0) (As := [pI 2]) (st := []) (kX11_lawOf d (by omega) _ _ _) rfl h6 rfl okX11_lawOf (Or.inl tw1539) tw1541 tp61 rfl (Nat.le_of_ble_eq_true rfl) dX11_isDouble_12 (fun r4 => [pI r4]) (fun r4 => M) (fun _ => rfl) (fun _ => rfl) (fun r4 h5 => ?_) rfl
    refine v_iload_n dX11_isDouble_15 rfl ?_
    refine v_cS (mi := mX11_isDouble) (c0 := 0) (c1 := 0) (As := [pI r4, pI a1]) (st := []) (kX11_has d (by omega) _ _ _) okX11_has (Or.inl tw1547) tw1548 rfl (Nat.le_of_ble_eq_true rfl) dX11_isDouble_16 (fun r7 => [pI r7]) (fun r7 => M) (fun _ => rfl) (fun _ => rfl) (fun r7 h8 => ?_) rfl
    refine v_if_eq (tgt := 26) dX11_isDouble_19 (by decide) (fun c9 => ?_) (fun c9 => ?_)
    · refine v_iconst dX11_isDouble_26 (by decide) ?_
      exact v_breturn dX11_isDouble_27 rfl (by decide) rfl
    · refine v_iconst dX11_isDouble_22 (by decide) ?_
      refine v_goto (tgt := 27) dX11_isDouble_23 (by decide) ?_
      exact v_breturn dX11_isDouble_27 rfl (by decide) rfl
theorem chX11_law_0 : (cX11_law.data.toList.drop 0).take 16 = [42, 3, 181, 0, 90, 42, 27, 182, 1, 58, 154, 0, 5, 2, 172, 28] := by decide +kernel
theorem chX11_law_1 : (cX11_law.data.toList.drop 16).take 16 = [3, 4, 184, 0, 98, 153, 0, 11, 42, 28, 182, 1, 52, 167, 0, 34] := by decide +kernel
theorem chX11_law_2 : (cX11_law.data.toList.drop 32).take 16 = [28, 16, 10, 16, 29, 184, 0, 98, 153, 0, 22, 42, 28, 16, 10, 100] := by decide +kernel
theorem chX11_law_3 : (cX11_law.data.toList.drop 48).take 16 = [182, 1, 61, 153, 0, 7, 4, 167, 0, 8, 3, 167, 0, 4, 2, 172] := by decide +kernel
theorem dX11_law_0 : decode cX11_law 0 = .ok (.aload_n 0, 1) := oq_42 (byt chX11_law_0 0 rfl)
theorem dX11_law_1 : decode cX11_law 1 = .ok (.iconst 0, 1) := oq_3 (byt chX11_law_0 1 rfl)
theorem dX11_law_2 : decode cX11_law 2 = .ok (.putfield 90, 3) := oq_181 (byt chX11_law_0 2 rfl) (byt chX11_law_0 3 rfl) (byt chX11_law_0 4 rfl) rfl
theorem dX11_law_5 : decode cX11_law 5 = .ok (.aload_n 0, 1) := oq_42 (byt chX11_law_0 5 rfl)
theorem dX11_law_6 : decode cX11_law 6 = .ok (.iload_n 1, 1) := oq_27 (byt chX11_law_0 6 rfl)
theorem dX11_law_7 : decode cX11_law 7 = .ok (.invokevirtual 314, 3) := oq_182 (byt chX11_law_0 7 rfl) (byt chX11_law_0 8 rfl) (byt chX11_law_0 9 rfl) rfl
theorem dX11_law_10 : decode cX11_law 10 = .ok (.ifCond .ne 5, 3) := oq_154 (byt chX11_law_0 10 rfl) (byt chX11_law_0 11 rfl) (byt chX11_law_0 12 rfl) (by decide +kernel)
theorem dX11_law_13 : decode cX11_law 13 = .ok (.iconst (-1), 1) := oq_2 (byt chX11_law_0 13 rfl)
theorem dX11_law_14 : decode cX11_law 14 = .ok (.ireturn, 1) := oq_172 (byt chX11_law_0 14 rfl)
theorem dX11_law_15 : decode cX11_law 15 = .ok (.iload_n 2, 1) := oq_28 (byt chX11_law_0 15 rfl)
theorem dX11_law_16 : decode cX11_law 16 = .ok (.iconst 0, 1) := oq_3 (byt chX11_law_1 0 rfl)
theorem dX11_law_17 : decode cX11_law 17 = .ok (.iconst 1, 1) := oq_4 (byt chX11_law_1 1 rfl)
theorem dX11_law_18 : decode cX11_law 18 = .ok (.invokestatic 98, 3) := oq_184 (byt chX11_law_1 2 rfl) (byt chX11_law_1 3 rfl) (byt chX11_law_1 4 rfl) rfl
theorem dX11_law_21 : decode cX11_law 21 = .ok (.ifCond .eq 11, 3) := oq_153 (byt chX11_law_1 5 rfl) (byt chX11_law_1 6 rfl) (byt chX11_law_1 7 rfl) (by decide +kernel)
theorem dX11_law_24 : decode cX11_law 24 = .ok (.aload_n 0, 1) := oq_42 (byt chX11_law_1 8 rfl)
theorem dX11_law_25 : decode cX11_law 25 = .ok (.iload_n 2, 1) := oq_28 (byt chX11_law_1 9 rfl)
theorem dX11_law_26 : decode cX11_law 26 = .ok (.invokevirtual 308, 3) := oq_182 (byt chX11_law_1 10 rfl) (byt chX11_law_1 11 rfl) (byt chX11_law_1 12 rfl) rfl
theorem dX11_law_29 : decode cX11_law 29 = .ok (.goto 34, 3) := oq_167 (byt chX11_law_1 13 rfl) (byt chX11_law_1 14 rfl) (byt chX11_law_1 15 rfl) (by decide +kernel)
theorem dX11_law_32 : decode cX11_law 32 = .ok (.iload_n 2, 1) := oq_28 (byt chX11_law_2 0 rfl)
theorem dX11_law_33 : decode cX11_law 33 = .ok (.bipush 10, 2) := oq_16 (byt chX11_law_2 1 rfl) (byt chX11_law_2 2 rfl) rfl
theorem dX11_law_35 : decode cX11_law 35 = .ok (.bipush 29, 2) := oq_16 (byt chX11_law_2 3 rfl) (byt chX11_law_2 4 rfl) rfl
theorem dX11_law_37 : decode cX11_law 37 = .ok (.invokestatic 98, 3) := oq_184 (byt chX11_law_2 5 rfl) (byt chX11_law_2 6 rfl) (byt chX11_law_2 7 rfl) rfl
theorem dX11_law_40 : decode cX11_law 40 = .ok (.ifCond .eq 22, 3) := oq_153 (byt chX11_law_2 8 rfl) (byt chX11_law_2 9 rfl) (byt chX11_law_2 10 rfl) (by decide +kernel)
theorem dX11_law_43 : decode cX11_law 43 = .ok (.aload_n 0, 1) := oq_42 (byt chX11_law_2 11 rfl)
theorem dX11_law_44 : decode cX11_law 44 = .ok (.iload_n 2, 1) := oq_28 (byt chX11_law_2 12 rfl)
theorem dX11_law_45 : decode cX11_law 45 = .ok (.bipush 10, 2) := oq_16 (byt chX11_law_2 13 rfl) (byt chX11_law_2 14 rfl) rfl
theorem dX11_law_47 : decode cX11_law 47 = .ok (.isub, 1) := oq_100 (byt chX11_law_2 15 rfl)
theorem dX11_law_48 : decode cX11_law 48 = .ok (.invokevirtual 317, 3) := oq_182 (byt chX11_law_3 0 rfl) (byt chX11_law_3 1 rfl) (byt chX11_law_3 2 rfl) rfl
theorem dX11_law_51 : decode cX11_law 51 = .ok (.ifCond .eq 7, 3) := oq_153 (byt chX11_law_3 3 rfl) (byt chX11_law_3 4 rfl) (byt chX11_law_3 5 rfl) (by decide +kernel)
theorem dX11_law_54 : decode cX11_law 54 = .ok (.iconst 1, 1) := oq_4 (byt chX11_law_3 6 rfl)
theorem dX11_law_55 : decode cX11_law 55 = .ok (.goto 8, 3) := oq_167 (byt chX11_law_3 7 rfl) (byt chX11_law_3 8 rfl) (byt chX11_law_3 9 rfl) (by decide +kernel)
theorem dX11_law_58 : decode cX11_law 58 = .ok (.iconst 0, 1) := oq_3 (byt chX11_law_3 10 rfl)
theorem dX11_law_59 : decode cX11_law 59 = .ok (.goto 4, 3) := oq_167 (byt chX11_law_3 11 rfl) (byt chX11_law_3 12 rfl) (byt chX11_law_3 13 rfl) (by decide +kernel)
theorem dX11_law_62 : decode cX11_law 62 = .ok (.iconst (-1), 1) := oq_2 (byt chX11_law_3 14 rfl)
theorem dX11_law_63 : decode cX11_law 63 = .ok (.ireturn, 1) := oq_172 (byt chX11_law_3 15 rfl)
abbrev mX11_law : MI := (yX11_law, cX11_law, 3, (some .int), noE)
theorem okX11_law : cok mX11_law 2 := ⟨tw1534, tw11, by decide, by decide, by decide, by decide +kernel⟩
def fX11_law (M : Mem) (a0 a1 a2 : Int) : Option (Int × Mem) :=
  if M.2.1 a0 = 10 then bM (mst M a0 0 0) fun M2 => (fX11_hasLaw M2 a0 a1).bind fun r4 => if r4.1 = 0 then (some ((-1), r4.2)) else ((fX11_in r4.2 a2 0 1).bind fun r7 => if r7 = 0 then ((fX11_in r4.2 a2 10 29).bind fun r10 => if r10 = 0 then (some ((-1), r4.2)) else (if r4.2.2.1 a0 = 10 then (fX11_isDouble r4.2 a0 (w32 (a2 - 10))).bind fun r13 => if r13 = 0 then (some (0, r4.2)) else (some (1, r4.2)) else none)) else (if r4.2.2.1 a0 = 10 then (fX11_lawOf r4.2 a0 a2).bind fun r17 => some (r17, r4.2) else none)) else none
set_option maxRecDepth 100000 in
set_option maxHeartbeats 4000000 in
theorem kX11_law (d : Nat) (hd : 3 ≤ d) (M : Mem) (a0 a1 a2 : Int) : Ct mX11_law d 0 0 [pA a0, pI a1, pI a2] M dIM (fX11_law M a0 a1 a2) := by
  obtain ⟨d, rfl⟩ : ∃ k, d = k + 1 := ⟨d - 1, by omega⟩
  refine Ct.of 0 (fun _ _ _ => trivial) (by decide +kernel) rfl ?_
  unfold fX11_law
  refine v_aload_n dX11_law_0 rfl ?_
  refine v_iconst dX11_law_1 (by decide) ?_
  refine v_if (fun h1 => ?_)
  refine v_put (x := 0) 10 0 rfl inX11 (by decide) tw1193 (Or.inl rfl) rfl dX11_law_2 h1 rfl id ?_
  refine v_bM (fun M2 e3 => ?_)
  refine v_aload_n dX11_law_5 rfl ?_
  refine v_iload_n dX11_law_6 rfl ?_
  refine v_cV (mi := mX11_law) (c0 := 0) (c1 := 0) (As := [pI a1]) (st := []) (kX11_hasLaw d (by omega) _ _ _) rfl (by rw [e3]; exact h1) rfl okX11_hasLaw (Or.inl tw1535) tw1537 tp60 rfl (Nat.le_of_ble_eq_true rfl) dX11_law_7 (fun r4 => [pI r4.1]) (fun r4 => r4.2) (fun _ => rfl) (fun _ => rfl) (fun r4 h5 => ?_) rfl
  refine v_if_ne (tgt := 15) dX11_law_10 (by decide) (fun c6 => ?_) (fun c6 => ?_)
  · refine v_iconst dX11_law_13 (by decide) ?_
    exact v_ireturn dX11_law_14 rfl rfl
  · refine v_iload_n dX11_law_15 rfl ?_
    refine v_iconst dX11_law_16 (by decide) ?_
    refine v_iconst dX11_law_17 (by decide) ?_
    refine v_cS (mi := mX11_law) (c0 := 0) (c1 := 0) (As := [pI a2, pI 0, pI 1]) (st := []) (kX11_in d (by omega) _ _ _ _) okX11_in (Or.inl tw1360) tw1361 rfl (Nat.le_of_ble_eq_true rfl) dX11_law_18 (fun r7 => [pI r7]) (fun r7 => r4.2) (fun _ => rfl) (fun _ => rfl) (fun r7 h8 => ?_) rfl
    refine v_if_eq (tgt := 32) dX11_law_21 (by decide) (fun c9 => ?_) (fun c9 => ?_)
    · refine v_iload_n dX11_law_32 rfl ?_
      refine v_bipush dX11_law_33 (by decide) ?_
      refine v_bipush dX11_law_35 (by decide) ?_
      refine v_cS (mi := mX11_law) (c0 := 0) (c1 := 0) (As := [pI a2, pI 10, pI 29]) (st := []) (kX11_in d (by omega) _ _ _ _) okX11_in (Or.inl tw1360) tw1361 rfl (Nat.le_of_ble_eq_true rfl) dX11_law_37 (fun r10 => [pI r10]) (fun r10 => r4.2) (fun _ => rfl) (fun _ => rfl) (fun r10 h11 => ?_) rfl
      refine v_if_eq (tgt := 62) dX11_law_40 (by decide) (fun c12 => ?_) (fun c12 => ?_)
      · refine v_iconst dX11_law_62 (by decide) ?_
        exact v_ireturn dX11_law_63 rfl rfl
      · refine v_aload_n dX11_law_43 rfl ?_
        refine v_iload_n dX11_law_44 rfl ?_
        refine v_bipush dX11_law_45 (by decide) ?_
        refine v_isub dX11_law_47 ?_
        refine v_if (fun h15 => ?_)
        refine v_cV (mi := mX11_law) (c0 := 0) (c1 := 0) (As := [pI (w32 (a2 - 10))]) (st := []) (kX11_isDouble d (by omega) _ _ _) rfl h15 rfl okX11_isDouble (Or.inl tw1543) tw1545 tp62 rfl (Nat.le_of_ble_eq_true rfl) dX11_law_48 (fun r13 => [pI r13]) (fun r13 => r4.2) (fun _ => rfl) (fun _ => rfl) (fun r13 h14 => ?_) rfl
        refine v_if_eq (tgt := 58) dX11_law_51 (by decide) (fun c16 => ?_) (fun c16 => ?_)
        · refine v_iconst dX11_law_58 (by decide) ?_
          refine v_goto (tgt := 63) dX11_law_59 (by decide) ?_
          exact v_ireturn dX11_law_63 rfl rfl
        · refine v_iconst dX11_law_54 (by decide) ?_
          refine v_goto (tgt := 63) dX11_law_55 (by decide) ?_
          exact v_ireturn dX11_law_63 rfl rfl
    · refine v_aload_n dX11_law_24 rfl ?_
      refine v_iload_n dX11_law_25 rfl ?_
      refine v_if (fun h19 => ?_)
      refine v_cV (mi := mX11_law) (c0 := 0) (c1 := 0) (As := [pI a2]) (st := []) (kX11_lawOf d (by omega) _ _ _) rfl h19 rfl okX11_lawOf (Or.inl tw1539) tw1541 tp61 rfl (Nat.le_of_ble_eq_true rfl) dX11_law_26 (fun r17 => [pI r17]) (fun r17 => r4.2) (fun _ => rfl) (fun _ => rfl) (fun r17 h18 => ?_) rfl
      refine v_goto (tgt := 63) dX11_law_29 (by decide) ?_
      exact v_ireturn dX11_law_63 rfl rfl
theorem chX11_deeds_0 : (cX11_deeds.data.toList.drop 0).take 16 = [42, 180, 0, 32, 17, 0, 161, 42, 180, 1, 64, 104, 46, 172] := by decide +kernel
theorem dX11_deeds_0 : decode cX11_deeds 0 = .ok (.aload_n 0, 1) := oq_42 (byt chX11_deeds_0 0 rfl)
theorem dX11_deeds_1 : decode cX11_deeds 1 = .ok (.getfield 32, 3) := oq_180 (byt chX11_deeds_0 1 rfl) (byt chX11_deeds_0 2 rfl) (byt chX11_deeds_0 3 rfl) rfl
theorem dX11_deeds_4 : decode cX11_deeds 4 = .ok (.sipush 161, 3) := oq_17 (byt chX11_deeds_0 4 rfl) (byt chX11_deeds_0 5 rfl) (byt chX11_deeds_0 6 rfl) (by decide +kernel)
theorem dX11_deeds_7 : decode cX11_deeds 7 = .ok (.aload_n 0, 1) := oq_42 (byt chX11_deeds_0 7 rfl)
theorem dX11_deeds_8 : decode cX11_deeds 8 = .ok (.getfield 320, 3) := oq_180 (byt chX11_deeds_0 8 rfl) (byt chX11_deeds_0 9 rfl) (byt chX11_deeds_0 10 rfl) rfl
theorem dX11_deeds_11 : decode cX11_deeds 11 = .ok (.imul, 1) := oq_104 (byt chX11_deeds_0 11 rfl)
theorem dX11_deeds_12 : decode cX11_deeds 12 = .ok (.iaload, 1) := oq_46 (byt chX11_deeds_0 12 rfl)
theorem dX11_deeds_13 : decode cX11_deeds 13 = .ok (.ireturn, 1) := oq_172 (byt chX11_deeds_0 13 rfl)
abbrev mX11_deeds : MI := (yX11_deeds, cX11_deeds, 1, (some .int), noE)
theorem okX11_deeds : cok mX11_deeds 0 := ⟨tw1561, tw11, by decide, by decide, by decide, by decide +kernel⟩
def fX11_deeds (M : Mem) (a0 : Int) : Option Int :=
  if M.2.1 a0 = 10 then if M.2.1 (M.1 a0 8) = 12 ∧ (0 : Int) ≤ (w32 (161 * (M.1 a0 28))) ∧ (w32 (161 * (M.1 a0 28))) < M.2.2.1 (M.1 a0 8) then some (M.1 (M.1 a0 8) (w32 (161 * (M.1 a0 28)))) else none else none
set_option maxRecDepth 100000 in
set_option maxHeartbeats 4000000 in
theorem kX11_deeds (d : Nat) (hd : 0 ≤ d) (M : Mem) (a0 : Int) : Ct mX11_deeds d 0 0 [pA a0] M (dI M) (fX11_deeds M a0) := by
  refine Ct.of 0 (fun _ _ _ => trivial) (by decide +kernel) rfl ?_
  unfold fX11_deeds
  refine v_aload_n dX11_deeds_0 rfl ?_
  refine v_if (fun h1 => ?_)
  refine v_get (v := pA (M.1 a0 8)) 10 8 rfl inX11 (by decide) tw1201 dX11_deeds_1 h1 rfl ?_
  refine v_sipush dX11_deeds_4 (by decide) ?_
  refine v_aload_n dX11_deeds_7 rfl ?_
  refine v_get (v := pI (M.1 a0 28)) 10 28 rfl inX11 (by decide) tw1221 dX11_deeds_8 h1 rfl ?_
  refine v_imul dX11_deeds_11 ?_
  refine v_if (fun h2 => ?_)
  refine v_iaload h2 dX11_deeds_12 ?_
  exact v_ireturn dX11_deeds_13 rfl rfl
theorem chX11_deedOf_0 : (cX11_deedOf.data.toList.drop 0).take 16 = [42, 180, 0, 32, 17, 0, 161, 42, 180, 1, 64, 104, 4, 96, 7, 27] := by decide +kernel
theorem chX11_deedOf_1 : (cX11_deedOf.data.toList.drop 16).take 16 = [104, 96, 28, 96, 46, 172] := by decide +kernel
theorem dX11_deedOf_0 : decode cX11_deedOf 0 = .ok (.aload_n 0, 1) := oq_42 (byt chX11_deedOf_0 0 rfl)
theorem dX11_deedOf_1 : decode cX11_deedOf 1 = .ok (.getfield 32, 3) := oq_180 (byt chX11_deedOf_0 1 rfl) (byt chX11_deedOf_0 2 rfl) (byt chX11_deedOf_0 3 rfl) rfl
theorem dX11_deedOf_4 : decode cX11_deedOf 4 = .ok (.sipush 161, 3) := oq_17 (byt chX11_deedOf_0 4 rfl) (byt chX11_deedOf_0 5 rfl) (byt chX11_deedOf_0 6 rfl) (by decide +kernel)
theorem dX11_deedOf_7 : decode cX11_deedOf 7 = .ok (.aload_n 0, 1) := oq_42 (byt chX11_deedOf_0 7 rfl)
theorem dX11_deedOf_8 : decode cX11_deedOf 8 = .ok (.getfield 320, 3) := oq_180 (byt chX11_deedOf_0 8 rfl) (byt chX11_deedOf_0 9 rfl) (byt chX11_deedOf_0 10 rfl) rfl
theorem dX11_deedOf_11 : decode cX11_deedOf 11 = .ok (.imul, 1) := oq_104 (byt chX11_deedOf_0 11 rfl)
theorem dX11_deedOf_12 : decode cX11_deedOf 12 = .ok (.iconst 1, 1) := oq_4 (byt chX11_deedOf_0 12 rfl)
theorem dX11_deedOf_13 : decode cX11_deedOf 13 = .ok (.iadd, 1) := oq_96 (byt chX11_deedOf_0 13 rfl)
theorem dX11_deedOf_14 : decode cX11_deedOf 14 = .ok (.iconst 4, 1) := oq_7 (byt chX11_deedOf_0 14 rfl)
theorem dX11_deedOf_15 : decode cX11_deedOf 15 = .ok (.iload_n 1, 1) := oq_27 (byt chX11_deedOf_0 15 rfl)
theorem dX11_deedOf_16 : decode cX11_deedOf 16 = .ok (.imul, 1) := oq_104 (byt chX11_deedOf_1 0 rfl)
theorem dX11_deedOf_17 : decode cX11_deedOf 17 = .ok (.iadd, 1) := oq_96 (byt chX11_deedOf_1 1 rfl)
theorem dX11_deedOf_18 : decode cX11_deedOf 18 = .ok (.iload_n 2, 1) := oq_28 (byt chX11_deedOf_1 2 rfl)
theorem dX11_deedOf_19 : decode cX11_deedOf 19 = .ok (.iadd, 1) := oq_96 (byt chX11_deedOf_1 3 rfl)
theorem dX11_deedOf_20 : decode cX11_deedOf 20 = .ok (.iaload, 1) := oq_46 (byt chX11_deedOf_1 4 rfl)
theorem dX11_deedOf_21 : decode cX11_deedOf 21 = .ok (.ireturn, 1) := oq_172 (byt chX11_deedOf_1 5 rfl)
abbrev mX11_deedOf : MI := (yX11_deedOf, cX11_deedOf, 3, (some .int), noE)
theorem okX11_deedOf : cok mX11_deedOf 2 := ⟨tw1565, tw11, by decide, by decide, by decide, by decide +kernel⟩
def fX11_deedOf (M : Mem) (a0 a1 a2 : Int) : Option Int :=
  if M.2.1 a0 = 10 then if M.2.1 (M.1 a0 8) = 12 ∧ (0 : Int) ≤ (w32 ((w32 ((w32 ((w32 (161 * (M.1 a0 28))) + 1)) + (w32 (4 * a1)))) + a2)) ∧ (w32 ((w32 ((w32 ((w32 (161 * (M.1 a0 28))) + 1)) + (w32 (4 * a1)))) + a2)) < M.2.2.1 (M.1 a0 8) then some (M.1 (M.1 a0 8) (w32 ((w32 ((w32 ((w32 (161 * (M.1 a0 28))) + 1)) + (w32 (4 * a1)))) + a2))) else none else none
set_option maxRecDepth 100000 in
set_option maxHeartbeats 4000000 in
theorem kX11_deedOf (d : Nat) (hd : 0 ≤ d) (M : Mem) (a0 a1 a2 : Int) : Ct mX11_deedOf d 0 0 [pA a0, pI a1, pI a2] M (dI M) (fX11_deedOf M a0 a1 a2) := by
  refine Ct.of 0 (fun _ _ _ => trivial) (by decide +kernel) rfl ?_
  unfold fX11_deedOf
  refine v_aload_n dX11_deedOf_0 rfl ?_
  refine v_if (fun h1 => ?_)
  refine v_get (v := pA (M.1 a0 8)) 10 8 rfl inX11 (by decide) tw1201 dX11_deedOf_1 h1 rfl ?_
  refine v_sipush dX11_deedOf_4 (by decide) ?_
  refine v_aload_n dX11_deedOf_7 rfl ?_
  refine v_get (v := pI (M.1 a0 28)) 10 28 rfl inX11 (by decide) tw1221 dX11_deedOf_8 h1 rfl ?_
  refine v_imul dX11_deedOf_11 ?_
  refine v_iconst dX11_deedOf_12 (by decide) ?_
  refine v_iadd dX11_deedOf_13 ?_
  refine v_iconst dX11_deedOf_14 (by decide) ?_
  refine v_iload_n dX11_deedOf_15 rfl ?_
  refine v_imul dX11_deedOf_16 ?_
  refine v_iadd dX11_deedOf_17 ?_
  refine v_iload_n dX11_deedOf_18 rfl ?_
  refine v_iadd dX11_deedOf_19 ?_
  refine v_if (fun h2 => ?_)
  refine v_iaload h2 dX11_deedOf_20 ?_
  exact v_ireturn dX11_deedOf_21 rfl rfl
theorem chX11_hasNights_0 : (cX11_hasNights.data.toList.drop 0).take 16 = [42, 27, 181, 1, 64, 42, 5, 27, 182, 1, 8, 172] := by decide +kernel
theorem dX11_hasNights_0 : decode cX11_hasNights 0 = .ok (.aload_n 0, 1) := oq_42 (byt chX11_hasNights_0 0 rfl)
theorem dX11_hasNights_1 : decode cX11_hasNights 1 = .ok (.iload_n 1, 1) := oq_27 (byt chX11_hasNights_0 1 rfl)
theorem dX11_hasNights_2 : decode cX11_hasNights 2 = .ok (.putfield 320, 3) := oq_181 (byt chX11_hasNights_0 2 rfl) (byt chX11_hasNights_0 3 rfl) (byt chX11_hasNights_0 4 rfl) rfl
theorem dX11_hasNights_5 : decode cX11_hasNights 5 = .ok (.aload_n 0, 1) := oq_42 (byt chX11_hasNights_0 5 rfl)
theorem dX11_hasNights_6 : decode cX11_hasNights 6 = .ok (.iconst 2, 1) := oq_5 (byt chX11_hasNights_0 6 rfl)
theorem dX11_hasNights_7 : decode cX11_hasNights 7 = .ok (.iload_n 1, 1) := oq_27 (byt chX11_hasNights_0 7 rfl)
theorem dX11_hasNights_8 : decode cX11_hasNights 8 = .ok (.invokevirtual 264, 3) := oq_182 (byt chX11_hasNights_0 8 rfl) (byt chX11_hasNights_0 9 rfl) (byt chX11_hasNights_0 10 rfl) rfl
theorem dX11_hasNights_11 : decode cX11_hasNights 11 = .ok (.ireturn, 1) := oq_172 (byt chX11_hasNights_0 11 rfl)
abbrev mX11_hasNights : MI := (yX11_hasNights, cX11_hasNights, 2, (some .boolean), noE)
theorem okX11_hasNights : cok mX11_hasNights 1 := ⟨tw1557, tw11, by decide, by decide, by decide, by decide +kernel⟩
def fX11_hasNights (M : Mem) (a0 a1 : Int) : Option (Int × Mem) :=
  if M.2.1 a0 = 10 then bM (mst M a0 28 a1) fun M2 => (fX11_is M2 a0 2 a1).bind fun r4 => if r4 = 0 ∨ r4 = 1 then some (r4, M2) else none else none
set_option maxRecDepth 100000 in
set_option maxHeartbeats 4000000 in
theorem kX11_hasNights (d : Nat) (hd : 2 ≤ d) (M : Mem) (a0 a1 : Int) : Ct mX11_hasNights d 0 0 [pA a0, pI a1] M dIM (fX11_hasNights M a0 a1) := by
  obtain ⟨d, rfl⟩ : ∃ k, d = k + 1 := ⟨d - 1, by omega⟩
  refine Ct.of 0 (fun _ _ _ => trivial) (by decide +kernel) rfl ?_
  unfold fX11_hasNights
  refine v_aload_n dX11_hasNights_0 rfl ?_
  refine v_iload_n dX11_hasNights_1 rfl ?_
  refine v_if (fun h1 => ?_)
  refine v_put (x := a1) 10 28 rfl inX11 (by decide) tw1221 (Or.inl rfl) rfl dX11_hasNights_2 h1 rfl id ?_
  refine v_bM (fun M2 e3 => ?_)
  refine v_aload_n dX11_hasNights_5 rfl ?_
  refine v_iconst dX11_hasNights_6 (by decide) ?_
  refine v_iload_n dX11_hasNights_7 rfl ?_
  refine v_cV (mi := mX11_hasNights) (c0 := 0) (c1 := 0) (As := [pI 2, pI a1]) (st := []) (kX11_is d (by omega) _ _ _ _) rfl (by rw [e3]; exact h1) rfl okX11_is (Or.inl tw1367) tw1369 tp28 rfl (Nat.le_of_ble_eq_true rfl) dX11_hasNights_8 (fun r4 => [pI r4]) (fun r4 => M2) (fun _ => rfl) (fun _ => rfl) (fun r4 h5 => ?_) rfl
  refine v_if (fun h6 => ?_)
  exact v_breturn dX11_hasNights_11 rfl h6 rfl
theorem chX11_deed_0 : (cX11_deed.data.toList.drop 0).take 16 = [42, 3, 181, 0, 90, 42, 27, 182, 1, 67, 154, 0, 6, 16, 254, 172] := by decide +kernel
theorem chX11_deed_1 : (cX11_deed.data.toList.drop 16).take 16 = [28, 2, 160, 0, 17, 29, 154, 0, 10, 42, 182, 1, 70, 167, 0, 5] := by decide +kernel
theorem chX11_deed_2 : (cX11_deed.data.toList.drop 32).take 16 = [16, 254, 172, 28, 3, 42, 182, 1, 70, 4, 100, 184, 0, 98, 153, 0] := by decide +kernel
theorem chX11_deed_3 : (cX11_deed.data.toList.drop 48).take 16 = [21, 29, 3, 6, 184, 0, 98, 153, 0, 12, 42, 28, 29, 182, 1, 73] := by decide +kernel
theorem chX11_deed_4 : (cX11_deed.data.toList.drop 64).take 16 = [167, 0, 5, 16, 254, 172] := by decide +kernel
theorem dX11_deed_0 : decode cX11_deed 0 = .ok (.aload_n 0, 1) := oq_42 (byt chX11_deed_0 0 rfl)
theorem dX11_deed_1 : decode cX11_deed 1 = .ok (.iconst 0, 1) := oq_3 (byt chX11_deed_0 1 rfl)
theorem dX11_deed_2 : decode cX11_deed 2 = .ok (.putfield 90, 3) := oq_181 (byt chX11_deed_0 2 rfl) (byt chX11_deed_0 3 rfl) (byt chX11_deed_0 4 rfl) rfl
theorem dX11_deed_5 : decode cX11_deed 5 = .ok (.aload_n 0, 1) := oq_42 (byt chX11_deed_0 5 rfl)
theorem dX11_deed_6 : decode cX11_deed 6 = .ok (.iload_n 1, 1) := oq_27 (byt chX11_deed_0 6 rfl)
theorem dX11_deed_7 : decode cX11_deed 7 = .ok (.invokevirtual 323, 3) := oq_182 (byt chX11_deed_0 7 rfl) (byt chX11_deed_0 8 rfl) (byt chX11_deed_0 9 rfl) rfl
theorem dX11_deed_10 : decode cX11_deed 10 = .ok (.ifCond .ne 6, 3) := oq_154 (byt chX11_deed_0 10 rfl) (byt chX11_deed_0 11 rfl) (byt chX11_deed_0 12 rfl) (by decide +kernel)
theorem dX11_deed_13 : decode cX11_deed 13 = .ok (.bipush (-2), 2) := oq_16 (byt chX11_deed_0 13 rfl) (byt chX11_deed_0 14 rfl) rfl
theorem dX11_deed_15 : decode cX11_deed 15 = .ok (.ireturn, 1) := oq_172 (byt chX11_deed_0 15 rfl)
theorem dX11_deed_16 : decode cX11_deed 16 = .ok (.iload_n 2, 1) := oq_28 (byt chX11_deed_1 0 rfl)
theorem dX11_deed_17 : decode cX11_deed 17 = .ok (.iconst (-1), 1) := oq_2 (byt chX11_deed_1 1 rfl)
theorem dX11_deed_18 : decode cX11_deed 18 = .ok (.if_icmp .ne 17, 3) := oq_160 (byt chX11_deed_1 2 rfl) (byt chX11_deed_1 3 rfl) (byt chX11_deed_1 4 rfl) (by decide +kernel)
theorem dX11_deed_21 : decode cX11_deed 21 = .ok (.iload_n 3, 1) := oq_29 (byt chX11_deed_1 5 rfl)
theorem dX11_deed_22 : decode cX11_deed 22 = .ok (.ifCond .ne 10, 3) := oq_154 (byt chX11_deed_1 6 rfl) (byt chX11_deed_1 7 rfl) (byt chX11_deed_1 8 rfl) (by decide +kernel)
theorem dX11_deed_25 : decode cX11_deed 25 = .ok (.aload_n 0, 1) := oq_42 (byt chX11_deed_1 9 rfl)
theorem dX11_deed_26 : decode cX11_deed 26 = .ok (.invokevirtual 326, 3) := oq_182 (byt chX11_deed_1 10 rfl) (byt chX11_deed_1 11 rfl) (byt chX11_deed_1 12 rfl) rfl
theorem dX11_deed_29 : decode cX11_deed 29 = .ok (.goto 5, 3) := oq_167 (byt chX11_deed_1 13 rfl) (byt chX11_deed_1 14 rfl) (byt chX11_deed_1 15 rfl) (by decide +kernel)
theorem dX11_deed_32 : decode cX11_deed 32 = .ok (.bipush (-2), 2) := oq_16 (byt chX11_deed_2 0 rfl) (byt chX11_deed_2 1 rfl) rfl
theorem dX11_deed_34 : decode cX11_deed 34 = .ok (.ireturn, 1) := oq_172 (byt chX11_deed_2 2 rfl)
theorem dX11_deed_35 : decode cX11_deed 35 = .ok (.iload_n 2, 1) := oq_28 (byt chX11_deed_2 3 rfl)
theorem dX11_deed_36 : decode cX11_deed 36 = .ok (.iconst 0, 1) := oq_3 (byt chX11_deed_2 4 rfl)
theorem dX11_deed_37 : decode cX11_deed 37 = .ok (.aload_n 0, 1) := oq_42 (byt chX11_deed_2 5 rfl)
theorem dX11_deed_38 : decode cX11_deed 38 = .ok (.invokevirtual 326, 3) := oq_182 (byt chX11_deed_2 6 rfl) (byt chX11_deed_2 7 rfl) (byt chX11_deed_2 8 rfl) rfl
theorem dX11_deed_41 : decode cX11_deed 41 = .ok (.iconst 1, 1) := oq_4 (byt chX11_deed_2 9 rfl)
theorem dX11_deed_42 : decode cX11_deed 42 = .ok (.isub, 1) := oq_100 (byt chX11_deed_2 10 rfl)
theorem dX11_deed_43 : decode cX11_deed 43 = .ok (.invokestatic 98, 3) := oq_184 (byt chX11_deed_2 11 rfl) (byt chX11_deed_2 12 rfl) (byt chX11_deed_2 13 rfl) rfl
theorem dX11_deed_46 : decode cX11_deed 46 = .ok (.ifCond .eq 21, 3) := oq_153 (byt chX11_deed_2 14 rfl) (byt chX11_deed_2 15 rfl) (byt chX11_deed_3 0 rfl) (by decide +kernel)
theorem dX11_deed_49 : decode cX11_deed 49 = .ok (.iload_n 3, 1) := oq_29 (byt chX11_deed_3 1 rfl)
theorem dX11_deed_50 : decode cX11_deed 50 = .ok (.iconst 0, 1) := oq_3 (byt chX11_deed_3 2 rfl)
theorem dX11_deed_51 : decode cX11_deed 51 = .ok (.iconst 3, 1) := oq_6 (byt chX11_deed_3 3 rfl)
theorem dX11_deed_52 : decode cX11_deed 52 = .ok (.invokestatic 98, 3) := oq_184 (byt chX11_deed_3 4 rfl) (byt chX11_deed_3 5 rfl) (byt chX11_deed_3 6 rfl) rfl
theorem dX11_deed_55 : decode cX11_deed 55 = .ok (.ifCond .eq 12, 3) := oq_153 (byt chX11_deed_3 7 rfl) (byt chX11_deed_3 8 rfl) (byt chX11_deed_3 9 rfl) (by decide +kernel)
theorem dX11_deed_58 : decode cX11_deed 58 = .ok (.aload_n 0, 1) := oq_42 (byt chX11_deed_3 10 rfl)
theorem dX11_deed_59 : decode cX11_deed 59 = .ok (.iload_n 2, 1) := oq_28 (byt chX11_deed_3 11 rfl)
theorem dX11_deed_60 : decode cX11_deed 60 = .ok (.iload_n 3, 1) := oq_29 (byt chX11_deed_3 12 rfl)
theorem dX11_deed_61 : decode cX11_deed 61 = .ok (.invokevirtual 329, 3) := oq_182 (byt chX11_deed_3 13 rfl) (byt chX11_deed_3 14 rfl) (byt chX11_deed_3 15 rfl) rfl
theorem dX11_deed_64 : decode cX11_deed 64 = .ok (.goto 5, 3) := oq_167 (byt chX11_deed_4 0 rfl) (byt chX11_deed_4 1 rfl) (byt chX11_deed_4 2 rfl) (by decide +kernel)
theorem dX11_deed_67 : decode cX11_deed 67 = .ok (.bipush (-2), 2) := oq_16 (byt chX11_deed_4 3 rfl) (byt chX11_deed_4 4 rfl) rfl
theorem dX11_deed_69 : decode cX11_deed 69 = .ok (.ireturn, 1) := oq_172 (byt chX11_deed_4 5 rfl)
abbrev mX11_deed : MI := (yX11_deed, cX11_deed, 4, (some .int), noE)
theorem okX11_deed : cok mX11_deed 3 := ⟨tw1553, tw11, by decide, by decide, by decide, by decide +kernel⟩
def fX11_deed (M : Mem) (a0 a1 a2 a3 : Int) : Option (Int × Mem) :=
  if M.2.1 a0 = 10 then bM (mst M a0 0 0) fun M2 => (fX11_hasNights M2 a0 a1).bind fun r4 => if r4.1 = 0 then (some ((-2), r4.2)) else (if a2 = (-1) then (if a3 = 0 then (if r4.2.2.1 a0 = 10 then (fX11_deeds r4.2 a0).bind fun r9 => some (r9, r4.2) else none) else (some ((-2), r4.2))) else (if r4.2.2.1 a0 = 10 then (fX11_deeds r4.2 a0).bind fun r12 => (fX11_in r4.2 a2 0 (w32 (r12 - 1))).bind fun r15 => if r15 = 0 then (some ((-2), r4.2)) else ((fX11_in r4.2 a3 0 3).bind fun r18 => if r18 = 0 then (some ((-2), r4.2)) else ((fX11_deedOf r4.2 a0 a2 a3).bind fun r21 => some (r21, r4.2))) else none)) else none
set_option maxRecDepth 100000 in
set_option maxHeartbeats 4000000 in
theorem kX11_deed (d : Nat) (hd : 3 ≤ d) (M : Mem) (a0 a1 a2 a3 : Int) : Ct mX11_deed d 0 0 [pA a0, pI a1, pI a2, pI a3] M dIM (fX11_deed M a0 a1 a2 a3) := by
  obtain ⟨d, rfl⟩ : ∃ k, d = k + 1 := ⟨d - 1, by omega⟩
  refine Ct.of 0 (fun _ _ _ => trivial) (by decide +kernel) rfl ?_
  unfold fX11_deed
  refine v_aload_n dX11_deed_0 rfl ?_
  refine v_iconst dX11_deed_1 (by decide) ?_
  refine v_if (fun h1 => ?_)
  refine v_put (x := 0) 10 0 rfl inX11 (by decide) tw1193 (Or.inl rfl) rfl dX11_deed_2 h1 rfl id ?_
  refine v_bM (fun M2 e3 => ?_)
  refine v_aload_n dX11_deed_5 rfl ?_
  refine v_iload_n dX11_deed_6 rfl ?_
  refine v_cV (mi := mX11_deed) (c0 := 0) (c1 := 0) (As := [pI a1]) (st := []) (kX11_hasNights d (by omega) _ _ _) rfl (by rw [e3]; exact h1) rfl okX11_hasNights (Or.inl tw1554) tw1556 tp63 rfl (Nat.le_of_ble_eq_true rfl) dX11_deed_7 (fun r4 => [pI r4.1]) (fun r4 => r4.2) (fun _ => rfl) (fun _ => rfl) (fun r4 h5 => ?_) rfl
  refine v_if_ne (tgt := 16) dX11_deed_10 (by decide) (fun c6 => ?_) (fun c6 => ?_)
  · refine v_bipush dX11_deed_13 (by decide) ?_
    exact v_ireturn dX11_deed_15 rfl rfl
  · refine v_iload_n dX11_deed_16 rfl ?_
    refine v_iconst dX11_deed_17 (by decide) ?_
    refine v_icmp_ne (tgt := 35) dX11_deed_18 (by decide) (fun c7 => ?_) (fun c7 => ?_)
    · refine v_iload_n dX11_deed_21 rfl ?_
      refine v_if_ne (tgt := 32) dX11_deed_22 (by decide) (fun c8 => ?_) (fun c8 => ?_)
      · refine v_aload_n dX11_deed_25 rfl ?_
        refine v_if (fun h11 => ?_)
        refine v_cV (mi := mX11_deed) (c0 := 0) (c1 := 0) (As := []) (st := []) (kX11_deeds d (by omega) _ _) rfl h11 rfl okX11_deeds (Or.inl tw1558) tw1560 tp64 rfl (Nat.le_of_ble_eq_true rfl) dX11_deed_26 (fun r9 => [pI r9]) (fun r9 => r4.2) (fun _ => rfl) (fun _ => rfl) (fun r9 h10 => ?_) rfl
        refine v_goto (tgt := 34) dX11_deed_29 (by decide) ?_
        exact v_ireturn dX11_deed_34 rfl rfl
      · refine v_bipush dX11_deed_32 (by decide) ?_
        exact v_ireturn dX11_deed_34 rfl rfl
    · refine v_iload_n dX11_deed_35 rfl ?_
      refine v_iconst dX11_deed_36 (by decide) ?_
      refine v_aload_n dX11_deed_37 rfl ?_
      refine v_if (fun h14 => ?_)
      refine v_cV (mi := mX11_deed) (c0 := 0) (c1 := 0) (As := []) (st := [pI 0, pI a2]) (kX11_deeds d (by omega) _ _) rfl h14 rfl okX11_deeds (Or.inl tw1558) tw1560 tp64 rfl (Nat.le_of_ble_eq_true rfl) dX11_deed_38 (fun r12 => [pI r12, pI 0, pI a2]) (fun r12 => r4.2) (fun _ => rfl) (fun _ => rfl) (fun r12 h13 => ?_) rfl
      refine v_iconst dX11_deed_41 (by decide) ?_
      refine v_isub dX11_deed_42 ?_
      refine v_cS (mi := mX11_deed) (c0 := 0) (c1 := 0) (As := [pI a2, pI 0, pI (w32 (r12 - 1))]) (st := []) (kX11_in d (by omega) _ _ _ _) okX11_in (Or.inl tw1360) tw1361 rfl (Nat.le_of_ble_eq_true rfl) dX11_deed_43 (fun r15 => [pI r15]) (fun r15 => r4.2) (fun _ => rfl) (fun _ => rfl) (fun r15 h16 => ?_) rfl
      refine v_if_eq (tgt := 67) dX11_deed_46 (by decide) (fun c17 => ?_) (fun c17 => ?_)
      · refine v_bipush dX11_deed_67 (by decide) ?_
        exact v_ireturn dX11_deed_69 rfl rfl
      · refine v_iload_n dX11_deed_49 rfl ?_
        refine v_iconst dX11_deed_50 (by decide) ?_
        refine v_iconst dX11_deed_51 (by decide) ?_
        refine v_cS (mi := mX11_deed) (c0 := 0) (c1 := 0) (As := [pI a3, pI 0, pI 3]) (st := []) (kX11_in d (by omega) _ _ _ _) okX11_in (Or.inl tw1360) tw1361 rfl (Nat.le_of_ble_eq_true rfl) dX11_deed_52 (fun r18 => [pI r18]) (fun r18 => r4.2) (fun _ => rfl) (fun _ => rfl) (fun r18 h19 => ?_) rfl
        refine v_if_eq (tgt := 67) dX11_deed_55 (by decide) (fun c20 => ?_) (fun c20 => ?_)
        · refine v_bipush dX11_deed_67 (by decide) ?_
          exact v_ireturn dX11_deed_69 rfl rfl
        · refine v_aload_n dX11_deed_58 rfl ?_
          refine v_iload_n dX11_deed_59 rfl ?_
          refine v_iload_n dX11_deed_60 rfl ?_
          refine v_cV (mi := mX11_deed) (c0 := 0) (c1 := 0) (As := [pI a2, pI a3]) (st := []) (kX11_deedOf d (by omega) _ _ _ _) rfl h14 rfl okX11_deedOf (Or.inl tw1562) tw1564 tp65 rfl (Nat.le_of_ble_eq_true rfl) dX11_deed_61 (fun r21 => [pI r21]) (fun r21 => r4.2) (fun _ => rfl) (fun _ => rfl) (fun r21 h22 => ?_) rfl
          refine v_goto (tgt := 69) dX11_deed_64 (by decide) ?_
          exact v_ireturn dX11_deed_69 rfl rfl
theorem chX11_begin_0 : (cX11_begin.data.toList.drop 0).take 16 = [3, 60, 27, 16, 30, 162, 0, 22, 42, 180, 0, 44, 27, 42, 5, 27] := by decide +kernel
theorem chX11_begin_1 : (cX11_begin.data.toList.drop 16).take 16 = [96, 182, 1, 21, 79, 132, 1, 1, 167, 255, 234, 3, 60, 27, 16, 20] := by decide +kernel
theorem chX11_begin_2 : (cX11_begin.data.toList.drop 32).take 16 = [162, 0, 16, 42, 180, 0, 47, 27, 3, 79, 132, 1, 1, 167, 255, 240] := by decide +kernel
theorem chX11_begin_3 : (cX11_begin.data.toList.drop 48).take 16 = [3, 60, 27, 16, 120, 162, 0, 23, 42, 180, 0, 50, 27, 3, 79, 42] := by decide +kernel
theorem chX11_begin_4 : (cX11_begin.data.toList.drop 64).take 16 = [180, 0, 53, 27, 3, 79, 132, 1, 1, 167, 255, 233, 3, 60, 27, 7] := by decide +kernel
theorem chX11_begin_5 : (cX11_begin.data.toList.drop 80).take 16 = [162, 0, 51, 42, 180, 0, 56, 27, 3, 79, 42, 180, 0, 59, 27, 3] := by decide +kernel
theorem chX11_begin_6 : (cX11_begin.data.toList.drop 96).take 16 = [79, 42, 180, 0, 62, 27, 3, 79, 42, 180, 0, 65, 27, 3, 79, 42] := by decide +kernel
theorem chX11_begin_7 : (cX11_begin.data.toList.drop 112).take 16 = [180, 0, 68, 27, 3, 79, 42, 180, 0, 71, 27, 2, 79, 132, 1, 1] := by decide +kernel
theorem chX11_begin_8 : (cX11_begin.data.toList.drop 128).take 16 = [167, 255, 206, 3, 60, 27, 16, 6, 162, 0, 16, 42, 180, 0, 74, 27] := by decide +kernel
theorem chX11_begin_9 : (cX11_begin.data.toList.drop 144).take 16 = [3, 79, 132, 1, 1, 167, 255, 240, 42, 3, 181, 1, 76, 42, 3, 181] := by decide +kernel
theorem chX11_begin_10 : (cX11_begin.data.toList.drop 160).take 16 = [1, 79, 42, 3, 181, 1, 82, 177] := by decide +kernel
theorem dX11_begin_0 : decode cX11_begin 0 = .ok (.iconst 0, 1) := oq_3 (byt chX11_begin_0 0 rfl)
theorem dX11_begin_1 : decode cX11_begin 1 = .ok (.istore_n 1, 1) := oq_60 (byt chX11_begin_0 1 rfl)
theorem dX11_begin_2 : decode cX11_begin 2 = .ok (.iload_n 1, 1) := oq_27 (byt chX11_begin_0 2 rfl)
theorem dX11_begin_3 : decode cX11_begin 3 = .ok (.bipush 30, 2) := oq_16 (byt chX11_begin_0 3 rfl) (byt chX11_begin_0 4 rfl) rfl
theorem dX11_begin_5 : decode cX11_begin 5 = .ok (.if_icmp .ge 22, 3) := oq_162 (byt chX11_begin_0 5 rfl) (byt chX11_begin_0 6 rfl) (byt chX11_begin_0 7 rfl) (by decide +kernel)
theorem dX11_begin_8 : decode cX11_begin 8 = .ok (.aload_n 0, 1) := oq_42 (byt chX11_begin_0 8 rfl)
theorem dX11_begin_9 : decode cX11_begin 9 = .ok (.getfield 44, 3) := oq_180 (byt chX11_begin_0 9 rfl) (byt chX11_begin_0 10 rfl) (byt chX11_begin_0 11 rfl) rfl
theorem dX11_begin_12 : decode cX11_begin 12 = .ok (.iload_n 1, 1) := oq_27 (byt chX11_begin_0 12 rfl)
theorem dX11_begin_13 : decode cX11_begin 13 = .ok (.aload_n 0, 1) := oq_42 (byt chX11_begin_0 13 rfl)
theorem dX11_begin_14 : decode cX11_begin 14 = .ok (.iconst 2, 1) := oq_5 (byt chX11_begin_0 14 rfl)
theorem dX11_begin_15 : decode cX11_begin 15 = .ok (.iload_n 1, 1) := oq_27 (byt chX11_begin_0 15 rfl)
theorem dX11_begin_16 : decode cX11_begin 16 = .ok (.iadd, 1) := oq_96 (byt chX11_begin_1 0 rfl)
theorem dX11_begin_17 : decode cX11_begin 17 = .ok (.invokevirtual 277, 3) := oq_182 (byt chX11_begin_1 1 rfl) (byt chX11_begin_1 2 rfl) (byt chX11_begin_1 3 rfl) rfl
theorem dX11_begin_20 : decode cX11_begin 20 = .ok (.iastore, 1) := oq_79 (byt chX11_begin_1 4 rfl)
theorem dX11_begin_21 : decode cX11_begin 21 = .ok (.iinc 1 1, 3) := oq_132 (byt chX11_begin_1 5 rfl) (byt chX11_begin_1 6 rfl) (byt chX11_begin_1 7 rfl) rfl
theorem dX11_begin_24 : decode cX11_begin 24 = .ok (.goto (-22), 3) := oq_167 (byt chX11_begin_1 8 rfl) (byt chX11_begin_1 9 rfl) (byt chX11_begin_1 10 rfl) (by decide +kernel)
theorem dX11_begin_27 : decode cX11_begin 27 = .ok (.iconst 0, 1) := oq_3 (byt chX11_begin_1 11 rfl)
theorem dX11_begin_28 : decode cX11_begin 28 = .ok (.istore_n 1, 1) := oq_60 (byt chX11_begin_1 12 rfl)
theorem dX11_begin_29 : decode cX11_begin 29 = .ok (.iload_n 1, 1) := oq_27 (byt chX11_begin_1 13 rfl)
theorem dX11_begin_30 : decode cX11_begin 30 = .ok (.bipush 20, 2) := oq_16 (byt chX11_begin_1 14 rfl) (byt chX11_begin_1 15 rfl) rfl
theorem dX11_begin_32 : decode cX11_begin 32 = .ok (.if_icmp .ge 16, 3) := oq_162 (byt chX11_begin_2 0 rfl) (byt chX11_begin_2 1 rfl) (byt chX11_begin_2 2 rfl) (by decide +kernel)
theorem dX11_begin_35 : decode cX11_begin 35 = .ok (.aload_n 0, 1) := oq_42 (byt chX11_begin_2 3 rfl)
theorem dX11_begin_36 : decode cX11_begin 36 = .ok (.getfield 47, 3) := oq_180 (byt chX11_begin_2 4 rfl) (byt chX11_begin_2 5 rfl) (byt chX11_begin_2 6 rfl) rfl
theorem dX11_begin_39 : decode cX11_begin 39 = .ok (.iload_n 1, 1) := oq_27 (byt chX11_begin_2 7 rfl)
theorem dX11_begin_40 : decode cX11_begin 40 = .ok (.iconst 0, 1) := oq_3 (byt chX11_begin_2 8 rfl)
theorem dX11_begin_41 : decode cX11_begin 41 = .ok (.iastore, 1) := oq_79 (byt chX11_begin_2 9 rfl)
theorem dX11_begin_42 : decode cX11_begin 42 = .ok (.iinc 1 1, 3) := oq_132 (byt chX11_begin_2 10 rfl) (byt chX11_begin_2 11 rfl) (byt chX11_begin_2 12 rfl) rfl
theorem dX11_begin_45 : decode cX11_begin 45 = .ok (.goto (-16), 3) := oq_167 (byt chX11_begin_2 13 rfl) (byt chX11_begin_2 14 rfl) (byt chX11_begin_2 15 rfl) (by decide +kernel)
theorem dX11_begin_48 : decode cX11_begin 48 = .ok (.iconst 0, 1) := oq_3 (byt chX11_begin_3 0 rfl)
theorem dX11_begin_49 : decode cX11_begin 49 = .ok (.istore_n 1, 1) := oq_60 (byt chX11_begin_3 1 rfl)
theorem dX11_begin_50 : decode cX11_begin 50 = .ok (.iload_n 1, 1) := oq_27 (byt chX11_begin_3 2 rfl)
theorem dX11_begin_51 : decode cX11_begin 51 = .ok (.bipush 120, 2) := oq_16 (byt chX11_begin_3 3 rfl) (byt chX11_begin_3 4 rfl) rfl
theorem dX11_begin_53 : decode cX11_begin 53 = .ok (.if_icmp .ge 23, 3) := oq_162 (byt chX11_begin_3 5 rfl) (byt chX11_begin_3 6 rfl) (byt chX11_begin_3 7 rfl) (by decide +kernel)
theorem dX11_begin_56 : decode cX11_begin 56 = .ok (.aload_n 0, 1) := oq_42 (byt chX11_begin_3 8 rfl)
theorem dX11_begin_57 : decode cX11_begin 57 = .ok (.getfield 50, 3) := oq_180 (byt chX11_begin_3 9 rfl) (byt chX11_begin_3 10 rfl) (byt chX11_begin_3 11 rfl) rfl
theorem dX11_begin_60 : decode cX11_begin 60 = .ok (.iload_n 1, 1) := oq_27 (byt chX11_begin_3 12 rfl)
theorem dX11_begin_61 : decode cX11_begin 61 = .ok (.iconst 0, 1) := oq_3 (byt chX11_begin_3 13 rfl)
theorem dX11_begin_62 : decode cX11_begin 62 = .ok (.iastore, 1) := oq_79 (byt chX11_begin_3 14 rfl)
theorem dX11_begin_63 : decode cX11_begin 63 = .ok (.aload_n 0, 1) := oq_42 (byt chX11_begin_3 15 rfl)
theorem dX11_begin_64 : decode cX11_begin 64 = .ok (.getfield 53, 3) := oq_180 (byt chX11_begin_4 0 rfl) (byt chX11_begin_4 1 rfl) (byt chX11_begin_4 2 rfl) rfl
theorem dX11_begin_67 : decode cX11_begin 67 = .ok (.iload_n 1, 1) := oq_27 (byt chX11_begin_4 3 rfl)
theorem dX11_begin_68 : decode cX11_begin 68 = .ok (.iconst 0, 1) := oq_3 (byt chX11_begin_4 4 rfl)
theorem dX11_begin_69 : decode cX11_begin 69 = .ok (.iastore, 1) := oq_79 (byt chX11_begin_4 5 rfl)
theorem dX11_begin_70 : decode cX11_begin 70 = .ok (.iinc 1 1, 3) := oq_132 (byt chX11_begin_4 6 rfl) (byt chX11_begin_4 7 rfl) (byt chX11_begin_4 8 rfl) rfl
theorem dX11_begin_73 : decode cX11_begin 73 = .ok (.goto (-23), 3) := oq_167 (byt chX11_begin_4 9 rfl) (byt chX11_begin_4 10 rfl) (byt chX11_begin_4 11 rfl) (by decide +kernel)
theorem dX11_begin_76 : decode cX11_begin 76 = .ok (.iconst 0, 1) := oq_3 (byt chX11_begin_4 12 rfl)
theorem dX11_begin_77 : decode cX11_begin 77 = .ok (.istore_n 1, 1) := oq_60 (byt chX11_begin_4 13 rfl)
theorem dX11_begin_78 : decode cX11_begin 78 = .ok (.iload_n 1, 1) := oq_27 (byt chX11_begin_4 14 rfl)
theorem dX11_begin_79 : decode cX11_begin 79 = .ok (.iconst 4, 1) := oq_7 (byt chX11_begin_4 15 rfl)
theorem dX11_begin_80 : decode cX11_begin 80 = .ok (.if_icmp .ge 51, 3) := oq_162 (byt chX11_begin_5 0 rfl) (byt chX11_begin_5 1 rfl) (byt chX11_begin_5 2 rfl) (by decide +kernel)
theorem dX11_begin_83 : decode cX11_begin 83 = .ok (.aload_n 0, 1) := oq_42 (byt chX11_begin_5 3 rfl)
theorem dX11_begin_84 : decode cX11_begin 84 = .ok (.getfield 56, 3) := oq_180 (byt chX11_begin_5 4 rfl) (byt chX11_begin_5 5 rfl) (byt chX11_begin_5 6 rfl) rfl
theorem dX11_begin_87 : decode cX11_begin 87 = .ok (.iload_n 1, 1) := oq_27 (byt chX11_begin_5 7 rfl)
theorem dX11_begin_88 : decode cX11_begin 88 = .ok (.iconst 0, 1) := oq_3 (byt chX11_begin_5 8 rfl)
theorem dX11_begin_89 : decode cX11_begin 89 = .ok (.iastore, 1) := oq_79 (byt chX11_begin_5 9 rfl)
theorem dX11_begin_90 : decode cX11_begin 90 = .ok (.aload_n 0, 1) := oq_42 (byt chX11_begin_5 10 rfl)
theorem dX11_begin_91 : decode cX11_begin 91 = .ok (.getfield 59, 3) := oq_180 (byt chX11_begin_5 11 rfl) (byt chX11_begin_5 12 rfl) (byt chX11_begin_5 13 rfl) rfl
theorem dX11_begin_94 : decode cX11_begin 94 = .ok (.iload_n 1, 1) := oq_27 (byt chX11_begin_5 14 rfl)
theorem dX11_begin_95 : decode cX11_begin 95 = .ok (.iconst 0, 1) := oq_3 (byt chX11_begin_5 15 rfl)
theorem dX11_begin_96 : decode cX11_begin 96 = .ok (.iastore, 1) := oq_79 (byt chX11_begin_6 0 rfl)
theorem dX11_begin_97 : decode cX11_begin 97 = .ok (.aload_n 0, 1) := oq_42 (byt chX11_begin_6 1 rfl)
theorem dX11_begin_98 : decode cX11_begin 98 = .ok (.getfield 62, 3) := oq_180 (byt chX11_begin_6 2 rfl) (byt chX11_begin_6 3 rfl) (byt chX11_begin_6 4 rfl) rfl
theorem dX11_begin_101 : decode cX11_begin 101 = .ok (.iload_n 1, 1) := oq_27 (byt chX11_begin_6 5 rfl)
theorem dX11_begin_102 : decode cX11_begin 102 = .ok (.iconst 0, 1) := oq_3 (byt chX11_begin_6 6 rfl)
theorem dX11_begin_103 : decode cX11_begin 103 = .ok (.iastore, 1) := oq_79 (byt chX11_begin_6 7 rfl)
theorem dX11_begin_104 : decode cX11_begin 104 = .ok (.aload_n 0, 1) := oq_42 (byt chX11_begin_6 8 rfl)
theorem dX11_begin_105 : decode cX11_begin 105 = .ok (.getfield 65, 3) := oq_180 (byt chX11_begin_6 9 rfl) (byt chX11_begin_6 10 rfl) (byt chX11_begin_6 11 rfl) rfl
theorem dX11_begin_108 : decode cX11_begin 108 = .ok (.iload_n 1, 1) := oq_27 (byt chX11_begin_6 12 rfl)
theorem dX11_begin_109 : decode cX11_begin 109 = .ok (.iconst 0, 1) := oq_3 (byt chX11_begin_6 13 rfl)
theorem dX11_begin_110 : decode cX11_begin 110 = .ok (.iastore, 1) := oq_79 (byt chX11_begin_6 14 rfl)
theorem dX11_begin_111 : decode cX11_begin 111 = .ok (.aload_n 0, 1) := oq_42 (byt chX11_begin_6 15 rfl)
theorem dX11_begin_112 : decode cX11_begin 112 = .ok (.getfield 68, 3) := oq_180 (byt chX11_begin_7 0 rfl) (byt chX11_begin_7 1 rfl) (byt chX11_begin_7 2 rfl) rfl
theorem dX11_begin_115 : decode cX11_begin 115 = .ok (.iload_n 1, 1) := oq_27 (byt chX11_begin_7 3 rfl)
theorem dX11_begin_116 : decode cX11_begin 116 = .ok (.iconst 0, 1) := oq_3 (byt chX11_begin_7 4 rfl)
theorem dX11_begin_117 : decode cX11_begin 117 = .ok (.iastore, 1) := oq_79 (byt chX11_begin_7 5 rfl)
theorem dX11_begin_118 : decode cX11_begin 118 = .ok (.aload_n 0, 1) := oq_42 (byt chX11_begin_7 6 rfl)
theorem dX11_begin_119 : decode cX11_begin 119 = .ok (.getfield 71, 3) := oq_180 (byt chX11_begin_7 7 rfl) (byt chX11_begin_7 8 rfl) (byt chX11_begin_7 9 rfl) rfl
theorem dX11_begin_122 : decode cX11_begin 122 = .ok (.iload_n 1, 1) := oq_27 (byt chX11_begin_7 10 rfl)
theorem dX11_begin_123 : decode cX11_begin 123 = .ok (.iconst (-1), 1) := oq_2 (byt chX11_begin_7 11 rfl)
theorem dX11_begin_124 : decode cX11_begin 124 = .ok (.iastore, 1) := oq_79 (byt chX11_begin_7 12 rfl)
theorem dX11_begin_125 : decode cX11_begin 125 = .ok (.iinc 1 1, 3) := oq_132 (byt chX11_begin_7 13 rfl) (byt chX11_begin_7 14 rfl) (byt chX11_begin_7 15 rfl) rfl
theorem dX11_begin_128 : decode cX11_begin 128 = .ok (.goto (-50), 3) := oq_167 (byt chX11_begin_8 0 rfl) (byt chX11_begin_8 1 rfl) (byt chX11_begin_8 2 rfl) (by decide +kernel)
theorem dX11_begin_131 : decode cX11_begin 131 = .ok (.iconst 0, 1) := oq_3 (byt chX11_begin_8 3 rfl)
theorem dX11_begin_132 : decode cX11_begin 132 = .ok (.istore_n 1, 1) := oq_60 (byt chX11_begin_8 4 rfl)
theorem dX11_begin_133 : decode cX11_begin 133 = .ok (.iload_n 1, 1) := oq_27 (byt chX11_begin_8 5 rfl)
theorem dX11_begin_134 : decode cX11_begin 134 = .ok (.bipush 6, 2) := oq_16 (byt chX11_begin_8 6 rfl) (byt chX11_begin_8 7 rfl) rfl
theorem dX11_begin_136 : decode cX11_begin 136 = .ok (.if_icmp .ge 16, 3) := oq_162 (byt chX11_begin_8 8 rfl) (byt chX11_begin_8 9 rfl) (byt chX11_begin_8 10 rfl) (by decide +kernel)
theorem dX11_begin_139 : decode cX11_begin 139 = .ok (.aload_n 0, 1) := oq_42 (byt chX11_begin_8 11 rfl)
theorem dX11_begin_140 : decode cX11_begin 140 = .ok (.getfield 74, 3) := oq_180 (byt chX11_begin_8 12 rfl) (byt chX11_begin_8 13 rfl) (byt chX11_begin_8 14 rfl) rfl
theorem dX11_begin_143 : decode cX11_begin 143 = .ok (.iload_n 1, 1) := oq_27 (byt chX11_begin_8 15 rfl)
theorem dX11_begin_144 : decode cX11_begin 144 = .ok (.iconst 0, 1) := oq_3 (byt chX11_begin_9 0 rfl)
theorem dX11_begin_145 : decode cX11_begin 145 = .ok (.iastore, 1) := oq_79 (byt chX11_begin_9 1 rfl)
theorem dX11_begin_146 : decode cX11_begin 146 = .ok (.iinc 1 1, 3) := oq_132 (byt chX11_begin_9 2 rfl) (byt chX11_begin_9 3 rfl) (byt chX11_begin_9 4 rfl) rfl
theorem dX11_begin_149 : decode cX11_begin 149 = .ok (.goto (-16), 3) := oq_167 (byt chX11_begin_9 5 rfl) (byt chX11_begin_9 6 rfl) (byt chX11_begin_9 7 rfl) (by decide +kernel)
theorem dX11_begin_152 : decode cX11_begin 152 = .ok (.aload_n 0, 1) := oq_42 (byt chX11_begin_9 8 rfl)
theorem dX11_begin_153 : decode cX11_begin 153 = .ok (.iconst 0, 1) := oq_3 (byt chX11_begin_9 9 rfl)
theorem dX11_begin_154 : decode cX11_begin 154 = .ok (.putfield 332, 3) := oq_181 (byt chX11_begin_9 10 rfl) (byt chX11_begin_9 11 rfl) (byt chX11_begin_9 12 rfl) rfl
theorem dX11_begin_157 : decode cX11_begin 157 = .ok (.aload_n 0, 1) := oq_42 (byt chX11_begin_9 13 rfl)
theorem dX11_begin_158 : decode cX11_begin 158 = .ok (.iconst 0, 1) := oq_3 (byt chX11_begin_9 14 rfl)
theorem dX11_begin_159 : decode cX11_begin 159 = .ok (.putfield 335, 3) := oq_181 (byt chX11_begin_9 15 rfl) (byt chX11_begin_10 0 rfl) (byt chX11_begin_10 1 rfl) rfl
theorem dX11_begin_162 : decode cX11_begin 162 = .ok (.aload_n 0, 1) := oq_42 (byt chX11_begin_10 2 rfl)
theorem dX11_begin_163 : decode cX11_begin 163 = .ok (.iconst 0, 1) := oq_3 (byt chX11_begin_10 3 rfl)
theorem dX11_begin_164 : decode cX11_begin 164 = .ok (.putfield 338, 3) := oq_181 (byt chX11_begin_10 4 rfl) (byt chX11_begin_10 5 rfl) (byt chX11_begin_10 6 rfl) rfl
theorem dX11_begin_167 : decode cX11_begin 167 = .ok (.return_, 1) := oq_177 (byt chX11_begin_10 7 rfl)
abbrev mX11_begin : MI := (yX11_begin, cX11_begin, 2, none, noE)
theorem okX11_begin : cok mX11_begin 0 := ⟨tw1581, tw11, by decide, by decide, by decide, by decide +kernel⟩
def fX11_begin (M : Mem) (a0 : Int) : Option Mem :=
  iterC (fun (rec1 : (Int × Mem) → Option Mem) (s2 : Int × Mem) => if s2.1 < 30 then (if s2.2.2.1 a0 = 10 then (fX11_of s2.2 a0 (w32 (2 + s2.1))).bind fun r5 => if s2.2.2.1 (s2.2.1 a0 29) = 12 ∧ (0 : Int) ≤ s2.1 ∧ s2.1 < s2.2.2.2.1 (s2.2.1 a0 29) then bM (mst s2.2 (s2.2.1 a0 29) s2.1 r5) fun M8 => rec1 (w32 (s2.1 + 1), M8) else none else none) else (iterC (fun (rec10 : (Int × Mem) → Option Mem) (s11 : Int × Mem) => if s11.1 < 20 then (if s11.2.2.1 a0 = 10 then if s11.2.2.1 (s11.2.1 a0 30) = 12 ∧ (0 : Int) ≤ s11.1 ∧ s11.1 < s11.2.2.2.1 (s11.2.1 a0 30) then bM (mst s11.2 (s11.2.1 a0 30) s11.1 0) fun M15 => rec10 (w32 (s11.1 + 1), M15) else none else none) else (iterC (fun (rec17 : (Int × Mem) → Option Mem) (s18 : Int × Mem) => if s18.1 < 120 then (if s18.2.2.1 a0 = 10 then if s18.2.2.1 (s18.2.1 a0 31) = 12 ∧ (0 : Int) ≤ s18.1 ∧ s18.1 < s18.2.2.2.1 (s18.2.1 a0 31) then bM (mst s18.2 (s18.2.1 a0 31) s18.1 0) fun M22 => if M22.2.1 (M22.1 a0 32) = 12 ∧ (0 : Int) ≤ s18.1 ∧ s18.1 < M22.2.2.1 (M22.1 a0 32) then bM (mst M22 (M22.1 a0 32) s18.1 0) fun M25 => rec17 (w32 (s18.1 + 1), M25) else none else none else none) else (iterC (fun (rec27 : (Int × Mem) → Option Mem) (s28 : Int × Mem) => if s28.1 < 4 then (if s28.2.2.1 a0 = 10 then if s28.2.2.1 (s28.2.1 a0 33) = 12 ∧ (0 : Int) ≤ s28.1 ∧ s28.1 < s28.2.2.2.1 (s28.2.1 a0 33) then bM (mst s28.2 (s28.2.1 a0 33) s28.1 0) fun M32 => if M32.2.1 (M32.1 a0 34) = 12 ∧ (0 : Int) ≤ s28.1 ∧ s28.1 < M32.2.2.1 (M32.1 a0 34) then bM (mst M32 (M32.1 a0 34) s28.1 0) fun M35 => if M35.2.1 (M35.1 a0 35) = 12 ∧ (0 : Int) ≤ s28.1 ∧ s28.1 < M35.2.2.1 (M35.1 a0 35) then bM (mst M35 (M35.1 a0 35) s28.1 0) fun M38 => if M38.2.1 (M38.1 a0 36) = 12 ∧ (0 : Int) ≤ s28.1 ∧ s28.1 < M38.2.2.1 (M38.1 a0 36) then bM (mst M38 (M38.1 a0 36) s28.1 0) fun M41 => if M41.2.1 (M41.1 a0 37) = 12 ∧ (0 : Int) ≤ s28.1 ∧ s28.1 < M41.2.2.1 (M41.1 a0 37) then bM (mst M41 (M41.1 a0 37) s28.1 0) fun M44 => if M44.2.1 (M44.1 a0 38) = 12 ∧ (0 : Int) ≤ s28.1 ∧ s28.1 < M44.2.2.1 (M44.1 a0 38) then bM (mst M44 (M44.1 a0 38) s28.1 (-1)) fun M47 => rec27 (w32 (s28.1 + 1), M47) else none else none else none else none else none else none else none) else (iterC (fun (rec49 : (Int × Mem) → Option Mem) (s50 : Int × Mem) => if s50.1 < 6 then (if s50.2.2.1 a0 = 10 then if s50.2.2.1 (s50.2.1 a0 39) = 12 ∧ (0 : Int) ≤ s50.1 ∧ s50.1 < s50.2.2.2.1 (s50.2.1 a0 39) then bM (mst s50.2 (s50.2.1 a0 39) s50.1 0) fun M54 => rec49 (w32 (s50.1 + 1), M54) else none else none) else (if s50.2.2.1 a0 = 10 then bM (mst s50.2 a0 40 0) fun M57 => bM (mst M57 a0 41 0) fun M59 => bM (mst M59 a0 42 0) fun M61 => some M61 else none)) BIG (0, s28.2))) BIG (0, s18.2))) BIG (0, s11.2))) BIG (0, s2.2))) BIG (0, M)
set_option maxRecDepth 100000 in
set_option maxHeartbeats 4000000 in
theorem kX11_begin (d : Nat) (hd : 1 ≤ d) (M : Mem) (a0 : Int) : Ct mX11_begin d 0 0 [pA a0] M dV (fX11_begin M a0) := by
  obtain ⟨d, rfl⟩ : ∃ k, d = k + 1 := ⟨d - 1, by omega⟩
  refine Ct.of 1 (fun _ _ _ => trivial) (by decide +kernel) rfl ?_
  unfold fX11_begin
  refine v_iconst dX11_begin_0 (by decide) ?_
  refine v_istore_n (ls' := [some (pA a0), some (pI 0)]) dX11_begin_1 (by decide) rfl ?_
  refine v_loop (fun (s2 : Int × Mem) => [some (pA a0), some (pI s2.1)]) (fun (s2 : Int × Mem) => s2.2) (s0 := (0, M)) ?_
  intro rec1 hrec1 s2
  refine v_iload_n dX11_begin_2 rfl ?_
  refine v_bipush dX11_begin_3 (by decide) ?_
  refine v_icmp_ge (tgt := 27) dX11_begin_5 (by decide) (fun c3 => ?_) (fun c3 => ?_)
  · refine v_aload_n dX11_begin_8 rfl ?_
    refine v_if (fun h4 => ?_)
    refine v_get (v := pA (s2.2.1 a0 29)) 10 29 rfl inX11 (by decide) tw1222 dX11_begin_9 h4 rfl ?_
    refine v_iload_n dX11_begin_12 rfl ?_
    refine v_aload_n dX11_begin_13 rfl ?_
    refine v_iconst dX11_begin_14 (by decide) ?_
    refine v_iload_n dX11_begin_15 rfl ?_
    refine v_iadd dX11_begin_16 ?_
    refine v_cV (mi := mX11_begin) (c0 := 0) (c1 := 0) (As := [pI (w32 (2 + s2.1))]) (st := [pI s2.1, pA (s2.2.1 a0 29)]) (kX11_of d (by omega) _ _ _) rfl h4 rfl okX11_of (Or.inl tw1504) tw1506 tp55 rfl (Nat.le_of_ble_eq_true rfl) dX11_begin_17 (fun r5 => [pI r5, pI s2.1, pA (s2.2.1 a0 29)]) (fun r5 => s2.2) (fun _ => rfl) (fun _ => rfl) (fun r5 h6 => ?_) rfl
    refine v_if (fun h7 => ?_)
    refine v_iastore h7 dX11_begin_20 ?_
    refine v_bM (fun M8 e9 => ?_)
    refine v_iinc (ls' := [some (pA a0), some (pI (w32 (s2.1 + 1)))]) dX11_begin_21 (by decide) rfl rfl ?_
    refine v_goto (tgt := 2) dX11_begin_24 (by decide) ?_
    exact hrec1 (w32 (s2.1 + 1), M8)
  · refine v_iconst dX11_begin_27 (by decide) ?_
    refine v_istore_n (ls' := [some (pA a0), some (pI 0)]) dX11_begin_28 (by decide) rfl ?_
    refine v_loop (fun (s11 : Int × Mem) => [some (pA a0), some (pI s11.1)]) (fun (s11 : Int × Mem) => s11.2) (s0 := (0, s2.2)) ?_
    intro rec10 hrec10 s11
    refine v_iload_n dX11_begin_29 rfl ?_
    refine v_bipush dX11_begin_30 (by decide) ?_
    refine v_icmp_ge (tgt := 48) dX11_begin_32 (by decide) (fun c12 => ?_) (fun c12 => ?_)
    · refine v_aload_n dX11_begin_35 rfl ?_
      refine v_if (fun h13 => ?_)
      refine v_get (v := pA (s11.2.1 a0 30)) 10 30 rfl inX11 (by decide) tw1223 dX11_begin_36 h13 rfl ?_
      refine v_iload_n dX11_begin_39 rfl ?_
      refine v_iconst dX11_begin_40 (by decide) ?_
      refine v_if (fun h14 => ?_)
      refine v_iastore h14 dX11_begin_41 ?_
      refine v_bM (fun M15 e16 => ?_)
      refine v_iinc (ls' := [some (pA a0), some (pI (w32 (s11.1 + 1)))]) dX11_begin_42 (by decide) rfl rfl ?_
      refine v_goto (tgt := 29) dX11_begin_45 (by decide) ?_
      exact hrec10 (w32 (s11.1 + 1), M15)
    · refine v_iconst dX11_begin_48 (by decide) ?_
      refine v_istore_n (ls' := [some (pA a0), some (pI 0)]) dX11_begin_49 (by decide) rfl ?_
      refine v_loop (fun (s18 : Int × Mem) => [some (pA a0), some (pI s18.1)]) (fun (s18 : Int × Mem) => s18.2) (s0 := (0, s11.2)) ?_
      intro rec17 hrec17 s18
      refine v_iload_n dX11_begin_50 rfl ?_
      refine v_bipush dX11_begin_51 (by decide) ?_
      refine v_icmp_ge (tgt := 76) dX11_begin_53 (by decide) (fun c19 => ?_) (fun c19 => ?_)
      · refine v_aload_n dX11_begin_56 rfl ?_
        refine v_if (fun h20 => ?_)
        refine v_get (v := pA (s18.2.1 a0 31)) 10 31 rfl inX11 (by decide) tw1224 dX11_begin_57 h20 rfl ?_
        refine v_iload_n dX11_begin_60 rfl ?_
        refine v_iconst dX11_begin_61 (by decide) ?_
        refine v_if (fun h21 => ?_)
        refine v_iastore h21 dX11_begin_62 ?_
        refine v_bM (fun M22 e23 => ?_)
        refine v_aload_n dX11_begin_63 rfl ?_
        refine v_get (v := pA (M22.1 a0 32)) 10 32 rfl inX11 (by decide) tw1225 dX11_begin_64 (by rw [e23]; exact h20) rfl ?_
        refine v_iload_n dX11_begin_67 rfl ?_
        refine v_iconst dX11_begin_68 (by decide) ?_
        refine v_if (fun h24 => ?_)
        refine v_iastore h24 dX11_begin_69 ?_
        refine v_bM (fun M25 e26 => ?_)
        refine v_iinc (ls' := [some (pA a0), some (pI (w32 (s18.1 + 1)))]) dX11_begin_70 (by decide) rfl rfl ?_
        refine v_goto (tgt := 50) dX11_begin_73 (by decide) ?_
        exact hrec17 (w32 (s18.1 + 1), M25)
      · refine v_iconst dX11_begin_76 (by decide) ?_
        refine v_istore_n (ls' := [some (pA a0), some (pI 0)]) dX11_begin_77 (by decide) rfl ?_
        refine v_loop (fun (s28 : Int × Mem) => [some (pA a0), some (pI s28.1)]) (fun (s28 : Int × Mem) => s28.2) (s0 := (0, s18.2)) ?_
        intro rec27 hrec27 s28
        refine v_iload_n dX11_begin_78 rfl ?_
        refine v_iconst dX11_begin_79 (by decide) ?_
        refine v_icmp_ge (tgt := 131) dX11_begin_80 (by decide) (fun c29 => ?_) (fun c29 => ?_)
        · refine v_aload_n dX11_begin_83 rfl ?_
          refine v_if (fun h30 => ?_)
          refine v_get (v := pA (s28.2.1 a0 33)) 10 33 rfl inX11 (by decide) tw1226 dX11_begin_84 h30 rfl ?_
          refine v_iload_n dX11_begin_87 rfl ?_
          refine v_iconst dX11_begin_88 (by decide) ?_
          refine v_if (fun h31 => ?_)
          refine v_iastore h31 dX11_begin_89 ?_
          refine v_bM (fun M32 e33 => ?_)
          refine v_aload_n dX11_begin_90 rfl ?_
          refine v_get (v := pA (M32.1 a0 34)) 10 34 rfl inX11 (by decide) tw1227 dX11_begin_91 (by rw [e33]; exact h30) rfl ?_
          refine v_iload_n dX11_begin_94 rfl ?_
          refine v_iconst dX11_begin_95 (by decide) ?_
          refine v_if (fun h34 => ?_)
          refine v_iastore h34 dX11_begin_96 ?_
          refine v_bM (fun M35 e36 => ?_)
          refine v_aload_n dX11_begin_97 rfl ?_
          refine v_get (v := pA (M35.1 a0 35)) 10 35 rfl inX11 (by decide) tw1228 dX11_begin_98 (by rw [e36, e33]; exact h30) rfl ?_
          refine v_iload_n dX11_begin_101 rfl ?_
          refine v_iconst dX11_begin_102 (by decide) ?_
          refine v_if (fun h37 => ?_)
          refine v_iastore h37 dX11_begin_103 ?_
          refine v_bM (fun M38 e39 => ?_)
          refine v_aload_n dX11_begin_104 rfl ?_
          refine v_get (v := pA (M38.1 a0 36)) 10 36 rfl inX11 (by decide) tw1229 dX11_begin_105 (by rw [e39, e36, e33]; exact h30) rfl ?_
          refine v_iload_n dX11_begin_108 rfl ?_
          refine v_iconst dX11_begin_109 (by decide) ?_
          refine v_if (fun h40 => ?_)
          refine v_iastore h40 dX11_begin_110 ?_
          refine v_bM (fun M41 e42 => ?_)
          refine v_aload_n dX11_begin_111 rfl ?_
          refine v_get (v := pA (M41.1 a0 37)) 10 37 rfl inX11 (by decide) tw1230 dX11_begin_112 (by rw [e42, e39, e36, e33]; exact h30) rfl ?_
          refine v_iload_n dX11_begin_115 rfl ?_
          refine v_iconst dX11_begin_116 (by decide) ?_
          refine v_if (fun h43 => ?_)
          refine v_iastore h43 dX11_begin_117 ?_
          refine v_bM (fun M44 e45 => ?_)
          refine v_aload_n dX11_begin_118 rfl ?_
          refine v_get (v := pA (M44.1 a0 38)) 10 38 rfl inX11 (by decide) tw1231 dX11_begin_119 (by rw [e45, e42, e39, e36, e33]; exact h30) rfl ?_
          refine v_iload_n dX11_begin_122 rfl ?_
          refine v_iconst dX11_begin_123 (by decide) ?_
          refine v_if (fun h46 => ?_)
          refine v_iastore h46 dX11_begin_124 ?_
          refine v_bM (fun M47 e48 => ?_)
          refine v_iinc (ls' := [some (pA a0), some (pI (w32 (s28.1 + 1)))]) dX11_begin_125 (by decide) rfl rfl ?_
          refine v_goto (tgt := 78) dX11_begin_128 (by decide) ?_
          exact hrec27 (w32 (s28.1 + 1), M47)
        · refine v_iconst dX11_begin_131 (by decide) ?_
          refine v_istore_n (ls' := [some (pA a0), some (pI 0)]) dX11_begin_132 (by decide) rfl ?_
          refine v_loop (fun (s50 : Int × Mem) => [some (pA a0), some (pI s50.1)]) (fun (s50 : Int × Mem) => s50.2) (s0 := (0, s28.2)) ?_
          intro rec49 hrec49 s50
          refine v_iload_n dX11_begin_133 rfl ?_
          refine v_bipush dX11_begin_134 (by decide) ?_
          refine v_icmp_ge (tgt := 152) dX11_begin_136 (by decide) (fun c51 => ?_) (fun c51 => ?_)
          · refine v_aload_n dX11_begin_139 rfl ?_
            refine v_if (fun h52 => ?_)
            refine v_get (v := pA (s50.2.1 a0 39)) 10 39 rfl inX11 (by decide) tw1232 dX11_begin_140 h52 rfl ?_
            refine v_iload_n dX11_begin_143 rfl ?_
            refine v_iconst dX11_begin_144 (by decide) ?_
            refine v_if (fun h53 => ?_)
            refine v_iastore h53 dX11_begin_145 ?_
            refine v_bM (fun M54 e55 => ?_)
            refine v_iinc (ls' := [some (pA a0), some (pI (w32 (s50.1 + 1)))]) dX11_begin_146 (by decide) rfl rfl ?_
            refine v_goto (tgt := 133) dX11_begin_149 (by decide) ?_
            exact hrec49 (w32 (s50.1 + 1), M54)
          · refine v_aload_n dX11_begin_152 rfl ?_
            refine v_iconst dX11_begin_153 (by decide) ?_
            refine v_if (fun h56 => ?_)
            refine v_put (x := 0) 10 40 rfl inX11 (by decide) tw1233 (Or.inl rfl) rfl dX11_begin_154 h56 rfl id ?_
            refine v_bM (fun M57 e58 => ?_)
            refine v_aload_n dX11_begin_157 rfl ?_
            refine v_iconst dX11_begin_158 (by decide) ?_
            refine v_put (x := 0) 10 41 rfl inX11 (by decide) tw1234 (Or.inl rfl) rfl dX11_begin_159 (by rw [e58]; exact h56) rfl id ?_
            refine v_bM (fun M59 e60 => ?_)
            refine v_aload_n dX11_begin_162 rfl ?_
            refine v_iconst dX11_begin_163 (by decide) ?_
            refine v_put (x := 0) 10 42 rfl inX11 (by decide) tw1235 (Or.inl rfl) rfl dX11_begin_164 (by rw [e60, e58]; exact h56) rfl id ?_
            refine v_bM (fun M61 e62 => ?_)
            exact v_return dX11_begin_167 rfl rfl
theorem chX11_place_0 : (cX11_place.data.toList.drop 0).take 16 = [16, 6, 26, 104, 27, 96, 8, 104, 28, 96, 172] := by decide +kernel
theorem dX11_place_0 : decode cX11_place 0 = .ok (.bipush 6, 2) := oq_16 (byt chX11_place_0 0 rfl) (byt chX11_place_0 1 rfl) rfl
theorem dX11_place_2 : decode cX11_place 2 = .ok (.iload_n 0, 1) := oq_26 (byt chX11_place_0 2 rfl)
theorem dX11_place_3 : decode cX11_place 3 = .ok (.imul, 1) := oq_104 (byt chX11_place_0 3 rfl)
theorem dX11_place_4 : decode cX11_place 4 = .ok (.iload_n 1, 1) := oq_27 (byt chX11_place_0 4 rfl)
theorem dX11_place_5 : decode cX11_place 5 = .ok (.iadd, 1) := oq_96 (byt chX11_place_0 5 rfl)
theorem dX11_place_6 : decode cX11_place 6 = .ok (.iconst 5, 1) := oq_8 (byt chX11_place_0 6 rfl)
theorem dX11_place_7 : decode cX11_place 7 = .ok (.imul, 1) := oq_104 (byt chX11_place_0 7 rfl)
theorem dX11_place_8 : decode cX11_place 8 = .ok (.iload_n 2, 1) := oq_28 (byt chX11_place_0 8 rfl)
theorem dX11_place_9 : decode cX11_place 9 = .ok (.iadd, 1) := oq_96 (byt chX11_place_0 9 rfl)
theorem dX11_place_10 : decode cX11_place 10 = .ok (.ireturn, 1) := oq_172 (byt chX11_place_0 10 rfl)
abbrev mX11_place : MI := (yX11_place, cX11_place, 3, (some .int), noE)
theorem okX11_place : cok mX11_place 3 := ⟨tw1596, tw11, by decide, by decide, by decide, by decide +kernel⟩
def fX11_place (M : Mem) (a0 a1 a2 : Int) : Option Int :=
  some (w32 ((w32 ((w32 ((w32 (6 * a0)) + a1)) * 5)) + a2))
set_option maxRecDepth 100000 in
set_option maxHeartbeats 4000000 in
theorem kX11_place (d : Nat) (hd : 0 ≤ d) (M : Mem) (a0 a1 a2 : Int) : Ct mX11_place d 0 0 [pI a0, pI a1, pI a2] M (dI M) (fX11_place M a0 a1 a2) := by
  refine Ct.of 0 (fun _ _ _ => trivial) (by decide +kernel) rfl ?_
  unfold fX11_place
  refine v_bipush dX11_place_0 (by decide) ?_
  refine v_iload_n dX11_place_2 rfl ?_
  refine v_imul dX11_place_3 ?_
  refine v_iload_n dX11_place_4 rfl ?_
  refine v_iadd dX11_place_5 ?_
  refine v_iconst dX11_place_6 (by decide) ?_
  refine v_imul dX11_place_7 ?_
  refine v_iload_n dX11_place_8 rfl ?_
  refine v_iadd dX11_place_9 ?_
  exact v_ireturn dX11_place_10 rfl rfl
theorem chX11_isFree_0 : (cX11_isFree.data.toList.drop 0).take 16 = [42, 27, 182, 1, 40, 153, 0, 18, 42, 180, 1, 79, 27, 184, 1, 55] := by decide +kernel
theorem chX11_isFree_1 : (cX11_isFree.data.toList.drop 16).take 16 = [154, 0, 7, 4, 167, 0, 4, 3, 172] := by decide +kernel
theorem dX11_isFree_0 : decode cX11_isFree 0 = .ok (.aload_n 0, 1) := oq_42 (byt chX11_isFree_0 0 rfl)
theorem dX11_isFree_1 : decode cX11_isFree 1 = .ok (.iload_n 1, 1) := oq_27 (byt chX11_isFree_0 1 rfl)
theorem dX11_isFree_2 : decode cX11_isFree 2 = .ok (.invokevirtual 296, 3) := oq_182 (byt chX11_isFree_0 2 rfl) (byt chX11_isFree_0 3 rfl) (byt chX11_isFree_0 4 rfl) rfl
theorem dX11_isFree_5 : decode cX11_isFree 5 = .ok (.ifCond .eq 18, 3) := oq_153 (byt chX11_isFree_0 5 rfl) (byt chX11_isFree_0 6 rfl) (byt chX11_isFree_0 7 rfl) (by decide +kernel)
theorem dX11_isFree_8 : decode cX11_isFree 8 = .ok (.aload_n 0, 1) := oq_42 (byt chX11_isFree_0 8 rfl)
theorem dX11_isFree_9 : decode cX11_isFree 9 = .ok (.getfield 335, 3) := oq_180 (byt chX11_isFree_0 9 rfl) (byt chX11_isFree_0 10 rfl) (byt chX11_isFree_0 11 rfl) rfl
theorem dX11_isFree_12 : decode cX11_isFree 12 = .ok (.iload_n 1, 1) := oq_27 (byt chX11_isFree_0 12 rfl)
theorem dX11_isFree_13 : decode cX11_isFree 13 = .ok (.invokestatic 311, 3) := oq_184 (byt chX11_isFree_0 13 rfl) (byt chX11_isFree_0 14 rfl) (byt chX11_isFree_0 15 rfl) rfl
theorem dX11_isFree_16 : decode cX11_isFree 16 = .ok (.ifCond .ne 7, 3) := oq_154 (byt chX11_isFree_1 0 rfl) (byt chX11_isFree_1 1 rfl) (byt chX11_isFree_1 2 rfl) (by decide +kernel)
theorem dX11_isFree_19 : decode cX11_isFree 19 = .ok (.iconst 1, 1) := oq_4 (byt chX11_isFree_1 3 rfl)
theorem dX11_isFree_20 : decode cX11_isFree 20 = .ok (.goto 4, 3) := oq_167 (byt chX11_isFree_1 4 rfl) (byt chX11_isFree_1 5 rfl) (byt chX11_isFree_1 6 rfl) (by decide +kernel)
theorem dX11_isFree_23 : decode cX11_isFree 23 = .ok (.iconst 0, 1) := oq_3 (byt chX11_isFree_1 7 rfl)
theorem dX11_isFree_24 : decode cX11_isFree 24 = .ok (.ireturn, 1) := oq_172 (byt chX11_isFree_1 8 rfl)
abbrev mX11_isFree : MI := (yX11_isFree, cX11_isFree, 2, (some .boolean), noE)
theorem okX11_isFree : cok mX11_isFree 1 := ⟨tw1593, tw11, by decide, by decide, by decide, by decide +kernel⟩
def fX11_isFree (M : Mem) (a0 a1 : Int) : Option Int :=
  if M.2.1 a0 = 10 then (fX11_isThief M a0 a1).bind fun r1 => if r1 = 0 then (some 0) else ((fX11_has M (M.1 a0 41) a1).bind fun r5 => if r5 = 0 then (some 1) else (some 0)) else none
set_option maxRecDepth 100000 in
set_option maxHeartbeats 4000000 in
theorem kX11_isFree (d : Nat) (hd : 2 ≤ d) (M : Mem) (a0 a1 : Int) : Ct mX11_isFree d 0 0 [pA a0, pI a1] M (dI M) (fX11_isFree M a0 a1) := by
  obtain ⟨d, rfl⟩ : ∃ k, d = k + 1 := ⟨d - 1, by omega⟩
  refine Ct.of 0 (fun _ _ _ => trivial) (by decide +kernel) rfl ?_
  unfold fX11_isFree
  refine v_aload_n dX11_isFree_0 rfl ?_
  refine v_iload_n dX11_isFree_1 rfl ?_
  refine v_if (fun h3 => ?_)
  refine v_cV (mi := mX11_isFree) (c0 := 0) (c1 := 0) (As := [pI a1]) (st := []) (kX11_isThief d (by omega) _ _ _) rfl h3 rfl okX11_isThief (Or.inl tw1515) tw1517 tp57 rfl (Nat.le_of_ble_eq_true rfl) dX11_isFree_2 (fun r1 => [pI r1]) (fun r1 => M) (fun _ => rfl) (fun _ => rfl) (fun r1 h2 => ?_) rfl
  refine v_if_eq (tgt := 23) dX11_isFree_5 (by decide) (fun c4 => ?_) (fun c4 => ?_)
  · refine v_iconst dX11_isFree_23 (by decide) ?_
    exact v_breturn dX11_isFree_24 rfl (by decide) rfl
  · refine v_aload_n dX11_isFree_8 rfl ?_
    refine v_get (v := pI (M.1 a0 41)) 10 41 rfl inX11 (by decide) tw1234 dX11_isFree_9 h3 rfl ?_
    refine v_iload_n dX11_isFree_12 rfl ?_
    refine v_cS (mi := mX11_isFree) (c0 := 0) (c1 := 0) (As := [pI (M.1 a0 41), pI a1]) (st := []) (kX11_has d (by omega) _ _ _) okX11_has (Or.inl tw1547) tw1548 rfl (Nat.le_of_ble_eq_true rfl) dX11_isFree_13 (fun r5 => [pI r5]) (fun r5 => M) (fun _ => rfl) (fun _ => rfl) (fun r5 h6 => ?_) rfl
    refine v_if_ne (tgt := 23) dX11_isFree_16 (by decide) (fun c7 => ?_) (fun c7 => ?_)
    · refine v_iconst dX11_isFree_19 (by decide) ?_
      refine v_goto (tgt := 24) dX11_isFree_20 (by decide) ?_
      exact v_breturn dX11_isFree_24 rfl (by decide) rfl
    · refine v_iconst dX11_isFree_23 (by decide) ?_
      exact v_breturn dX11_isFree_24 rfl (by decide) rfl
theorem chX11_owes_0 : (cX11_owes.data.toList.drop 0).take 16 = [42, 180, 0, 62, 27, 46, 42, 3, 182, 1, 52, 108, 42, 180, 0, 65] := by decide +kernel
theorem chX11_owes_1 : (cX11_owes.data.toList.drop 16).take 16 = [27, 46, 100, 172] := by decide +kernel
theorem dX11_owes_0 : decode cX11_owes 0 = .ok (.aload_n 0, 1) := oq_42 (byt chX11_owes_0 0 rfl)
theorem dX11_owes_1 : decode cX11_owes 1 = .ok (.getfield 62, 3) := oq_180 (byt chX11_owes_0 1 rfl) (byt chX11_owes_0 2 rfl) (byt chX11_owes_0 3 rfl) rfl
theorem dX11_owes_4 : decode cX11_owes 4 = .ok (.iload_n 1, 1) := oq_27 (byt chX11_owes_0 4 rfl)
theorem dX11_owes_5 : decode cX11_owes 5 = .ok (.iaload, 1) := oq_46 (byt chX11_owes_0 5 rfl)
theorem dX11_owes_6 : decode cX11_owes 6 = .ok (.aload_n 0, 1) := oq_42 (byt chX11_owes_0 6 rfl)
theorem dX11_owes_7 : decode cX11_owes 7 = .ok (.iconst 0, 1) := oq_3 (byt chX11_owes_0 7 rfl)
theorem dX11_owes_8 : decode cX11_owes 8 = .ok (.invokevirtual 308, 3) := oq_182 (byt chX11_owes_0 8 rfl) (byt chX11_owes_0 9 rfl) (byt chX11_owes_0 10 rfl) rfl
theorem dX11_owes_11 : decode cX11_owes 11 = .ok (.idiv, 1) := oq_108 (byt chX11_owes_0 11 rfl)
theorem dX11_owes_12 : decode cX11_owes 12 = .ok (.aload_n 0, 1) := oq_42 (byt chX11_owes_0 12 rfl)
theorem dX11_owes_13 : decode cX11_owes 13 = .ok (.getfield 65, 3) := oq_180 (byt chX11_owes_0 13 rfl) (byt chX11_owes_0 14 rfl) (byt chX11_owes_0 15 rfl) rfl
theorem dX11_owes_16 : decode cX11_owes 16 = .ok (.iload_n 1, 1) := oq_27 (byt chX11_owes_1 0 rfl)
theorem dX11_owes_17 : decode cX11_owes 17 = .ok (.iaload, 1) := oq_46 (byt chX11_owes_1 1 rfl)
theorem dX11_owes_18 : decode cX11_owes 18 = .ok (.isub, 1) := oq_100 (byt chX11_owes_1 2 rfl)
theorem dX11_owes_19 : decode cX11_owes 19 = .ok (.ireturn, 1) := oq_172 (byt chX11_owes_1 3 rfl)
abbrev mX11_owes : MI := (yX11_owes, cX11_owes, 2, (some .int), noE)
theorem okX11_owes : cok mX11_owes 1 := ⟨tw1612, tw11, by decide, by decide, by decide, by decide +kernel⟩
def fX11_owes (M : Mem) (a0 a1 : Int) : Option Int :=
  if M.2.1 a0 = 10 then if M.2.1 (M.1 a0 35) = 12 ∧ (0 : Int) ≤ a1 ∧ a1 < M.2.2.1 (M.1 a0 35) then (fX11_lawOf M a0 0).bind fun r3 => if r3 ≠ 0 then if M.2.1 (M.1 a0 36) = 12 ∧ (0 : Int) ≤ a1 ∧ a1 < M.2.2.1 (M.1 a0 36) then some (w32 ((w32 ((M.1 (M.1 a0 35) a1).tdiv r3)) - (M.1 (M.1 a0 36) a1))) else none else none else none else none
set_option maxRecDepth 100000 in
set_option maxHeartbeats 4000000 in
theorem kX11_owes (d : Nat) (hd : 1 ≤ d) (M : Mem) (a0 a1 : Int) : Ct mX11_owes d 0 0 [pA a0, pI a1] M (dI M) (fX11_owes M a0 a1) := by
  obtain ⟨d, rfl⟩ : ∃ k, d = k + 1 := ⟨d - 1, by omega⟩
  refine Ct.of 0 (fun _ _ _ => trivial) (by decide +kernel) rfl ?_
  unfold fX11_owes
  refine v_aload_n dX11_owes_0 rfl ?_
  refine v_if (fun h1 => ?_)
  refine v_get (v := pA (M.1 a0 35)) 10 35 rfl inX11 (by decide) tw1228 dX11_owes_1 h1 rfl ?_
  refine v_iload_n dX11_owes_4 rfl ?_
  refine v_if (fun h2 => ?_)
  refine v_iaload h2 dX11_owes_5 ?_
  refine v_aload_n dX11_owes_6 rfl ?_
  refine v_iconst dX11_owes_7 (by decide) ?_
  refine v_cV (mi := mX11_owes) (c0 := 0) (c1 := 0) (As := [pI 0]) (st := [pI (M.1 (M.1 a0 35) a1)]) (kX11_lawOf d (by omega) _ _ _) rfl h1 rfl okX11_lawOf (Or.inl tw1539) tw1541 tp61 rfl (Nat.le_of_ble_eq_true rfl) dX11_owes_8 (fun r3 => [pI r3, pI (M.1 (M.1 a0 35) a1)]) (fun r3 => M) (fun _ => rfl) (fun _ => rfl) (fun r3 h4 => ?_) rfl
  refine v_if (fun h5 => ?_)
  refine v_idiv h5 dX11_owes_11 ?_
  refine v_aload_n dX11_owes_12 rfl ?_
  refine v_get (v := pA (M.1 a0 36)) 10 36 rfl inX11 (by decide) tw1229 dX11_owes_13 h1 rfl ?_
  refine v_iload_n dX11_owes_16 rfl ?_
  refine v_if (fun h6 => ?_)
  refine v_iaload h6 dX11_owes_17 ?_
  refine v_isub dX11_owes_18 ?_
  exact v_ireturn dX11_owes_19 rfl rfl
theorem chX11_odd_0 : (cX11_odd.data.toList.drop 0).take 16 = [42, 180, 0, 62, 27, 46, 42, 3, 182, 1, 52, 112, 172] := by decide +kernel
theorem dX11_odd_0 : decode cX11_odd 0 = .ok (.aload_n 0, 1) := oq_42 (byt chX11_odd_0 0 rfl)
theorem dX11_odd_1 : decode cX11_odd 1 = .ok (.getfield 62, 3) := oq_180 (byt chX11_odd_0 1 rfl) (byt chX11_odd_0 2 rfl) (byt chX11_odd_0 3 rfl) rfl
theorem dX11_odd_4 : decode cX11_odd 4 = .ok (.iload_n 1, 1) := oq_27 (byt chX11_odd_0 4 rfl)
theorem dX11_odd_5 : decode cX11_odd 5 = .ok (.iaload, 1) := oq_46 (byt chX11_odd_0 5 rfl)
theorem dX11_odd_6 : decode cX11_odd 6 = .ok (.aload_n 0, 1) := oq_42 (byt chX11_odd_0 6 rfl)
theorem dX11_odd_7 : decode cX11_odd 7 = .ok (.iconst 0, 1) := oq_3 (byt chX11_odd_0 7 rfl)
theorem dX11_odd_8 : decode cX11_odd 8 = .ok (.invokevirtual 308, 3) := oq_182 (byt chX11_odd_0 8 rfl) (byt chX11_odd_0 9 rfl) (byt chX11_odd_0 10 rfl) rfl
theorem dX11_odd_11 : decode cX11_odd 11 = .ok (.irem, 1) := oq_112 (byt chX11_odd_0 11 rfl)
theorem dX11_odd_12 : decode cX11_odd 12 = .ok (.ireturn, 1) := oq_172 (byt chX11_odd_0 12 rfl)
abbrev mX11_odd : MI := (yX11_odd, cX11_odd, 2, (some .int), noE)
theorem okX11_odd : cok mX11_odd 1 := ⟨tw1632, tw11, by decide, by decide, by decide, by decide +kernel⟩
def fX11_odd (M : Mem) (a0 a1 : Int) : Option Int :=
  if M.2.1 a0 = 10 then if M.2.1 (M.1 a0 35) = 12 ∧ (0 : Int) ≤ a1 ∧ a1 < M.2.2.1 (M.1 a0 35) then (fX11_lawOf M a0 0).bind fun r3 => if r3 ≠ 0 then some ((M.1 (M.1 a0 35) a1).tmod r3) else none else none else none
set_option maxRecDepth 100000 in
set_option maxHeartbeats 4000000 in
theorem kX11_odd (d : Nat) (hd : 1 ≤ d) (M : Mem) (a0 a1 : Int) : Ct mX11_odd d 0 0 [pA a0, pI a1] M (dI M) (fX11_odd M a0 a1) := by
  obtain ⟨d, rfl⟩ : ∃ k, d = k + 1 := ⟨d - 1, by omega⟩
  refine Ct.of 0 (fun _ _ _ => trivial) (by decide +kernel) rfl ?_
  unfold fX11_odd
  refine v_aload_n dX11_odd_0 rfl ?_
  refine v_if (fun h1 => ?_)
  refine v_get (v := pA (M.1 a0 35)) 10 35 rfl inX11 (by decide) tw1228 dX11_odd_1 h1 rfl ?_
  refine v_iload_n dX11_odd_4 rfl ?_
  refine v_if (fun h2 => ?_)
  refine v_iaload h2 dX11_odd_5 ?_
  refine v_aload_n dX11_odd_6 rfl ?_
  refine v_iconst dX11_odd_7 (by decide) ?_
  refine v_cV (mi := mX11_odd) (c0 := 0) (c1 := 0) (As := [pI 0]) (st := [pI (M.1 (M.1 a0 35) a1)]) (kX11_lawOf d (by omega) _ _ _) rfl h1 rfl okX11_lawOf (Or.inl tw1539) tw1541 tp61 rfl (Nat.le_of_ble_eq_true rfl) dX11_odd_8 (fun r3 => [pI r3, pI (M.1 (M.1 a0 35) a1)]) (fun r3 => M) (fun _ => rfl) (fun _ => rfl) (fun r3 h4 => ?_) rfl
  refine v_if (fun h5 => ?_)
  refine v_irem h5 dX11_odd_11 ?_
  exact v_ireturn dX11_odd_12 rfl rfl
theorem chX11_takes_0 : (cX11_takes.data.toList.drop 0).take 16 = [42, 27, 182, 1, 85, 153, 0, 41, 42, 28, 182, 1, 34, 153, 0, 33] := by decide +kernel
theorem chX11_takes_1 : (cX11_takes.data.toList.drop 16).take 16 = [42, 180, 0, 44, 8, 28, 104, 29, 96, 46, 153, 0, 20, 42, 180, 0] := by decide +kernel
theorem chX11_takes_2 : (cX11_takes.data.toList.drop 32).take 16 = [56, 27, 46, 42, 16, 84, 27, 96, 182, 1, 21, 161, 0, 5, 3, 172] := by decide +kernel
theorem chX11_takes_3 : (cX11_takes.data.toList.drop 48).take 16 = [42, 180, 0, 44, 8, 28, 104, 29, 96, 92, 46, 4, 100, 79, 42, 180] := by decide +kernel
theorem chX11_takes_4 : (cX11_takes.data.toList.drop 64).take 16 = [0, 47, 8, 27, 104, 29, 96, 92, 46, 4, 96, 79, 42, 180, 0, 50] := by decide +kernel
theorem chX11_takes_5 : (cX11_takes.data.toList.drop 80).take 16 = [27, 28, 29, 184, 1, 88, 92, 46, 4, 96, 79, 42, 180, 0, 56, 27] := by decide +kernel
theorem chX11_takes_6 : (cX11_takes.data.toList.drop 96).take 16 = [92, 46, 4, 96, 79, 42, 180, 0, 62, 27, 92, 46, 4, 96, 79, 42] := by decide +kernel
theorem chX11_takes_7 : (cX11_takes.data.toList.drop 112).take 16 = [180, 0, 74, 28, 92, 46, 4, 96, 79, 42, 180, 0, 71, 27, 42, 180] := by decide +kernel
theorem chX11_takes_8 : (cX11_takes.data.toList.drop 128).take 16 = [1, 82, 79, 4, 172] := by decide +kernel
theorem dX11_takes_0 : decode cX11_takes 0 = .ok (.aload_n 0, 1) := oq_42 (byt chX11_takes_0 0 rfl)
theorem dX11_takes_1 : decode cX11_takes 1 = .ok (.iload_n 1, 1) := oq_27 (byt chX11_takes_0 1 rfl)
theorem dX11_takes_2 : decode cX11_takes 2 = .ok (.invokevirtual 341, 3) := oq_182 (byt chX11_takes_0 2 rfl) (byt chX11_takes_0 3 rfl) (byt chX11_takes_0 4 rfl) rfl
theorem dX11_takes_5 : decode cX11_takes 5 = .ok (.ifCond .eq 41, 3) := oq_153 (byt chX11_takes_0 5 rfl) (byt chX11_takes_0 6 rfl) (byt chX11_takes_0 7 rfl) (by decide +kernel)
theorem dX11_takes_8 : decode cX11_takes 8 = .ok (.aload_n 0, 1) := oq_42 (byt chX11_takes_0 8 rfl)
theorem dX11_takes_9 : decode cX11_takes 9 = .ok (.iload_n 2, 1) := oq_28 (byt chX11_takes_0 9 rfl)
theorem dX11_takes_10 : decode cX11_takes 10 = .ok (.invokevirtual 290, 3) := oq_182 (byt chX11_takes_0 10 rfl) (byt chX11_takes_0 11 rfl) (byt chX11_takes_0 12 rfl) rfl
theorem dX11_takes_13 : decode cX11_takes 13 = .ok (.ifCond .eq 33, 3) := oq_153 (byt chX11_takes_0 13 rfl) (byt chX11_takes_0 14 rfl) (byt chX11_takes_0 15 rfl) (by decide +kernel)
theorem dX11_takes_16 : decode cX11_takes 16 = .ok (.aload_n 0, 1) := oq_42 (byt chX11_takes_1 0 rfl)
theorem dX11_takes_17 : decode cX11_takes 17 = .ok (.getfield 44, 3) := oq_180 (byt chX11_takes_1 1 rfl) (byt chX11_takes_1 2 rfl) (byt chX11_takes_1 3 rfl) rfl
theorem dX11_takes_20 : decode cX11_takes 20 = .ok (.iconst 5, 1) := oq_8 (byt chX11_takes_1 4 rfl)
theorem dX11_takes_21 : decode cX11_takes 21 = .ok (.iload_n 2, 1) := oq_28 (byt chX11_takes_1 5 rfl)
theorem dX11_takes_22 : decode cX11_takes 22 = .ok (.imul, 1) := oq_104 (byt chX11_takes_1 6 rfl)
theorem dX11_takes_23 : decode cX11_takes 23 = .ok (.iload_n 3, 1) := oq_29 (byt chX11_takes_1 7 rfl)
theorem dX11_takes_24 : decode cX11_takes 24 = .ok (.iadd, 1) := oq_96 (byt chX11_takes_1 8 rfl)
theorem dX11_takes_25 : decode cX11_takes 25 = .ok (.iaload, 1) := oq_46 (byt chX11_takes_1 9 rfl)
theorem dX11_takes_26 : decode cX11_takes 26 = .ok (.ifCond .eq 20, 3) := oq_153 (byt chX11_takes_1 10 rfl) (byt chX11_takes_1 11 rfl) (byt chX11_takes_1 12 rfl) (by decide +kernel)
theorem dX11_takes_29 : decode cX11_takes 29 = .ok (.aload_n 0, 1) := oq_42 (byt chX11_takes_1 13 rfl)
theorem dX11_takes_30 : decode cX11_takes 30 = .ok (.getfield 56, 3) := oq_180 (byt chX11_takes_1 14 rfl) (byt chX11_takes_1 15 rfl) (byt chX11_takes_2 0 rfl) rfl
theorem dX11_takes_33 : decode cX11_takes 33 = .ok (.iload_n 1, 1) := oq_27 (byt chX11_takes_2 1 rfl)
theorem dX11_takes_34 : decode cX11_takes 34 = .ok (.iaload, 1) := oq_46 (byt chX11_takes_2 2 rfl)
theorem dX11_takes_35 : decode cX11_takes 35 = .ok (.aload_n 0, 1) := oq_42 (byt chX11_takes_2 3 rfl)
theorem dX11_takes_36 : decode cX11_takes 36 = .ok (.bipush 84, 2) := oq_16 (byt chX11_takes_2 4 rfl) (byt chX11_takes_2 5 rfl) rfl
theorem dX11_takes_38 : decode cX11_takes 38 = .ok (.iload_n 1, 1) := oq_27 (byt chX11_takes_2 6 rfl)
theorem dX11_takes_39 : decode cX11_takes 39 = .ok (.iadd, 1) := oq_96 (byt chX11_takes_2 7 rfl)
theorem dX11_takes_40 : decode cX11_takes 40 = .ok (.invokevirtual 277, 3) := oq_182 (byt chX11_takes_2 8 rfl) (byt chX11_takes_2 9 rfl) (byt chX11_takes_2 10 rfl) rfl
theorem dX11_takes_43 : decode cX11_takes 43 = .ok (.if_icmp .lt 5, 3) := oq_161 (byt chX11_takes_2 11 rfl) (byt chX11_takes_2 12 rfl) (byt chX11_takes_2 13 rfl) (by decide +kernel)
theorem dX11_takes_46 : decode cX11_takes 46 = .ok (.iconst 0, 1) := oq_3 (byt chX11_takes_2 14 rfl)
theorem dX11_takes_47 : decode cX11_takes 47 = .ok (.ireturn, 1) := oq_172 (byt chX11_takes_2 15 rfl)
theorem dX11_takes_48 : decode cX11_takes 48 = .ok (.aload_n 0, 1) := oq_42 (byt chX11_takes_3 0 rfl)
theorem dX11_takes_49 : decode cX11_takes 49 = .ok (.getfield 44, 3) := oq_180 (byt chX11_takes_3 1 rfl) (byt chX11_takes_3 2 rfl) (byt chX11_takes_3 3 rfl) rfl
theorem dX11_takes_52 : decode cX11_takes 52 = .ok (.iconst 5, 1) := oq_8 (byt chX11_takes_3 4 rfl)
theorem dX11_takes_53 : decode cX11_takes 53 = .ok (.iload_n 2, 1) := oq_28 (byt chX11_takes_3 5 rfl)
theorem dX11_takes_54 : decode cX11_takes 54 = .ok (.imul, 1) := oq_104 (byt chX11_takes_3 6 rfl)
theorem dX11_takes_55 : decode cX11_takes 55 = .ok (.iload_n 3, 1) := oq_29 (byt chX11_takes_3 7 rfl)
theorem dX11_takes_56 : decode cX11_takes 56 = .ok (.iadd, 1) := oq_96 (byt chX11_takes_3 8 rfl)
theorem dX11_takes_57 : decode cX11_takes 57 = .ok (.dup2, 1) := oq_92 (byt chX11_takes_3 9 rfl)
theorem dX11_takes_58 : decode cX11_takes 58 = .ok (.iaload, 1) := oq_46 (byt chX11_takes_3 10 rfl)
theorem dX11_takes_59 : decode cX11_takes 59 = .ok (.iconst 1, 1) := oq_4 (byt chX11_takes_3 11 rfl)
theorem dX11_takes_60 : decode cX11_takes 60 = .ok (.isub, 1) := oq_100 (byt chX11_takes_3 12 rfl)
theorem dX11_takes_61 : decode cX11_takes 61 = .ok (.iastore, 1) := oq_79 (byt chX11_takes_3 13 rfl)
theorem dX11_takes_62 : decode cX11_takes 62 = .ok (.aload_n 0, 1) := oq_42 (byt chX11_takes_3 14 rfl)
theorem dX11_takes_63 : decode cX11_takes 63 = .ok (.getfield 47, 3) := oq_180 (byt chX11_takes_3 15 rfl) (byt chX11_takes_4 0 rfl) (byt chX11_takes_4 1 rfl) rfl
theorem dX11_takes_66 : decode cX11_takes 66 = .ok (.iconst 5, 1) := oq_8 (byt chX11_takes_4 2 rfl)
theorem dX11_takes_67 : decode cX11_takes 67 = .ok (.iload_n 1, 1) := oq_27 (byt chX11_takes_4 3 rfl)
theorem dX11_takes_68 : decode cX11_takes 68 = .ok (.imul, 1) := oq_104 (byt chX11_takes_4 4 rfl)
theorem dX11_takes_69 : decode cX11_takes 69 = .ok (.iload_n 3, 1) := oq_29 (byt chX11_takes_4 5 rfl)
theorem dX11_takes_70 : decode cX11_takes 70 = .ok (.iadd, 1) := oq_96 (byt chX11_takes_4 6 rfl)
theorem dX11_takes_71 : decode cX11_takes 71 = .ok (.dup2, 1) := oq_92 (byt chX11_takes_4 7 rfl)
theorem dX11_takes_72 : decode cX11_takes 72 = .ok (.iaload, 1) := oq_46 (byt chX11_takes_4 8 rfl)
theorem dX11_takes_73 : decode cX11_takes 73 = .ok (.iconst 1, 1) := oq_4 (byt chX11_takes_4 9 rfl)
theorem dX11_takes_74 : decode cX11_takes 74 = .ok (.iadd, 1) := oq_96 (byt chX11_takes_4 10 rfl)
theorem dX11_takes_75 : decode cX11_takes 75 = .ok (.iastore, 1) := oq_79 (byt chX11_takes_4 11 rfl)
theorem dX11_takes_76 : decode cX11_takes 76 = .ok (.aload_n 0, 1) := oq_42 (byt chX11_takes_4 12 rfl)
theorem dX11_takes_77 : decode cX11_takes 77 = .ok (.getfield 50, 3) := oq_180 (byt chX11_takes_4 13 rfl) (byt chX11_takes_4 14 rfl) (byt chX11_takes_4 15 rfl) rfl
theorem dX11_takes_80 : decode cX11_takes 80 = .ok (.iload_n 1, 1) := oq_27 (byt chX11_takes_5 0 rfl)
theorem dX11_takes_81 : decode cX11_takes 81 = .ok (.iload_n 2, 1) := oq_28 (byt chX11_takes_5 1 rfl)
theorem dX11_takes_82 : decode cX11_takes 82 = .ok (.iload_n 3, 1) := oq_29 (byt chX11_takes_5 2 rfl)
theorem dX11_takes_83 : decode cX11_takes 83 = .ok (.invokestatic 344, 3) := oq_184 (byt chX11_takes_5 3 rfl) (byt chX11_takes_5 4 rfl) (byt chX11_takes_5 5 rfl) rfl
theorem dX11_takes_86 : decode cX11_takes 86 = .ok (.dup2, 1) := oq_92 (byt chX11_takes_5 6 rfl)
theorem dX11_takes_87 : decode cX11_takes 87 = .ok (.iaload, 1) := oq_46 (byt chX11_takes_5 7 rfl)
theorem dX11_takes_88 : decode cX11_takes 88 = .ok (.iconst 1, 1) := oq_4 (byt chX11_takes_5 8 rfl)
theorem dX11_takes_89 : decode cX11_takes 89 = .ok (.iadd, 1) := oq_96 (byt chX11_takes_5 9 rfl)
theorem dX11_takes_90 : decode cX11_takes 90 = .ok (.iastore, 1) := oq_79 (byt chX11_takes_5 10 rfl)
theorem dX11_takes_91 : decode cX11_takes 91 = .ok (.aload_n 0, 1) := oq_42 (byt chX11_takes_5 11 rfl)
theorem dX11_takes_92 : decode cX11_takes 92 = .ok (.getfield 56, 3) := oq_180 (byt chX11_takes_5 12 rfl) (byt chX11_takes_5 13 rfl) (byt chX11_takes_5 14 rfl) rfl
theorem dX11_takes_95 : decode cX11_takes 95 = .ok (.iload_n 1, 1) := oq_27 (byt chX11_takes_5 15 rfl)
theorem dX11_takes_96 : decode cX11_takes 96 = .ok (.dup2, 1) := oq_92 (byt chX11_takes_6 0 rfl)
theorem dX11_takes_97 : decode cX11_takes 97 = .ok (.iaload, 1) := oq_46 (byt chX11_takes_6 1 rfl)
theorem dX11_takes_98 : decode cX11_takes 98 = .ok (.iconst 1, 1) := oq_4 (byt chX11_takes_6 2 rfl)
theorem dX11_takes_99 : decode cX11_takes 99 = .ok (.iadd, 1) := oq_96 (byt chX11_takes_6 3 rfl)
theorem dX11_takes_100 : decode cX11_takes 100 = .ok (.iastore, 1) := oq_79 (byt chX11_takes_6 4 rfl)
theorem dX11_takes_101 : decode cX11_takes 101 = .ok (.aload_n 0, 1) := oq_42 (byt chX11_takes_6 5 rfl)
theorem dX11_takes_102 : decode cX11_takes 102 = .ok (.getfield 62, 3) := oq_180 (byt chX11_takes_6 6 rfl) (byt chX11_takes_6 7 rfl) (byt chX11_takes_6 8 rfl) rfl
theorem dX11_takes_105 : decode cX11_takes 105 = .ok (.iload_n 1, 1) := oq_27 (byt chX11_takes_6 9 rfl)
theorem dX11_takes_106 : decode cX11_takes 106 = .ok (.dup2, 1) := oq_92 (byt chX11_takes_6 10 rfl)
theorem dX11_takes_107 : decode cX11_takes 107 = .ok (.iaload, 1) := oq_46 (byt chX11_takes_6 11 rfl)
theorem dX11_takes_108 : decode cX11_takes 108 = .ok (.iconst 1, 1) := oq_4 (byt chX11_takes_6 12 rfl)
theorem dX11_takes_109 : decode cX11_takes 109 = .ok (.iadd, 1) := oq_96 (byt chX11_takes_6 13 rfl)
theorem dX11_takes_110 : decode cX11_takes 110 = .ok (.iastore, 1) := oq_79 (byt chX11_takes_6 14 rfl)
theorem dX11_takes_111 : decode cX11_takes 111 = .ok (.aload_n 0, 1) := oq_42 (byt chX11_takes_6 15 rfl)
theorem dX11_takes_112 : decode cX11_takes 112 = .ok (.getfield 74, 3) := oq_180 (byt chX11_takes_7 0 rfl) (byt chX11_takes_7 1 rfl) (byt chX11_takes_7 2 rfl) rfl
theorem dX11_takes_115 : decode cX11_takes 115 = .ok (.iload_n 2, 1) := oq_28 (byt chX11_takes_7 3 rfl)
theorem dX11_takes_116 : decode cX11_takes 116 = .ok (.dup2, 1) := oq_92 (byt chX11_takes_7 4 rfl)
theorem dX11_takes_117 : decode cX11_takes 117 = .ok (.iaload, 1) := oq_46 (byt chX11_takes_7 5 rfl)
theorem dX11_takes_118 : decode cX11_takes 118 = .ok (.iconst 1, 1) := oq_4 (byt chX11_takes_7 6 rfl)
theorem dX11_takes_119 : decode cX11_takes 119 = .ok (.iadd, 1) := oq_96 (byt chX11_takes_7 7 rfl)
theorem dX11_takes_120 : decode cX11_takes 120 = .ok (.iastore, 1) := oq_79 (byt chX11_takes_7 8 rfl)
theorem dX11_takes_121 : decode cX11_takes 121 = .ok (.aload_n 0, 1) := oq_42 (byt chX11_takes_7 9 rfl)
theorem dX11_takes_122 : decode cX11_takes 122 = .ok (.getfield 71, 3) := oq_180 (byt chX11_takes_7 10 rfl) (byt chX11_takes_7 11 rfl) (byt chX11_takes_7 12 rfl) rfl
theorem dX11_takes_125 : decode cX11_takes 125 = .ok (.iload_n 1, 1) := oq_27 (byt chX11_takes_7 13 rfl)
theorem dX11_takes_126 : decode cX11_takes 126 = .ok (.aload_n 0, 1) := oq_42 (byt chX11_takes_7 14 rfl)
theorem dX11_takes_127 : decode cX11_takes 127 = .ok (.getfield 338, 3) := oq_180 (byt chX11_takes_7 15 rfl) (byt chX11_takes_8 0 rfl) (byt chX11_takes_8 1 rfl) rfl
theorem dX11_takes_130 : decode cX11_takes 130 = .ok (.iastore, 1) := oq_79 (byt chX11_takes_8 2 rfl)
theorem dX11_takes_131 : decode cX11_takes 131 = .ok (.iconst 1, 1) := oq_4 (byt chX11_takes_8 3 rfl)
theorem dX11_takes_132 : decode cX11_takes 132 = .ok (.ireturn, 1) := oq_172 (byt chX11_takes_8 4 rfl)
abbrev mX11_takes : MI := (yX11_takes, cX11_takes, 4, (some .boolean), noE)
theorem okX11_takes : cok mX11_takes 3 := ⟨tw1589, tw11, by decide, by decide, by decide, by decide +kernel⟩
def fX11_takes (M : Mem) (a0 a1 a2 a3 : Int) : Option (Int × Mem) :=
  if M.2.1 a0 = 10 then (fX11_isFree M a0 a1).bind fun r1 => if r1 = 0 then (some (0, M)) else ((fX11_isHouse M a0 a2).bind fun r5 => if r5 = 0 then (some (0, M)) else (if M.2.1 (M.1 a0 29) = 12 ∧ (0 : Int) ≤ (w32 ((w32 (5 * a2)) + a3)) ∧ (w32 ((w32 (5 * a2)) + a3)) < M.2.2.1 (M.1 a0 29) then if M.1 (M.1 a0 29) (w32 ((w32 (5 * a2)) + a3)) = 0 then (some (0, M)) else (if M.2.1 (M.1 a0 33) = 12 ∧ (0 : Int) ≤ a1 ∧ a1 < M.2.2.1 (M.1 a0 33) then (fX11_of M a0 (w32 (84 + a1))).bind fun r11 => if M.1 (M.1 a0 33) a1 < r11 then (if M.2.1 (M.1 a0 29) = 12 ∧ (0 : Int) ≤ (w32 ((w32 (5 * a2)) + a3)) ∧ (w32 ((w32 (5 * a2)) + a3)) < M.2.2.1 (M.1 a0 29) then if M.2.1 (M.1 a0 29) = 12 ∧ (0 : Int) ≤ (w32 ((w32 (5 * a2)) + a3)) ∧ (w32 ((w32 (5 * a2)) + a3)) < M.2.2.1 (M.1 a0 29) then bM (mst M (M.1 a0 29) (w32 ((w32 (5 * a2)) + a3)) (w32 ((M.1 (M.1 a0 29) (w32 ((w32 (5 * a2)) + a3))) - 1))) fun M16 => if M16.2.1 (M16.1 a0 30) = 12 ∧ (0 : Int) ≤ (w32 ((w32 (5 * a1)) + a3)) ∧ (w32 ((w32 (5 * a1)) + a3)) < M16.2.2.1 (M16.1 a0 30) then if M16.2.1 (M16.1 a0 30) = 12 ∧ (0 : Int) ≤ (w32 ((w32 (5 * a1)) + a3)) ∧ (w32 ((w32 (5 * a1)) + a3)) < M16.2.2.1 (M16.1 a0 30) then bM (mst M16 (M16.1 a0 30) (w32 ((w32 (5 * a1)) + a3)) (w32 ((M16.1 (M16.1 a0 30) (w32 ((w32 (5 * a1)) + a3))) + 1))) fun M20 => (fX11_place M20 a1 a2 a3).bind fun r22 => if M20.2.1 (M20.1 a0 31) = 12 ∧ (0 : Int) ≤ r22 ∧ r22 < M20.2.2.1 (M20.1 a0 31) then if M20.2.1 (M20.1 a0 31) = 12 ∧ (0 : Int) ≤ r22 ∧ r22 < M20.2.2.1 (M20.1 a0 31) then bM (mst M20 (M20.1 a0 31) r22 (w32 ((M20.1 (M20.1 a0 31) r22) + 1))) fun M26 => if M26.2.1 (M26.1 a0 33) = 12 ∧ (0 : Int) ≤ a1 ∧ a1 < M26.2.2.1 (M26.1 a0 33) then if M26.2.1 (M26.1 a0 33) = 12 ∧ (0 : Int) ≤ a1 ∧ a1 < M26.2.2.1 (M26.1 a0 33) then bM (mst M26 (M26.1 a0 33) a1 (w32 ((M26.1 (M26.1 a0 33) a1) + 1))) fun M30 => if M30.2.1 (M30.1 a0 35) = 12 ∧ (0 : Int) ≤ a1 ∧ a1 < M30.2.2.1 (M30.1 a0 35) then if M30.2.1 (M30.1 a0 35) = 12 ∧ (0 : Int) ≤ a1 ∧ a1 < M30.2.2.1 (M30.1 a0 35) then bM (mst M30 (M30.1 a0 35) a1 (w32 ((M30.1 (M30.1 a0 35) a1) + 1))) fun M34 => if M34.2.1 (M34.1 a0 39) = 12 ∧ (0 : Int) ≤ a2 ∧ a2 < M34.2.2.1 (M34.1 a0 39) then if M34.2.1 (M34.1 a0 39) = 12 ∧ (0 : Int) ≤ a2 ∧ a2 < M34.2.2.1 (M34.1 a0 39) then bM (mst M34 (M34.1 a0 39) a2 (w32 ((M34.1 (M34.1 a0 39) a2) + 1))) fun M38 => if M38.2.1 (M38.1 a0 38) = 12 ∧ (0 : Int) ≤ a1 ∧ a1 < M38.2.2.1 (M38.1 a0 38) then bM (mst M38 (M38.1 a0 38) a1 (M38.1 a0 42)) fun M41 => some (1, M41) else none else none else none else none else none else none else none else none else none else none else none else none else none) else (some (0, M)) else none) else none)) else none
set_option maxRecDepth 100000 in
set_option maxHeartbeats 4000000 in
theorem kX11_takes (d : Nat) (hd : 3 ≤ d) (M : Mem) (a0 a1 a2 a3 : Int) : Ct mX11_takes d 0 0 [pA a0, pI a1, pI a2, pI a3] M dIM (fX11_takes M a0 a1 a2 a3) := by
  obtain ⟨d, rfl⟩ : ∃ k, d = k + 1 := ⟨d - 1, by omega⟩
  refine Ct.of 0 (fun _ _ _ => trivial) (by decide +kernel) rfl ?_
  unfold fX11_takes
  refine v_aload_n dX11_takes_0 rfl ?_
  refine v_iload_n dX11_takes_1 rfl ?_
  refine v_if (fun h3 => ?_)
  refine v_cV (mi := mX11_takes) (c0 := 0) (c1 := 0) (As := [pI a1]) (st := []) (kX11_isFree d (by omega) _ _ _) rfl h3 rfl okX11_isFree (Or.inl tw1590) tw1592 tp71 rfl (Nat.le_of_ble_eq_true rfl) dX11_takes_2 (fun r1 => [pI r1]) (fun r1 => M) (fun _ => rfl) (fun _ => rfl) (fun r1 h2 => ?_) rfl
  refine v_if_eq (tgt := 46) dX11_takes_5 (by decide) (fun c4 => ?_) (fun c4 => ?_)
  · refine v_iconst dX11_takes_46 (by decide) ?_
    exact v_breturn dX11_takes_47 rfl (by decide) rfl
  · refine v_aload_n dX11_takes_8 rfl ?_
    refine v_iload_n dX11_takes_9 rfl ?_
    refine v_cV (mi := mX11_takes) (c0 := 0) (c1 := 0) (As := [pI a2]) (st := []) (kX11_isHouse d (by omega) _ _ _) rfl h3 rfl okX11_isHouse (Or.inl tw1508) tw1510 tp56 rfl (Nat.le_of_ble_eq_true rfl) dX11_takes_10 (fun r5 => [pI r5]) (fun r5 => M) (fun _ => rfl) (fun _ => rfl) (fun r5 h6 => ?_) rfl
    refine v_if_eq (tgt := 46) dX11_takes_13 (by decide) (fun c7 => ?_) (fun c7 => ?_)
    · refine v_iconst dX11_takes_46 (by decide) ?_
      exact v_breturn dX11_takes_47 rfl (by decide) rfl
    · refine v_aload_n dX11_takes_16 rfl ?_
      refine v_get (v := pA (M.1 a0 29)) 10 29 rfl inX11 (by decide) tw1222 dX11_takes_17 h3 rfl ?_
      refine v_iconst dX11_takes_20 (by decide) ?_
      refine v_iload_n dX11_takes_21 rfl ?_
      refine v_imul dX11_takes_22 ?_
      refine v_iload_n dX11_takes_23 rfl ?_
      refine v_iadd dX11_takes_24 ?_
      refine v_if (fun h8 => ?_)
      refine v_iaload h8 dX11_takes_25 ?_
      refine v_if_eq (tgt := 46) dX11_takes_26 (by decide) (fun c9 => ?_) (fun c9 => ?_)
      · refine v_iconst dX11_takes_46 (by decide) ?_
        exact v_breturn dX11_takes_47 rfl (by decide) rfl
      · refine v_aload_n dX11_takes_29 rfl ?_
        refine v_get (v := pA (M.1 a0 33)) 10 33 rfl inX11 (by decide) tw1226 dX11_takes_30 h3 rfl ?_
        refine v_iload_n dX11_takes_33 rfl ?_
        refine v_if (fun h10 => ?_)
        refine v_iaload h10 dX11_takes_34 ?_
        refine v_aload_n dX11_takes_35 rfl ?_
        refine v_bipush dX11_takes_36 (by decide) ?_
        refine v_iload_n dX11_takes_38 rfl ?_
        refine v_iadd dX11_takes_39 ?_
        refine v_cV (mi := mX11_takes) (c0 := 0) (c1 := 0) (As := [pI (w32 (84 + a1))]) (st := [pI (M.1 (M.1 a0 33) a1)]) (kX11_of d (by omega) _ _ _) rfl h3 rfl okX11_of (Or.inl tw1504) tw1506 tp55 rfl (Nat.le_of_ble_eq_true rfl) dX11_takes_40 (fun r11 => [pI r11, pI (M.1 (M.1 a0 33) a1)]) (fun r11 => M) (fun _ => rfl) (fun _ => rfl) (fun r11 h12 => ?_) rfl
        refine v_icmp_lt (tgt := 48) dX11_takes_43 (by decide) (fun c13 => ?_) (fun c13 => ?_)
        · refine v_aload_n dX11_takes_48 rfl ?_
          refine v_get (v := pA (M.1 a0 29)) 10 29 rfl inX11 (by decide) tw1222 dX11_takes_49 h3 rfl ?_
          refine v_iconst dX11_takes_52 (by decide) ?_
          refine v_iload_n dX11_takes_53 rfl ?_
          refine v_imul dX11_takes_54 ?_
          refine v_iload_n dX11_takes_55 rfl ?_
          refine v_iadd dX11_takes_56 ?_
          refine v_dup2 dX11_takes_57 (by intro z hz; cases hz) (by intro z hz; cases hz) ?_
          refine v_if (fun h14 => ?_)
          refine v_iaload h14 dX11_takes_58 ?_
          refine v_iconst dX11_takes_59 (by decide) ?_
          refine v_isub dX11_takes_60 ?_
          refine v_if (fun h15 => ?_)
          refine v_iastore h15 dX11_takes_61 ?_
          refine v_bM (fun M16 e17 => ?_)
          refine v_aload_n dX11_takes_62 rfl ?_
          refine v_get (v := pA (M16.1 a0 30)) 10 30 rfl inX11 (by decide) tw1223 dX11_takes_63 (by rw [e17]; exact h3) rfl ?_
          refine v_iconst dX11_takes_66 (by decide) ?_
          refine v_iload_n dX11_takes_67 rfl ?_
          refine v_imul dX11_takes_68 ?_
          refine v_iload_n dX11_takes_69 rfl ?_
          refine v_iadd dX11_takes_70 ?_
          refine v_dup2 dX11_takes_71 (by intro z hz; cases hz) (by intro z hz; cases hz) ?_
          refine v_if (fun h18 => ?_)
          refine v_iaload h18 dX11_takes_72 ?_
          refine v_iconst dX11_takes_73 (by decide) ?_
          refine v_iadd dX11_takes_74 ?_
          refine v_if (fun h19 => ?_)
          refine v_iastore h19 dX11_takes_75 ?_
          refine v_bM (fun M20 e21 => ?_)
          refine v_aload_n dX11_takes_76 rfl ?_
          refine v_get (v := pA (M20.1 a0 31)) 10 31 rfl inX11 (by decide) tw1224 dX11_takes_77 (by rw [e21, e17]; exact h3) rfl ?_
          refine v_iload_n dX11_takes_80 rfl ?_
          refine v_iload_n dX11_takes_81 rfl ?_
          refine v_iload_n dX11_takes_82 rfl ?_
          refine v_cS (mi := mX11_takes) (c0 := 0) (c1 := 0) (As := [pI a1, pI a2, pI a3]) (st := [pA (M20.1 a0 31)]) (kX11_place d (by omega) _ _ _ _) okX11_place (Or.inl tw1594) tw1595 rfl (Nat.le_of_ble_eq_true rfl) dX11_takes_83 (fun r22 => [pI r22, pA (M20.1 a0 31)]) (fun r22 => M20) (fun _ => rfl) (fun _ => rfl) (fun r22 h23 => ?_) rfl
          refine v_dup2 dX11_takes_86 (by intro z hz; cases hz) (by intro z hz; cases hz) ?_
          refine v_if (fun h24 => ?_)
          refine v_iaload h24 dX11_takes_87 ?_
          refine v_iconst dX11_takes_88 (by decide) ?_
          refine v_iadd dX11_takes_89 ?_
          refine v_if (fun h25 => ?_)
          refine v_iastore h25 dX11_takes_90 ?_
          refine v_bM (fun M26 e27 => ?_)
          refine v_aload_n dX11_takes_91 rfl ?_
          refine v_get (v := pA (M26.1 a0 33)) 10 33 rfl inX11 (by decide) tw1226 dX11_takes_92 (by rw [e27, e21, e17]; exact h3) rfl ?_
          refine v_iload_n dX11_takes_95 rfl ?_
          refine v_dup2 dX11_takes_96 (by intro z hz; cases hz) (by intro z hz; cases hz) ?_
          refine v_if (fun h28 => ?_)
          refine v_iaload h28 dX11_takes_97 ?_
          refine v_iconst dX11_takes_98 (by decide) ?_
          refine v_iadd dX11_takes_99 ?_
          refine v_if (fun h29 => ?_)
          refine v_iastore h29 dX11_takes_100 ?_
          refine v_bM (fun M30 e31 => ?_)
          refine v_aload_n dX11_takes_101 rfl ?_
          refine v_get (v := pA (M30.1 a0 35)) 10 35 rfl inX11 (by decide) tw1228 dX11_takes_102 (by rw [e31, e27, e21, e17]; exact h3) rfl ?_
          refine v_iload_n dX11_takes_105 rfl ?_
          refine v_dup2 dX11_takes_106 (by intro z hz; cases hz) (by intro z hz; cases hz) ?_
          refine v_if (fun h32 => ?_)
          refine v_iaload h32 dX11_takes_107 ?_
          refine v_iconst dX11_takes_108 (by decide) ?_
          refine v_iadd dX11_takes_109 ?_
          refine v_if (fun h33 => ?_)
          refine v_iastore h33 dX11_takes_110 ?_
          refine v_bM (fun M34 e35 => ?_)
          refine v_aload_n dX11_takes_111 rfl ?_
          refine v_get (v := pA (M34.1 a0 39)) 10 39 rfl inX11 (by decide) tw1232 dX11_takes_112 (by rw [e35, e31, e27, e21, e17]; exact h3) rfl ?_
          refine v_iload_n dX11_takes_115 rfl ?_
          refine v_dup2 dX11_takes_116 (by intro z hz; cases hz) (by intro z hz; cases hz) ?_
          refine v_if (fun h36 => ?_)
          refine v_iaload h36 dX11_takes_117 ?_
          refine v_iconst dX11_takes_118 (by decide) ?_
          refine v_iadd dX11_takes_119 ?_
          refine v_if (fun h37 => ?_)
          refine v_iastore h37 dX11_takes_120 ?_
          refine v_bM (fun M38 e39 => ?_)
          refine v_aload_n dX11_takes_121 rfl ?_
          refine v_get (v := pA (M38.1 a0 38)) 10 38 rfl inX11 (by decide) tw1231 dX11_takes_122 (by rw [e39, e35, e31, e27, e21, e17]; exact h3) rfl ?_
          refine v_iload_n dX11_takes_125 rfl ?_
          refine v_aload_n dX11_takes_126 rfl ?_
          refine v_get (v := pI (M38.1 a0 42)) 10 42 rfl inX11 (by decide) tw1235 dX11_takes_127 (by rw [e39, e35, e31, e27, e21, e17]; exact h3) rfl ?_
          refine v_if (fun h40 => ?_)
          refine v_iastore h40 dX11_takes_130 ?_
          refine v_bM (fun M41 e42 => ?_)
          refine v_iconst dX11_takes_131 (by decide) ?_
          exact v_breturn dX11_takes_132 rfl (by decide) rfl
        · refine v_iconst dX11_takes_46 (by decide) ?_
          exact v_breturn dX11_takes_47 rfl (by decide) rfl
theorem chX11_mayGive_0 : (cX11_mayGive.data.toList.drop 0).take 16 = [42, 27, 182, 1, 85, 153, 0, 67, 42, 28, 182, 1, 34, 153, 0, 59] := by decide +kernel
theorem chX11_mayGive_1 : (cX11_mayGive.data.toList.drop 16).take 16 = [42, 180, 0, 47, 8, 27, 104, 29, 96, 46, 158, 0, 46, 42, 16, 32] := by decide +kernel
theorem chX11_mayGive_2 : (cX11_mayGive.data.toList.drop 32).take 16 = [8, 28, 104, 96, 29, 96, 182, 1, 21, 42, 180, 0, 44, 8, 28, 104] := by decide +kernel
theorem chX11_mayGive_3 : (cX11_mayGive.data.toList.drop 48).take 16 = [29, 96, 46, 164, 0, 21, 42, 180, 0, 50, 27, 28, 29, 184, 1, 88] := by decide +kernel
theorem chX11_mayGive_4 : (cX11_mayGive.data.toList.drop 64).take 16 = [46, 154, 0, 7, 4, 167, 0, 4, 3, 172] := by decide +kernel
theorem dX11_mayGive_0 : decode cX11_mayGive 0 = .ok (.aload_n 0, 1) := oq_42 (byt chX11_mayGive_0 0 rfl)
theorem dX11_mayGive_1 : decode cX11_mayGive 1 = .ok (.iload_n 1, 1) := oq_27 (byt chX11_mayGive_0 1 rfl)
theorem dX11_mayGive_2 : decode cX11_mayGive 2 = .ok (.invokevirtual 341, 3) := oq_182 (byt chX11_mayGive_0 2 rfl) (byt chX11_mayGive_0 3 rfl) (byt chX11_mayGive_0 4 rfl) rfl
theorem dX11_mayGive_5 : decode cX11_mayGive 5 = .ok (.ifCond .eq 67, 3) := oq_153 (byt chX11_mayGive_0 5 rfl) (byt chX11_mayGive_0 6 rfl) (byt chX11_mayGive_0 7 rfl) (by decide +kernel)
theorem dX11_mayGive_8 : decode cX11_mayGive 8 = .ok (.aload_n 0, 1) := oq_42 (byt chX11_mayGive_0 8 rfl)
theorem dX11_mayGive_9 : decode cX11_mayGive 9 = .ok (.iload_n 2, 1) := oq_28 (byt chX11_mayGive_0 9 rfl)
theorem dX11_mayGive_10 : decode cX11_mayGive 10 = .ok (.invokevirtual 290, 3) := oq_182 (byt chX11_mayGive_0 10 rfl) (byt chX11_mayGive_0 11 rfl) (byt chX11_mayGive_0 12 rfl) rfl
theorem dX11_mayGive_13 : decode cX11_mayGive 13 = .ok (.ifCond .eq 59, 3) := oq_153 (byt chX11_mayGive_0 13 rfl) (byt chX11_mayGive_0 14 rfl) (byt chX11_mayGive_0 15 rfl) (by decide +kernel)
theorem dX11_mayGive_16 : decode cX11_mayGive 16 = .ok (.aload_n 0, 1) := oq_42 (byt chX11_mayGive_1 0 rfl)
theorem dX11_mayGive_17 : decode cX11_mayGive 17 = .ok (.getfield 47, 3) := oq_180 (byt chX11_mayGive_1 1 rfl) (byt chX11_mayGive_1 2 rfl) (byt chX11_mayGive_1 3 rfl) rfl
theorem dX11_mayGive_20 : decode cX11_mayGive 20 = .ok (.iconst 5, 1) := oq_8 (byt chX11_mayGive_1 4 rfl)
theorem dX11_mayGive_21 : decode cX11_mayGive 21 = .ok (.iload_n 1, 1) := oq_27 (byt chX11_mayGive_1 5 rfl)
theorem dX11_mayGive_22 : decode cX11_mayGive 22 = .ok (.imul, 1) := oq_104 (byt chX11_mayGive_1 6 rfl)
theorem dX11_mayGive_23 : decode cX11_mayGive 23 = .ok (.iload_n 3, 1) := oq_29 (byt chX11_mayGive_1 7 rfl)
theorem dX11_mayGive_24 : decode cX11_mayGive 24 = .ok (.iadd, 1) := oq_96 (byt chX11_mayGive_1 8 rfl)
theorem dX11_mayGive_25 : decode cX11_mayGive 25 = .ok (.iaload, 1) := oq_46 (byt chX11_mayGive_1 9 rfl)
theorem dX11_mayGive_26 : decode cX11_mayGive 26 = .ok (.ifCond .le 46, 3) := oq_158 (byt chX11_mayGive_1 10 rfl) (byt chX11_mayGive_1 11 rfl) (byt chX11_mayGive_1 12 rfl) (by decide +kernel)
theorem dX11_mayGive_29 : decode cX11_mayGive 29 = .ok (.aload_n 0, 1) := oq_42 (byt chX11_mayGive_1 13 rfl)
theorem dX11_mayGive_30 : decode cX11_mayGive 30 = .ok (.bipush 32, 2) := oq_16 (byt chX11_mayGive_1 14 rfl) (byt chX11_mayGive_1 15 rfl) rfl
theorem dX11_mayGive_32 : decode cX11_mayGive 32 = .ok (.iconst 5, 1) := oq_8 (byt chX11_mayGive_2 0 rfl)
theorem dX11_mayGive_33 : decode cX11_mayGive 33 = .ok (.iload_n 2, 1) := oq_28 (byt chX11_mayGive_2 1 rfl)
theorem dX11_mayGive_34 : decode cX11_mayGive 34 = .ok (.imul, 1) := oq_104 (byt chX11_mayGive_2 2 rfl)
theorem dX11_mayGive_35 : decode cX11_mayGive 35 = .ok (.iadd, 1) := oq_96 (byt chX11_mayGive_2 3 rfl)
theorem dX11_mayGive_36 : decode cX11_mayGive 36 = .ok (.iload_n 3, 1) := oq_29 (byt chX11_mayGive_2 4 rfl)
theorem dX11_mayGive_37 : decode cX11_mayGive 37 = .ok (.iadd, 1) := oq_96 (byt chX11_mayGive_2 5 rfl)
theorem dX11_mayGive_38 : decode cX11_mayGive 38 = .ok (.invokevirtual 277, 3) := oq_182 (byt chX11_mayGive_2 6 rfl) (byt chX11_mayGive_2 7 rfl) (byt chX11_mayGive_2 8 rfl) rfl
theorem dX11_mayGive_41 : decode cX11_mayGive 41 = .ok (.aload_n 0, 1) := oq_42 (byt chX11_mayGive_2 9 rfl)
theorem dX11_mayGive_42 : decode cX11_mayGive 42 = .ok (.getfield 44, 3) := oq_180 (byt chX11_mayGive_2 10 rfl) (byt chX11_mayGive_2 11 rfl) (byt chX11_mayGive_2 12 rfl) rfl
theorem dX11_mayGive_45 : decode cX11_mayGive 45 = .ok (.iconst 5, 1) := oq_8 (byt chX11_mayGive_2 13 rfl)
theorem dX11_mayGive_46 : decode cX11_mayGive 46 = .ok (.iload_n 2, 1) := oq_28 (byt chX11_mayGive_2 14 rfl)
theorem dX11_mayGive_47 : decode cX11_mayGive 47 = .ok (.imul, 1) := oq_104 (byt chX11_mayGive_2 15 rfl)
theorem dX11_mayGive_48 : decode cX11_mayGive 48 = .ok (.iload_n 3, 1) := oq_29 (byt chX11_mayGive_3 0 rfl)
theorem dX11_mayGive_49 : decode cX11_mayGive 49 = .ok (.iadd, 1) := oq_96 (byt chX11_mayGive_3 1 rfl)
theorem dX11_mayGive_50 : decode cX11_mayGive 50 = .ok (.iaload, 1) := oq_46 (byt chX11_mayGive_3 2 rfl)
theorem dX11_mayGive_51 : decode cX11_mayGive 51 = .ok (.if_icmp .le 21, 3) := oq_164 (byt chX11_mayGive_3 3 rfl) (byt chX11_mayGive_3 4 rfl) (byt chX11_mayGive_3 5 rfl) (by decide +kernel)
theorem dX11_mayGive_54 : decode cX11_mayGive 54 = .ok (.aload_n 0, 1) := oq_42 (byt chX11_mayGive_3 6 rfl)
theorem dX11_mayGive_55 : decode cX11_mayGive 55 = .ok (.getfield 50, 3) := oq_180 (byt chX11_mayGive_3 7 rfl) (byt chX11_mayGive_3 8 rfl) (byt chX11_mayGive_3 9 rfl) rfl
theorem dX11_mayGive_58 : decode cX11_mayGive 58 = .ok (.iload_n 1, 1) := oq_27 (byt chX11_mayGive_3 10 rfl)
theorem dX11_mayGive_59 : decode cX11_mayGive 59 = .ok (.iload_n 2, 1) := oq_28 (byt chX11_mayGive_3 11 rfl)
theorem dX11_mayGive_60 : decode cX11_mayGive 60 = .ok (.iload_n 3, 1) := oq_29 (byt chX11_mayGive_3 12 rfl)
theorem dX11_mayGive_61 : decode cX11_mayGive 61 = .ok (.invokestatic 344, 3) := oq_184 (byt chX11_mayGive_3 13 rfl) (byt chX11_mayGive_3 14 rfl) (byt chX11_mayGive_3 15 rfl) rfl
theorem dX11_mayGive_64 : decode cX11_mayGive 64 = .ok (.iaload, 1) := oq_46 (byt chX11_mayGive_4 0 rfl)
theorem dX11_mayGive_65 : decode cX11_mayGive 65 = .ok (.ifCond .ne 7, 3) := oq_154 (byt chX11_mayGive_4 1 rfl) (byt chX11_mayGive_4 2 rfl) (byt chX11_mayGive_4 3 rfl) (by decide +kernel)
theorem dX11_mayGive_68 : decode cX11_mayGive 68 = .ok (.iconst 1, 1) := oq_4 (byt chX11_mayGive_4 4 rfl)
theorem dX11_mayGive_69 : decode cX11_mayGive 69 = .ok (.goto 4, 3) := oq_167 (byt chX11_mayGive_4 5 rfl) (byt chX11_mayGive_4 6 rfl) (byt chX11_mayGive_4 7 rfl) (by decide +kernel)
theorem dX11_mayGive_72 : decode cX11_mayGive 72 = .ok (.iconst 0, 1) := oq_3 (byt chX11_mayGive_4 8 rfl)
theorem dX11_mayGive_73 : decode cX11_mayGive 73 = .ok (.ireturn, 1) := oq_172 (byt chX11_mayGive_4 9 rfl)
abbrev mX11_mayGive : MI := (yX11_mayGive, cX11_mayGive, 4, (some .boolean), noE)
theorem okX11_mayGive : cok mX11_mayGive 3 := ⟨tw1604, tw11, by decide, by decide, by decide, by decide +kernel⟩
def fX11_mayGive (M : Mem) (a0 a1 a2 a3 : Int) : Option Int :=
  if M.2.1 a0 = 10 then (fX11_isFree M a0 a1).bind fun r1 => if r1 = 0 then (some 0) else ((fX11_isHouse M a0 a2).bind fun r5 => if r5 = 0 then (some 0) else (if M.2.1 (M.1 a0 30) = 12 ∧ (0 : Int) ≤ (w32 ((w32 (5 * a1)) + a3)) ∧ (w32 ((w32 (5 * a1)) + a3)) < M.2.2.1 (M.1 a0 30) then if 0 < M.1 (M.1 a0 30) (w32 ((w32 (5 * a1)) + a3)) then ((fX11_of M a0 (w32 ((w32 (32 + (w32 (5 * a2)))) + a3))).bind fun r10 => if M.2.1 (M.1 a0 29) = 12 ∧ (0 : Int) ≤ (w32 ((w32 (5 * a2)) + a3)) ∧ (w32 ((w32 (5 * a2)) + a3)) < M.2.2.1 (M.1 a0 29) then if M.1 (M.1 a0 29) (w32 ((w32 (5 * a2)) + a3)) < r10 then ((fX11_place M a1 a2 a3).bind fun r14 => if M.2.1 (M.1 a0 31) = 12 ∧ (0 : Int) ≤ r14 ∧ r14 < M.2.2.1 (M.1 a0 31) then if M.1 (M.1 a0 31) r14 = 0 then (some 1) else (some 0) else none) else (some 0) else none) else (some 0) else none)) else none
set_option maxRecDepth 100000 in
set_option maxHeartbeats 4000000 in
theorem kX11_mayGive (d : Nat) (hd : 3 ≤ d) (M : Mem) (a0 a1 a2 a3 : Int) : Ct mX11_mayGive d 0 0 [pA a0, pI a1, pI a2, pI a3] M (dI M) (fX11_mayGive M a0 a1 a2 a3) := by
  obtain ⟨d, rfl⟩ : ∃ k, d = k + 1 := ⟨d - 1, by omega⟩
  refine Ct.of 0 (fun _ _ _ => trivial) (by decide +kernel) rfl ?_
  unfold fX11_mayGive
  refine v_aload_n dX11_mayGive_0 rfl ?_
  refine v_iload_n dX11_mayGive_1 rfl ?_
  refine v_if (fun h3 => ?_)
  refine v_cV (mi := mX11_mayGive) (c0 := 0) (c1 := 0) (As := [pI a1]) (st := []) (kX11_isFree d (by omega) _ _ _) rfl h3 rfl okX11_isFree (Or.inl tw1590) tw1592 tp71 rfl (Nat.le_of_ble_eq_true rfl) dX11_mayGive_2 (fun r1 => [pI r1]) (fun r1 => M) (fun _ => rfl) (fun _ => rfl) (fun r1 h2 => ?_) rfl
  refine v_if_eq (tgt := 72) dX11_mayGive_5 (by decide) (fun c4 => ?_) (fun c4 => ?_)
  · refine v_iconst dX11_mayGive_72 (by decide) ?_
    exact v_breturn dX11_mayGive_73 rfl (by decide) rfl
  · refine v_aload_n dX11_mayGive_8 rfl ?_
    refine v_iload_n dX11_mayGive_9 rfl ?_
    refine v_cV (mi := mX11_mayGive) (c0 := 0) (c1 := 0) (As := [pI a2]) (st := []) (kX11_isHouse d (by omega) _ _ _) rfl h3 rfl okX11_isHouse (Or.inl tw1508) tw1510 tp56 rfl (Nat.le_of_ble_eq_true rfl) dX11_mayGive_10 (fun r5 => [pI r5]) (fun r5 => M) (fun _ => rfl) (fun _ => rfl) (fun r5 h6 => ?_) rfl
    refine v_if_eq (tgt := 72) dX11_mayGive_13 (by decide) (fun c7 => ?_) (fun c7 => ?_)
    · refine v_iconst dX11_mayGive_72 (by decide) ?_
      exact v_breturn dX11_mayGive_73 rfl (by decide) rfl
    · refine v_aload_n dX11_mayGive_16 rfl ?_
      refine v_get (v := pA (M.1 a0 30)) 10 30 rfl inX11 (by decide) tw1223 dX11_mayGive_17 h3 rfl ?_
      refine v_iconst dX11_mayGive_20 (by decide) ?_
      refine v_iload_n dX11_mayGive_21 rfl ?_
      refine v_imul dX11_mayGive_22 ?_
      refine v_iload_n dX11_mayGive_23 rfl ?_
      refine v_iadd dX11_mayGive_24 ?_
      refine v_if (fun h8 => ?_)
      refine v_iaload h8 dX11_mayGive_25 ?_
      refine v_if_le (tgt := 72) dX11_mayGive_26 (by decide) (fun c9 => ?_) (fun c9 => ?_)
      · refine v_aload_n dX11_mayGive_29 rfl ?_
        refine v_bipush dX11_mayGive_30 (by decide) ?_
        refine v_iconst dX11_mayGive_32 (by decide) ?_
        refine v_iload_n dX11_mayGive_33 rfl ?_
        refine v_imul dX11_mayGive_34 ?_
        refine v_iadd dX11_mayGive_35 ?_
        refine v_iload_n dX11_mayGive_36 rfl ?_
        refine v_iadd dX11_mayGive_37 ?_
        refine v_cV (mi := mX11_mayGive) (c0 := 0) (c1 := 0) (As := [pI (w32 ((w32 (32 + (w32 (5 * a2)))) + a3))]) (st := []) (kX11_of d (by omega) _ _ _) rfl h3 rfl okX11_of (Or.inl tw1504) tw1506 tp55 rfl (Nat.le_of_ble_eq_true rfl) dX11_mayGive_38 (fun r10 => [pI r10]) (fun r10 => M) (fun _ => rfl) (fun _ => rfl) (fun r10 h11 => ?_) rfl
        refine v_aload_n dX11_mayGive_41 rfl ?_
        refine v_get (v := pA (M.1 a0 29)) 10 29 rfl inX11 (by decide) tw1222 dX11_mayGive_42 h3 rfl ?_
        refine v_iconst dX11_mayGive_45 (by decide) ?_
        refine v_iload_n dX11_mayGive_46 rfl ?_
        refine v_imul dX11_mayGive_47 ?_
        refine v_iload_n dX11_mayGive_48 rfl ?_
        refine v_iadd dX11_mayGive_49 ?_
        refine v_if (fun h12 => ?_)
        refine v_iaload h12 dX11_mayGive_50 ?_
        refine v_icmp_le (tgt := 72) dX11_mayGive_51 (by decide) (fun c13 => ?_) (fun c13 => ?_)
        · refine v_aload_n dX11_mayGive_54 rfl ?_
          refine v_get (v := pA (M.1 a0 31)) 10 31 rfl inX11 (by decide) tw1224 dX11_mayGive_55 h3 rfl ?_
          refine v_iload_n dX11_mayGive_58 rfl ?_
          refine v_iload_n dX11_mayGive_59 rfl ?_
          refine v_iload_n dX11_mayGive_60 rfl ?_
          refine v_cS (mi := mX11_mayGive) (c0 := 0) (c1 := 0) (As := [pI a1, pI a2, pI a3]) (st := [pA (M.1 a0 31)]) (kX11_place d (by omega) _ _ _ _) okX11_place (Or.inl tw1594) tw1595 rfl (Nat.le_of_ble_eq_true rfl) dX11_mayGive_61 (fun r14 => [pI r14, pA (M.1 a0 31)]) (fun r14 => M) (fun _ => rfl) (fun _ => rfl) (fun r14 h15 => ?_) rfl
          refine v_if (fun h16 => ?_)
          refine v_iaload h16 dX11_mayGive_64 ?_
          refine v_if_ne (tgt := 72) dX11_mayGive_65 (by decide) (fun c17 => ?_) (fun c17 => ?_)
          · refine v_iconst dX11_mayGive_68 (by decide) ?_
            refine v_goto (tgt := 73) dX11_mayGive_69 (by decide) ?_
            exact v_breturn dX11_mayGive_73 rfl (by decide) rfl
          · refine v_iconst dX11_mayGive_72 (by decide) ?_
            exact v_breturn dX11_mayGive_73 rfl (by decide) rfl
        · refine v_iconst dX11_mayGive_72 (by decide) ?_
          exact v_breturn dX11_mayGive_73 rfl (by decide) rfl
      · refine v_iconst dX11_mayGive_72 (by decide) ?_
        exact v_breturn dX11_mayGive_73 rfl (by decide) rfl
