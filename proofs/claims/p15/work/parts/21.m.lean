theorem chX11_wealthOf_0 : (cX11_wealthOf.data.toList.drop 0).take 16 = [3, 61, 3, 62, 29, 8, 162, 0, 31, 28, 42, 180, 0, 44, 8, 27] := by decide +kernel
theorem chX11_wealthOf_1 : (cX11_wealthOf.data.toList.drop 16).take 16 = [104, 29, 96, 46, 42, 16, 79, 29, 96, 182, 1, 21, 104, 96, 61, 132] := by decide +kernel
theorem chX11_wealthOf_2 : (cX11_wealthOf.data.toList.drop 32).take 16 = [3, 1, 167, 255, 226, 28, 172] := by decide +kernel
theorem dX11_wealthOf_0 : decode cX11_wealthOf 0 = .ok (.iconst 0, 1) := oq_3 (byt chX11_wealthOf_0 0 rfl)
theorem dX11_wealthOf_1 : decode cX11_wealthOf 1 = .ok (.istore_n 2, 1) := oq_61 (byt chX11_wealthOf_0 1 rfl)
theorem dX11_wealthOf_2 : decode cX11_wealthOf 2 = .ok (.iconst 0, 1) := oq_3 (byt chX11_wealthOf_0 2 rfl)
theorem dX11_wealthOf_3 : decode cX11_wealthOf 3 = .ok (.istore_n 3, 1) := oq_62 (byt chX11_wealthOf_0 3 rfl)
theorem dX11_wealthOf_4 : decode cX11_wealthOf 4 = .ok (.iload_n 3, 1) := oq_29 (byt chX11_wealthOf_0 4 rfl)
theorem dX11_wealthOf_5 : decode cX11_wealthOf 5 = .ok (.iconst 5, 1) := oq_8 (byt chX11_wealthOf_0 5 rfl)
theorem dX11_wealthOf_6 : decode cX11_wealthOf 6 = .ok (.if_icmp .ge 31, 3) := oq_162 (byt chX11_wealthOf_0 6 rfl) (byt chX11_wealthOf_0 7 rfl) (byt chX11_wealthOf_0 8 rfl) (by decide +kernel)
theorem dX11_wealthOf_9 : decode cX11_wealthOf 9 = .ok (.iload_n 2, 1) := oq_28 (byt chX11_wealthOf_0 9 rfl)
theorem dX11_wealthOf_10 : decode cX11_wealthOf 10 = .ok (.aload_n 0, 1) := oq_42 (byt chX11_wealthOf_0 10 rfl)
theorem dX11_wealthOf_11 : decode cX11_wealthOf 11 = .ok (.getfield 44, 3) := oq_180 (byt chX11_wealthOf_0 11 rfl) (byt chX11_wealthOf_0 12 rfl) (byt chX11_wealthOf_0 13 rfl) rfl
theorem dX11_wealthOf_14 : decode cX11_wealthOf 14 = .ok (.iconst 5, 1) := oq_8 (byt chX11_wealthOf_0 14 rfl)
theorem dX11_wealthOf_15 : decode cX11_wealthOf 15 = .ok (.iload_n 1, 1) := oq_27 (byt chX11_wealthOf_0 15 rfl)
theorem dX11_wealthOf_16 : decode cX11_wealthOf 16 = .ok (.imul, 1) := oq_104 (byt chX11_wealthOf_1 0 rfl)
theorem dX11_wealthOf_17 : decode cX11_wealthOf 17 = .ok (.iload_n 3, 1) := oq_29 (byt chX11_wealthOf_1 1 rfl)
theorem dX11_wealthOf_18 : decode cX11_wealthOf 18 = .ok (.iadd, 1) := oq_96 (byt chX11_wealthOf_1 2 rfl)
theorem dX11_wealthOf_19 : decode cX11_wealthOf 19 = .ok (.iaload, 1) := oq_46 (byt chX11_wealthOf_1 3 rfl)
theorem dX11_wealthOf_20 : decode cX11_wealthOf 20 = .ok (.aload_n 0, 1) := oq_42 (byt chX11_wealthOf_1 4 rfl)
theorem dX11_wealthOf_21 : decode cX11_wealthOf 21 = .ok (.bipush 79, 2) := oq_16 (byt chX11_wealthOf_1 5 rfl) (byt chX11_wealthOf_1 6 rfl) rfl
theorem dX11_wealthOf_23 : decode cX11_wealthOf 23 = .ok (.iload_n 3, 1) := oq_29 (byt chX11_wealthOf_1 7 rfl)
theorem dX11_wealthOf_24 : decode cX11_wealthOf 24 = .ok (.iadd, 1) := oq_96 (byt chX11_wealthOf_1 8 rfl)
theorem dX11_wealthOf_25 : decode cX11_wealthOf 25 = .ok (.invokevirtual 277, 3) := oq_182 (byt chX11_wealthOf_1 9 rfl) (byt chX11_wealthOf_1 10 rfl) (byt chX11_wealthOf_1 11 rfl) rfl
theorem dX11_wealthOf_28 : decode cX11_wealthOf 28 = .ok (.imul, 1) := oq_104 (byt chX11_wealthOf_1 12 rfl)
theorem dX11_wealthOf_29 : decode cX11_wealthOf 29 = .ok (.iadd, 1) := oq_96 (byt chX11_wealthOf_1 13 rfl)
theorem dX11_wealthOf_30 : decode cX11_wealthOf 30 = .ok (.istore_n 2, 1) := oq_61 (byt chX11_wealthOf_1 14 rfl)
theorem dX11_wealthOf_31 : decode cX11_wealthOf 31 = .ok (.iinc 3 1, 3) := oq_132 (byt chX11_wealthOf_1 15 rfl) (byt chX11_wealthOf_2 0 rfl) (byt chX11_wealthOf_2 1 rfl) rfl
theorem dX11_wealthOf_34 : decode cX11_wealthOf 34 = .ok (.goto (-30), 3) := oq_167 (byt chX11_wealthOf_2 2 rfl) (byt chX11_wealthOf_2 3 rfl) (byt chX11_wealthOf_2 4 rfl) (by decide +kernel)
theorem dX11_wealthOf_37 : decode cX11_wealthOf 37 = .ok (.iload_n 2, 1) := oq_28 (byt chX11_wealthOf_2 5 rfl)
theorem dX11_wealthOf_38 : decode cX11_wealthOf 38 = .ok (.ireturn, 1) := oq_172 (byt chX11_wealthOf_2 6 rfl)
abbrev mX11_wealthOf : MI := (yX11_wealthOf, cX11_wealthOf, 4, (some .int), noE)
theorem okX11_wealthOf : cok mX11_wealthOf 1 := ⟨tw1817, tw11, by decide, by decide, by decide, by decide +kernel⟩
def fX11_wealthOf (M : Mem) (a0 a1 : Int) : Option Int :=
  iterC (fun (rec1 : (Int × Int) → Option Int) (s2 : Int × Int) => if s2.2 < 5 then (if M.2.1 a0 = 10 then if M.2.1 (M.1 a0 29) = 12 ∧ (0 : Int) ≤ (w32 ((w32 (5 * a1)) + s2.2)) ∧ (w32 ((w32 (5 * a1)) + s2.2)) < M.2.2.1 (M.1 a0 29) then (fX11_of M a0 (w32 (79 + s2.2))).bind fun r6 => rec1 (w32 (s2.1 + (w32 ((M.1 (M.1 a0 29) (w32 ((w32 (5 * a1)) + s2.2))) * r6))), w32 (s2.2 + 1)) else none else none) else (some s2.1)) BIG (0, 0)
set_option maxRecDepth 100000 in
set_option maxHeartbeats 4000000 in
theorem kX11_wealthOf (d : Nat) (hd : 1 ≤ d) (M : Mem) (a0 a1 : Int) : Ct mX11_wealthOf d 0 0 [pA a0, pI a1] M (dI M) (fX11_wealthOf M a0 a1) := by
  obtain ⟨d, rfl⟩ : ∃ k, d = k + 1 := ⟨d - 1, by omega⟩
  refine Ct.of 2 (fun _ _ _ => trivial) (by decide +kernel) rfl ?_
  unfold fX11_wealthOf
  refine v_iconst dX11_wealthOf_0 (by decide) ?_
  refine v_istore_n (ls' := [some (pA a0), some (pI a1), some (pI 0), none]) dX11_wealthOf_1 (by decide) rfl ?_
  refine v_iconst dX11_wealthOf_2 (by decide) ?_
  refine v_istore_n (ls' := [some (pA a0), some (pI a1), some (pI 0), some (pI 0)]) dX11_wealthOf_3 (by decide) rfl ?_
  refine v_loop (fun (s2 : Int × Int) => [some (pA a0), some (pI a1), some (pI s2.1), some (pI s2.2)]) (fun (s2 : Int × Int) => M) (s0 := (0, 0)) ?_
  intro rec1 hrec1 s2
  refine v_iload_n dX11_wealthOf_4 rfl ?_
  refine v_iconst dX11_wealthOf_5 (by decide) ?_
  refine v_icmp_ge (tgt := 37) dX11_wealthOf_6 (by decide) (fun c3 => ?_) (fun c3 => ?_)
  · refine v_iload_n dX11_wealthOf_9 rfl ?_
    refine v_aload_n dX11_wealthOf_10 rfl ?_
    refine v_if (fun h4 => ?_)
    refine v_get (v := pA (M.1 a0 29)) 10 29 rfl inX11 (by decide) tw1222 dX11_wealthOf_11 h4 rfl ?_
    refine v_iconst dX11_wealthOf_14 (by decide) ?_
    refine v_iload_n dX11_wealthOf_15 rfl ?_
    refine v_imul dX11_wealthOf_16 ?_
    refine v_iload_n dX11_wealthOf_17 rfl ?_
    refine v_iadd dX11_wealthOf_18 ?_
    refine v_if (fun h5 => ?_)
    refine v_iaload h5 dX11_wealthOf_19 ?_
    refine v_aload_n dX11_wealthOf_20 rfl ?_
    refine v_bipush dX11_wealthOf_21 (by decide) ?_
    refine v_iload_n dX11_wealthOf_23 rfl ?_
    refine v_iadd dX11_wealthOf_24 ?_
    refine v_cV (mi := mX11_wealthOf) (c0 := 0) (c1 := 0) (As := [pI (w32 (79 + s2.2))]) (st := [pI (M.1 (M.1 a0 29) (w32 ((w32 (5 * a1)) + s2.2))), pI s2.1]) (kX11_of d (by omega) _ _ _) rfl h4 rfl okX11_of (Or.inl tw1504) tw1506 tp55 rfl (Nat.le_of_ble_eq_true rfl) dX11_wealthOf_25 (fun r6 => [pI r6, pI (M.1 (M.1 a0 29) (w32 ((w32 (5 * a1)) + s2.2))), pI s2.1]) (fun r6 => M) (fun _ => rfl) (fun _ => rfl) (fun r6 h7 => ?_) rfl
    refine v_imul dX11_wealthOf_28 ?_
    refine v_iadd dX11_wealthOf_29 ?_
    refine v_istore_n (ls' := [some (pA a0), some (pI a1), some (pI (w32 (s2.1 + (w32 ((M.1 (M.1 a0 29) (w32 ((w32 (5 * a1)) + s2.2))) * r6))))), some (pI s2.2)]) dX11_wealthOf_30 (by decide) rfl ?_
    refine v_iinc (ls' := [some (pA a0), some (pI a1), some (pI (w32 (s2.1 + (w32 ((M.1 (M.1 a0 29) (w32 ((w32 (5 * a1)) + s2.2))) * r6))))), some (pI (w32 (s2.2 + 1)))]) dX11_wealthOf_31 (by decide) rfl rfl ?_
    refine v_goto (tgt := 4) dX11_wealthOf_34 (by decide) ?_
    exact hrec1 (w32 (s2.1 + (w32 ((M.1 (M.1 a0 29) (w32 ((w32 (5 * a1)) + s2.2))) * r6))), w32 (s2.2 + 1))
  · refine v_iload_n dX11_wealthOf_37 rfl ?_
    exact v_ireturn dX11_wealthOf_38 rfl rfl
theorem chX11_ranked_0 : (cX11_ranked.data.toList.drop 0).take 16 = [3, 61, 28, 42, 180, 1, 25, 162, 0, 78, 3, 62, 3, 54, 4, 21] := by decide +kernel
theorem chX11_ranked_1 : (cX11_ranked.data.toList.drop 16).take 16 = [4, 42, 180, 1, 25, 162, 0, 51, 29, 42, 21, 4, 182, 1, 236, 42] := by decide +kernel
theorem chX11_ranked_2 : (cX11_ranked.data.toList.drop 32).take 16 = [28, 182, 1, 236, 163, 0, 23, 42, 21, 4, 182, 1, 236, 42, 28, 182] := by decide +kernel
theorem chX11_ranked_3 : (cX11_ranked.data.toList.drop 48).take 16 = [1, 236, 160, 0, 13, 21, 4, 28, 162, 0, 7, 4, 167, 0, 4, 3] := by decide +kernel
theorem chX11_ranked_4 : (cX11_ranked.data.toList.drop 64).take 16 = [96, 62, 132, 4, 1, 167, 255, 202, 29, 27, 160, 0, 5, 28, 172, 132] := by decide +kernel
theorem chX11_ranked_5 : (cX11_ranked.data.toList.drop 80).take 16 = [2, 1, 167, 255, 176, 17, 252, 24, 172] := by decide +kernel
theorem dX11_ranked_0 : decode cX11_ranked 0 = .ok (.iconst 0, 1) := oq_3 (byt chX11_ranked_0 0 rfl)
theorem dX11_ranked_1 : decode cX11_ranked 1 = .ok (.istore_n 2, 1) := oq_61 (byt chX11_ranked_0 1 rfl)
theorem dX11_ranked_2 : decode cX11_ranked 2 = .ok (.iload_n 2, 1) := oq_28 (byt chX11_ranked_0 2 rfl)
theorem dX11_ranked_3 : decode cX11_ranked 3 = .ok (.aload_n 0, 1) := oq_42 (byt chX11_ranked_0 3 rfl)
theorem dX11_ranked_4 : decode cX11_ranked 4 = .ok (.getfield 281, 3) := oq_180 (byt chX11_ranked_0 4 rfl) (byt chX11_ranked_0 5 rfl) (byt chX11_ranked_0 6 rfl) rfl
theorem dX11_ranked_7 : decode cX11_ranked 7 = .ok (.if_icmp .ge 78, 3) := oq_162 (byt chX11_ranked_0 7 rfl) (byt chX11_ranked_0 8 rfl) (byt chX11_ranked_0 9 rfl) (by decide +kernel)
theorem dX11_ranked_10 : decode cX11_ranked 10 = .ok (.iconst 0, 1) := oq_3 (byt chX11_ranked_0 10 rfl)
theorem dX11_ranked_11 : decode cX11_ranked 11 = .ok (.istore_n 3, 1) := oq_62 (byt chX11_ranked_0 11 rfl)
theorem dX11_ranked_12 : decode cX11_ranked 12 = .ok (.iconst 0, 1) := oq_3 (byt chX11_ranked_0 12 rfl)
theorem dX11_ranked_13 : decode cX11_ranked 13 = .ok (.istore 4, 2) := oq_54 (byt chX11_ranked_0 13 rfl) (byt chX11_ranked_0 14 rfl) rfl
theorem dX11_ranked_15 : decode cX11_ranked 15 = .ok (.iload 4, 2) := oq_21 (byt chX11_ranked_0 15 rfl) (byt chX11_ranked_1 0 rfl) rfl
theorem dX11_ranked_17 : decode cX11_ranked 17 = .ok (.aload_n 0, 1) := oq_42 (byt chX11_ranked_1 1 rfl)
theorem dX11_ranked_18 : decode cX11_ranked 18 = .ok (.getfield 281, 3) := oq_180 (byt chX11_ranked_1 2 rfl) (byt chX11_ranked_1 3 rfl) (byt chX11_ranked_1 4 rfl) rfl
theorem dX11_ranked_21 : decode cX11_ranked 21 = .ok (.if_icmp .ge 51, 3) := oq_162 (byt chX11_ranked_1 5 rfl) (byt chX11_ranked_1 6 rfl) (byt chX11_ranked_1 7 rfl) (by decide +kernel)
theorem dX11_ranked_24 : decode cX11_ranked 24 = .ok (.iload_n 3, 1) := oq_29 (byt chX11_ranked_1 8 rfl)
theorem dX11_ranked_25 : decode cX11_ranked 25 = .ok (.aload_n 0, 1) := oq_42 (byt chX11_ranked_1 9 rfl)
theorem dX11_ranked_26 : decode cX11_ranked 26 = .ok (.iload 4, 2) := oq_21 (byt chX11_ranked_1 10 rfl) (byt chX11_ranked_1 11 rfl) rfl
theorem dX11_ranked_28 : decode cX11_ranked 28 = .ok (.invokevirtual 492, 3) := oq_182 (byt chX11_ranked_1 12 rfl) (byt chX11_ranked_1 13 rfl) (byt chX11_ranked_1 14 rfl) rfl
theorem dX11_ranked_31 : decode cX11_ranked 31 = .ok (.aload_n 0, 1) := oq_42 (byt chX11_ranked_1 15 rfl)
theorem dX11_ranked_32 : decode cX11_ranked 32 = .ok (.iload_n 2, 1) := oq_28 (byt chX11_ranked_2 0 rfl)
theorem dX11_ranked_33 : decode cX11_ranked 33 = .ok (.invokevirtual 492, 3) := oq_182 (byt chX11_ranked_2 1 rfl) (byt chX11_ranked_2 2 rfl) (byt chX11_ranked_2 3 rfl) rfl
theorem dX11_ranked_36 : decode cX11_ranked 36 = .ok (.if_icmp .gt 23, 3) := oq_163 (byt chX11_ranked_2 4 rfl) (byt chX11_ranked_2 5 rfl) (byt chX11_ranked_2 6 rfl) (by decide +kernel)
theorem dX11_ranked_39 : decode cX11_ranked 39 = .ok (.aload_n 0, 1) := oq_42 (byt chX11_ranked_2 7 rfl)
theorem dX11_ranked_40 : decode cX11_ranked 40 = .ok (.iload 4, 2) := oq_21 (byt chX11_ranked_2 8 rfl) (byt chX11_ranked_2 9 rfl) rfl
theorem dX11_ranked_42 : decode cX11_ranked 42 = .ok (.invokevirtual 492, 3) := oq_182 (byt chX11_ranked_2 10 rfl) (byt chX11_ranked_2 11 rfl) (byt chX11_ranked_2 12 rfl) rfl
theorem dX11_ranked_45 : decode cX11_ranked 45 = .ok (.aload_n 0, 1) := oq_42 (byt chX11_ranked_2 13 rfl)
theorem dX11_ranked_46 : decode cX11_ranked 46 = .ok (.iload_n 2, 1) := oq_28 (byt chX11_ranked_2 14 rfl)
theorem dX11_ranked_47 : decode cX11_ranked 47 = .ok (.invokevirtual 492, 3) := oq_182 (byt chX11_ranked_2 15 rfl) (byt chX11_ranked_3 0 rfl) (byt chX11_ranked_3 1 rfl) rfl
theorem dX11_ranked_50 : decode cX11_ranked 50 = .ok (.if_icmp .ne 13, 3) := oq_160 (byt chX11_ranked_3 2 rfl) (byt chX11_ranked_3 3 rfl) (byt chX11_ranked_3 4 rfl) (by decide +kernel)
theorem dX11_ranked_53 : decode cX11_ranked 53 = .ok (.iload 4, 2) := oq_21 (byt chX11_ranked_3 5 rfl) (byt chX11_ranked_3 6 rfl) rfl
theorem dX11_ranked_55 : decode cX11_ranked 55 = .ok (.iload_n 2, 1) := oq_28 (byt chX11_ranked_3 7 rfl)
theorem dX11_ranked_56 : decode cX11_ranked 56 = .ok (.if_icmp .ge 7, 3) := oq_162 (byt chX11_ranked_3 8 rfl) (byt chX11_ranked_3 9 rfl) (byt chX11_ranked_3 10 rfl) (by decide +kernel)
theorem dX11_ranked_59 : decode cX11_ranked 59 = .ok (.iconst 1, 1) := oq_4 (byt chX11_ranked_3 11 rfl)
theorem dX11_ranked_60 : decode cX11_ranked 60 = .ok (.goto 4, 3) := oq_167 (byt chX11_ranked_3 12 rfl) (byt chX11_ranked_3 13 rfl) (byt chX11_ranked_3 14 rfl) (by decide +kernel)
theorem dX11_ranked_63 : decode cX11_ranked 63 = .ok (.iconst 0, 1) := oq_3 (byt chX11_ranked_3 15 rfl)
theorem dX11_ranked_64 : decode cX11_ranked 64 = .ok (.iadd, 1) := oq_96 (byt chX11_ranked_4 0 rfl)
theorem dX11_ranked_65 : decode cX11_ranked 65 = .ok (.istore_n 3, 1) := oq_62 (byt chX11_ranked_4 1 rfl)
theorem dX11_ranked_66 : decode cX11_ranked 66 = .ok (.iinc 4 1, 3) := oq_132 (byt chX11_ranked_4 2 rfl) (byt chX11_ranked_4 3 rfl) (byt chX11_ranked_4 4 rfl) rfl
theorem dX11_ranked_69 : decode cX11_ranked 69 = .ok (.goto (-54), 3) := oq_167 (byt chX11_ranked_4 5 rfl) (byt chX11_ranked_4 6 rfl) (byt chX11_ranked_4 7 rfl) (by decide +kernel)
theorem dX11_ranked_72 : decode cX11_ranked 72 = .ok (.iload_n 3, 1) := oq_29 (byt chX11_ranked_4 8 rfl)
theorem dX11_ranked_73 : decode cX11_ranked 73 = .ok (.iload_n 1, 1) := oq_27 (byt chX11_ranked_4 9 rfl)
theorem dX11_ranked_74 : decode cX11_ranked 74 = .ok (.if_icmp .ne 5, 3) := oq_160 (byt chX11_ranked_4 10 rfl) (byt chX11_ranked_4 11 rfl) (byt chX11_ranked_4 12 rfl) (by decide +kernel)
theorem dX11_ranked_77 : decode cX11_ranked 77 = .ok (.iload_n 2, 1) := oq_28 (byt chX11_ranked_4 13 rfl)
theorem dX11_ranked_78 : decode cX11_ranked 78 = .ok (.ireturn, 1) := oq_172 (byt chX11_ranked_4 14 rfl)
theorem dX11_ranked_79 : decode cX11_ranked 79 = .ok (.iinc 2 1, 3) := oq_132 (byt chX11_ranked_4 15 rfl) (byt chX11_ranked_5 0 rfl) (byt chX11_ranked_5 1 rfl) rfl
theorem dX11_ranked_82 : decode cX11_ranked 82 = .ok (.goto (-80), 3) := oq_167 (byt chX11_ranked_5 2 rfl) (byt chX11_ranked_5 3 rfl) (byt chX11_ranked_5 4 rfl) (by decide +kernel)
theorem dX11_ranked_85 : decode cX11_ranked 85 = .ok (.sipush (-1000), 3) := oq_17 (byt chX11_ranked_5 5 rfl) (byt chX11_ranked_5 6 rfl) (byt chX11_ranked_5 7 rfl) (by decide +kernel)
theorem dX11_ranked_88 : decode cX11_ranked 88 = .ok (.ireturn, 1) := oq_172 (byt chX11_ranked_5 8 rfl)
abbrev mX11_ranked : MI := (yX11_ranked, cX11_ranked, 5, (some .int), noE)
theorem okX11_ranked : cok mX11_ranked 1 := ⟨tw1821, tw11, by decide, by decide, by decide, by decide +kernel⟩
def fX11_ranked (M : Mem) (a0 a1 : Int) : Option Int :=
  iterC (fun (rec1 : Int → Option Int) (s2 : Int) => if M.2.1 a0 = 10 then if s2 < M.1 a0 25 then (iterC (fun (rec5 : (Int × Int) → Option Int) (s6 : Int × Int) => if s6.2 < M.1 a0 25 then ((fX11_wealthOf M a0 s6.2).bind fun r8 => (fX11_wealthOf M a0 s2).bind fun r10 => if r10 < r8 then (rec5 (w32 (s6.1 + 1), w32 (s6.2 + 1))) else ((fX11_wealthOf M a0 s6.2).bind fun r13 => (fX11_wealthOf M a0 s2).bind fun r15 => if r13 = r15 then (if s6.2 < s2 then (rec5 (w32 (s6.1 + 1), w32 (s6.2 + 1))) else (rec5 (w32 (s6.1 + 0), w32 (s6.2 + 1)))) else (rec5 (w32 (s6.1 + 0), w32 (s6.2 + 1))))) else (if s6.1 = a1 then (some s2) else (rec1 (w32 (s2 + 1))))) BIG (0, 0)) else (some (-1000)) else none) BIG 0
set_option maxRecDepth 100000 in
set_option maxHeartbeats 4000000 in
theorem kX11_ranked (d : Nat) (hd : 2 ≤ d) (M : Mem) (a0 a1 : Int) : Ct mX11_ranked d 0 0 [pA a0, pI a1] M (dI M) (fX11_ranked M a0 a1) := by
  obtain ⟨d, rfl⟩ : ∃ k, d = k + 1 := ⟨d - 1, by omega⟩
  refine Ct.of 3 (fun _ _ _ => trivial) (by decide +kernel) rfl ?_
  unfold fX11_ranked
  refine v_iconst dX11_ranked_0 (by decide) ?_
  refine v_istore_n (ls' := [some (pA a0), some (pI a1), some (pI 0), none, none]) dX11_ranked_1 (by decide) rfl ?_
  refine v_loop (fun (s2 : Int) => [some (pA a0), some (pI a1), some (pI s2), none, none]) (fun (s2 : Int) => M) (s0 := 0) ?_
  intro rec1 hrec1 s2
  refine v_iload_n dX11_ranked_2 rfl ?_
  refine v_aload_n dX11_ranked_3 rfl ?_
  refine v_if (fun h3 => ?_)
  refine v_get (v := pI (M.1 a0 25)) 10 25 rfl inX11 (by decide) tw1218 dX11_ranked_4 h3 rfl ?_
  refine v_icmp_ge (tgt := 85) dX11_ranked_7 (by decide) (fun c4 => ?_) (fun c4 => ?_)
  · refine v_iconst dX11_ranked_10 (by decide) ?_
    refine v_istore_n (ls' := [some (pA a0), some (pI a1), some (pI s2), some (pI 0), none]) dX11_ranked_11 (by decide) rfl ?_
    refine v_iconst dX11_ranked_12 (by decide) ?_
    refine v_istore (ls' := [some (pA a0), some (pI a1), some (pI s2), some (pI 0), some (pI 0)]) dX11_ranked_13 (by decide) rfl ?_
    refine v_loop (fun (s6 : Int × Int) => [some (pA a0), some (pI a1), some (pI s2), some (pI s6.1), some (pI s6.2)]) (fun (s6 : Int × Int) => M) (s0 := (0, 0)) ?_
    intro rec5 hrec5 s6
    refine v_iload dX11_ranked_15 rfl ?_
    refine v_aload_n dX11_ranked_17 rfl ?_
    refine v_get (v := pI (M.1 a0 25)) 10 25 rfl inX11 (by decide) tw1218 dX11_ranked_18 h3 rfl ?_
    refine v_icmp_ge (tgt := 72) dX11_ranked_21 (by decide) (fun c7 => ?_) (fun c7 => ?_)
    · refine v_iload_n dX11_ranked_24 rfl ?_
      refine v_aload_n dX11_ranked_25 rfl ?_
      refine v_iload dX11_ranked_26 rfl ?_
      refine v_cV (mi := mX11_ranked) (c0 := 0) (c1 := 0) (As := [pI s6.2]) (st := [pI s6.1]) (kX11_wealthOf d (by omega) _ _ _) rfl h3 rfl okX11_wealthOf (Or.inl tw1814) tw1816 tp105 rfl (Nat.le_of_ble_eq_true rfl) dX11_ranked_28 (fun r8 => [pI r8, pI s6.1]) (fun r8 => M) (fun _ => rfl) (fun _ => rfl) (fun r8 h9 => ?_) rfl
      refine v_aload_n dX11_ranked_31 rfl ?_
      refine v_iload_n dX11_ranked_32 rfl ?_
      refine v_cV (mi := mX11_ranked) (c0 := 0) (c1 := 0) (As := [pI s2]) (st := [pI r8, pI s6.1]) (kX11_wealthOf d (by omega) _ _ _) rfl h3 rfl okX11_wealthOf (Or.inl tw1814) tw1816 tp105 rfl (Nat.le_of_ble_eq_true rfl) dX11_ranked_33 (fun r10 => [pI r10, pI r8, pI s6.1]) (fun r10 => M) (fun _ => rfl) (fun _ => rfl) (fun r10 h11 => ?_) rfl
      refine v_icmp_gt (tgt := 59) dX11_ranked_36 (by decide) (fun c12 => ?_) (fun c12 => ?_)
      · refine v_iconst dX11_ranked_59 (by decide) ?_
        refine v_goto (tgt := 64) dX11_ranked_60 (by decide) ?_
        refine v_iadd dX11_ranked_64 ?_
        refine v_istore_n (ls' := [some (pA a0), some (pI a1), some (pI s2), some (pI (w32 (s6.1 + 1))), some (pI s6.2)]) dX11_ranked_65 (by decide) rfl ?_
        refine v_iinc (ls' := [some (pA a0), some (pI a1), some (pI s2), some (pI (w32 (s6.1 + 1))), some (pI (w32 (s6.2 + 1)))]) dX11_ranked_66 (by decide) rfl rfl ?_
        refine v_goto (tgt := 15) dX11_ranked_69 (by decide) ?_
        exact hrec5 (w32 (s6.1 + 1), w32 (s6.2 + 1))
      · refine v_aload_n dX11_ranked_39 rfl ?_
        refine v_iload dX11_ranked_40 rfl ?_
        refine v_cV (mi := mX11_ranked) (c0 := 0) (c1 := 0) (As := [pI s6.2]) (st := [pI s6.1]) (kX11_wealthOf d (by omega) _ _ _) rfl h3 rfl okX11_wealthOf (Or.inl tw1814) tw1816 tp105 rfl (Nat.le_of_ble_eq_true rfl) dX11_ranked_42 (fun r13 => [pI r13, pI s6.1]) (fun r13 => M) (fun _ => rfl) (fun _ => rfl) (fun r13 h14 => ?_) rfl
        refine v_aload_n dX11_ranked_45 rfl ?_
        refine v_iload_n dX11_ranked_46 rfl ?_
        refine v_cV (mi := mX11_ranked) (c0 := 0) (c1 := 0) (As := [pI s2]) (st := [pI r13, pI s6.1]) (kX11_wealthOf d (by omega) _ _ _) rfl h3 rfl okX11_wealthOf (Or.inl tw1814) tw1816 tp105 rfl (Nat.le_of_ble_eq_true rfl) dX11_ranked_47 (fun r15 => [pI r15, pI r13, pI s6.1]) (fun r15 => M) (fun _ => rfl) (fun _ => rfl) (fun r15 h16 => ?_) rfl
        refine v_icmp_ne (tgt := 63) dX11_ranked_50 (by decide) (fun c17 => ?_) (fun c17 => ?_)
        · refine v_iload dX11_ranked_53 rfl ?_
          refine v_iload_n dX11_ranked_55 rfl ?_
          refine v_icmp_ge (tgt := 63) dX11_ranked_56 (by decide) (fun c18 => ?_) (fun c18 => ?_)
          · refine v_iconst dX11_ranked_59 (by decide) ?_
            refine v_goto (tgt := 64) dX11_ranked_60 (by decide) ?_
            refine v_iadd dX11_ranked_64 ?_
            refine v_istore_n (ls' := [some (pA a0), some (pI a1), some (pI s2), some (pI (w32 (s6.1 + 1))), some (pI s6.2)]) dX11_ranked_65 (by decide) rfl ?_
            refine v_iinc (ls' := [some (pA a0), some (pI a1), some (pI s2), some (pI (w32 (s6.1 + 1))), some (pI (w32 (s6.2 + 1)))]) dX11_ranked_66 (by decide) rfl rfl ?_
            refine v_goto (tgt := 15) dX11_ranked_69 (by decide) ?_
            exact hrec5 (w32 (s6.1 + 1), w32 (s6.2 + 1))
          · refine v_iconst dX11_ranked_63 (by decide) ?_
            refine v_iadd dX11_ranked_64 ?_
            refine v_istore_n (ls' := [some (pA a0), some (pI a1), some (pI s2), some (pI (w32 (s6.1 + 0))), some (pI s6.2)]) dX11_ranked_65 (by decide) rfl ?_
            refine v_iinc (ls' := [some (pA a0), some (pI a1), some (pI s2), some (pI (w32 (s6.1 + 0))), some (pI (w32 (s6.2 + 1)))]) dX11_ranked_66 (by decide) rfl rfl ?_
            refine v_goto (tgt := 15) dX11_ranked_69 (by decide) ?_
            exact hrec5 (w32 (s6.1 + 0), w32 (s6.2 + 1))
        · refine v_iconst dX11_ranked_63 (by decide) ?_
          refine v_iadd dX11_ranked_64 ?_
          refine v_istore_n (ls' := [some (pA a0), some (pI a1), some (pI s2), some (pI (w32 (s6.1 + 0))), some (pI s6.2)]) dX11_ranked_65 (by decide) rfl ?_
          refine v_iinc (ls' := [some (pA a0), some (pI a1), some (pI s2), some (pI (w32 (s6.1 + 0))), some (pI (w32 (s6.2 + 1)))]) dX11_ranked_66 (by decide) rfl rfl ?_
          refine v_goto (tgt := 15) dX11_ranked_69 (by decide) ?_
          exact hrec5 (w32 (s6.1 + 0), w32 (s6.2 + 1))
    · refine v_iload_n dX11_ranked_72 rfl ?_
      refine v_iload_n dX11_ranked_73 rfl ?_
      refine v_icmp_ne (tgt := 79) dX11_ranked_74 (by decide) (fun c19 => ?_) (fun c19 => ?_)
      · refine v_iload_n dX11_ranked_77 rfl ?_
        exact v_ireturn dX11_ranked_78 rfl rfl
      · refine v_iinc (ls' := [some (pA a0), some (pI a1), some (pI (w32 (s2 + 1))), some (pI s6.1), some (pI s6.2)]) dX11_ranked_79 (by decide) rfl rfl ?_
        refine v_goto (tgt := 2) dX11_ranked_82 (by decide) ?_
        exact v_drop [some (pA a0), some (pI a1), some (pI (w32 (s2 + 1))), none, none] (ls_s (ls_s (ls_s (ls_n (ls_n ls_e))))) (hrec1 (w32 (s2 + 1)))
  · refine v_sipush dX11_ranked_85 (by decide) ?_
    exact v_ireturn dX11_ranked_88 rfl rfl
theorem chX11_gap_0 : (cX11_gap.data.toList.drop 0).take 16 = [42, 42, 3, 182, 1, 239, 182, 1, 236, 42, 42, 42, 180, 1, 25, 4] := by decide +kernel
theorem chX11_gap_1 : (cX11_gap.data.toList.drop 16).take 16 = [100, 182, 1, 239, 182, 1, 236, 100, 172] := by decide +kernel
theorem dX11_gap_0 : decode cX11_gap 0 = .ok (.aload_n 0, 1) := oq_42 (byt chX11_gap_0 0 rfl)
theorem dX11_gap_1 : decode cX11_gap 1 = .ok (.aload_n 0, 1) := oq_42 (byt chX11_gap_0 1 rfl)
theorem dX11_gap_2 : decode cX11_gap 2 = .ok (.iconst 0, 1) := oq_3 (byt chX11_gap_0 2 rfl)
theorem dX11_gap_3 : decode cX11_gap 3 = .ok (.invokevirtual 495, 3) := oq_182 (byt chX11_gap_0 3 rfl) (byt chX11_gap_0 4 rfl) (byt chX11_gap_0 5 rfl) rfl
theorem dX11_gap_6 : decode cX11_gap 6 = .ok (.invokevirtual 492, 3) := oq_182 (byt chX11_gap_0 6 rfl) (byt chX11_gap_0 7 rfl) (byt chX11_gap_0 8 rfl) rfl
theorem dX11_gap_9 : decode cX11_gap 9 = .ok (.aload_n 0, 1) := oq_42 (byt chX11_gap_0 9 rfl)
theorem dX11_gap_10 : decode cX11_gap 10 = .ok (.aload_n 0, 1) := oq_42 (byt chX11_gap_0 10 rfl)
theorem dX11_gap_11 : decode cX11_gap 11 = .ok (.aload_n 0, 1) := oq_42 (byt chX11_gap_0 11 rfl)
theorem dX11_gap_12 : decode cX11_gap 12 = .ok (.getfield 281, 3) := oq_180 (byt chX11_gap_0 12 rfl) (byt chX11_gap_0 13 rfl) (byt chX11_gap_0 14 rfl) rfl
theorem dX11_gap_15 : decode cX11_gap 15 = .ok (.iconst 1, 1) := oq_4 (byt chX11_gap_0 15 rfl)
theorem dX11_gap_16 : decode cX11_gap 16 = .ok (.isub, 1) := oq_100 (byt chX11_gap_1 0 rfl)
theorem dX11_gap_17 : decode cX11_gap 17 = .ok (.invokevirtual 495, 3) := oq_182 (byt chX11_gap_1 1 rfl) (byt chX11_gap_1 2 rfl) (byt chX11_gap_1 3 rfl) rfl
theorem dX11_gap_20 : decode cX11_gap 20 = .ok (.invokevirtual 492, 3) := oq_182 (byt chX11_gap_1 4 rfl) (byt chX11_gap_1 5 rfl) (byt chX11_gap_1 6 rfl) rfl
theorem dX11_gap_23 : decode cX11_gap 23 = .ok (.isub, 1) := oq_100 (byt chX11_gap_1 7 rfl)
theorem dX11_gap_24 : decode cX11_gap 24 = .ok (.ireturn, 1) := oq_172 (byt chX11_gap_1 8 rfl)
abbrev mX11_gap : MI := (yX11_gap, cX11_gap, 1, (some .int), noE)
theorem okX11_gap : cok mX11_gap 0 := ⟨tw1833, tw11, by decide, by decide, by decide, by decide +kernel⟩
def fX11_gap (M : Mem) (a0 : Int) : Option Int :=
  if M.2.1 a0 = 10 then (fX11_ranked M a0 0).bind fun r1 => (fX11_wealthOf M a0 r1).bind fun r4 => (fX11_ranked M a0 (w32 ((M.1 a0 25) - 1))).bind fun r6 => (fX11_wealthOf M a0 r6).bind fun r8 => some (w32 (r4 - r8)) else none
set_option maxRecDepth 100000 in
set_option maxHeartbeats 4000000 in
theorem kX11_gap (d : Nat) (hd : 3 ≤ d) (M : Mem) (a0 : Int) : Ct mX11_gap d 0 0 [pA a0] M (dI M) (fX11_gap M a0) := by
  obtain ⟨d, rfl⟩ : ∃ k, d = k + 1 := ⟨d - 1, by omega⟩
  refine Ct.of 0 (fun _ _ _ => trivial) (by decide +kernel) rfl ?_
  unfold fX11_gap
  refine v_aload_n dX11_gap_0 rfl ?_
  refine v_aload_n dX11_gap_1 rfl ?_
  refine v_iconst dX11_gap_2 (by decide) ?_
  refine v_if (fun h3 => ?_)
  refine v_cV (mi := mX11_gap) (c0 := 0) (c1 := 0) (As := [pI 0]) (st := [pA a0]) (kX11_ranked d (by omega) _ _ _) rfl h3 rfl okX11_ranked (Or.inl tw1818) tw1820 tp106 rfl (Nat.le_of_ble_eq_true rfl) dX11_gap_3 (fun r1 => [pI r1, pA a0]) (fun r1 => M) (fun _ => rfl) (fun _ => rfl) (fun r1 h2 => ?_) rfl
  refine v_cV (mi := mX11_gap) (c0 := 0) (c1 := 0) (As := [pI r1]) (st := []) (kX11_wealthOf d (by omega) _ _ _) rfl h3 rfl okX11_wealthOf (Or.inl tw1814) tw1816 tp105 rfl (Nat.le_of_ble_eq_true rfl) dX11_gap_6 (fun r4 => [pI r4]) (fun r4 => M) (fun _ => rfl) (fun _ => rfl) (fun r4 h5 => ?_) rfl
  refine v_aload_n dX11_gap_9 rfl ?_
  refine v_aload_n dX11_gap_10 rfl ?_
  refine v_aload_n dX11_gap_11 rfl ?_
  refine v_get (v := pI (M.1 a0 25)) 10 25 rfl inX11 (by decide) tw1218 dX11_gap_12 h3 rfl ?_
  refine v_iconst dX11_gap_15 (by decide) ?_
  refine v_isub dX11_gap_16 ?_
  refine v_cV (mi := mX11_gap) (c0 := 0) (c1 := 0) (As := [pI (w32 ((M.1 a0 25) - 1))]) (st := [pA a0, pI r4]) (kX11_ranked d (by omega) _ _ _) rfl h3 rfl okX11_ranked (Or.inl tw1818) tw1820 tp106 rfl (Nat.le_of_ble_eq_true rfl) dX11_gap_17 (fun r6 => [pI r6, pA a0, pI r4]) (fun r6 => M) (fun _ => rfl) (fun _ => rfl) (fun r6 h7 => ?_) rfl
  refine v_cV (mi := mX11_gap) (c0 := 0) (c1 := 0) (As := [pI r6]) (st := [pI r4]) (kX11_wealthOf d (by omega) _ _ _) rfl h3 rfl okX11_wealthOf (Or.inl tw1814) tw1816 tp105 rfl (Nat.le_of_ble_eq_true rfl) dX11_gap_20 (fun r8 => [pI r8, pI r4]) (fun r8 => M) (fun _ => rfl) (fun _ => rfl) (fun r8 h9 => ?_) rfl
  refine v_isub dX11_gap_23 ?_
  exact v_ireturn dX11_gap_24 rfl rfl
theorem chX11_unlike_0 : (cX11_unlike.data.toList.drop 0).take 16 = [3, 61, 3, 62, 3, 54, 4, 21, 4, 42, 180, 1, 25, 162, 0, 53] := by decide +kernel
theorem chX11_unlike_1 : (cX11_unlike.data.toList.drop 16).take 16 = [29, 42, 21, 4, 182, 1, 236, 96, 62, 3, 54, 5, 21, 5, 21, 4] := by decide +kernel
theorem chX11_unlike_2 : (cX11_unlike.data.toList.drop 32).take 16 = [162, 0, 28, 28, 42, 21, 4, 182, 1, 236, 42, 21, 5, 182, 1, 236] := by decide +kernel
theorem chX11_unlike_3 : (cX11_unlike.data.toList.drop 48).take 16 = [100, 184, 1, 162, 96, 61, 132, 5, 1, 167, 255, 227, 132, 4, 1, 167] := by decide +kernel
theorem chX11_unlike_4 : (cX11_unlike.data.toList.drop 64).take 16 = [255, 200, 28, 42, 180, 1, 25, 29, 104, 27, 184, 1, 216, 172] := by decide +kernel
theorem dX11_unlike_0 : decode cX11_unlike 0 = .ok (.iconst 0, 1) := oq_3 (byt chX11_unlike_0 0 rfl)
theorem dX11_unlike_1 : decode cX11_unlike 1 = .ok (.istore_n 2, 1) := oq_61 (byt chX11_unlike_0 1 rfl)
theorem dX11_unlike_2 : decode cX11_unlike 2 = .ok (.iconst 0, 1) := oq_3 (byt chX11_unlike_0 2 rfl)
theorem dX11_unlike_3 : decode cX11_unlike 3 = .ok (.istore_n 3, 1) := oq_62 (byt chX11_unlike_0 3 rfl)
theorem dX11_unlike_4 : decode cX11_unlike 4 = .ok (.iconst 0, 1) := oq_3 (byt chX11_unlike_0 4 rfl)
theorem dX11_unlike_5 : decode cX11_unlike 5 = .ok (.istore 4, 2) := oq_54 (byt chX11_unlike_0 5 rfl) (byt chX11_unlike_0 6 rfl) rfl
theorem dX11_unlike_7 : decode cX11_unlike 7 = .ok (.iload 4, 2) := oq_21 (byt chX11_unlike_0 7 rfl) (byt chX11_unlike_0 8 rfl) rfl
theorem dX11_unlike_9 : decode cX11_unlike 9 = .ok (.aload_n 0, 1) := oq_42 (byt chX11_unlike_0 9 rfl)
theorem dX11_unlike_10 : decode cX11_unlike 10 = .ok (.getfield 281, 3) := oq_180 (byt chX11_unlike_0 10 rfl) (byt chX11_unlike_0 11 rfl) (byt chX11_unlike_0 12 rfl) rfl
theorem dX11_unlike_13 : decode cX11_unlike 13 = .ok (.if_icmp .ge 53, 3) := oq_162 (byt chX11_unlike_0 13 rfl) (byt chX11_unlike_0 14 rfl) (byt chX11_unlike_0 15 rfl) (by decide +kernel)
theorem dX11_unlike_16 : decode cX11_unlike 16 = .ok (.iload_n 3, 1) := oq_29 (byt chX11_unlike_1 0 rfl)
theorem dX11_unlike_17 : decode cX11_unlike 17 = .ok (.aload_n 0, 1) := oq_42 (byt chX11_unlike_1 1 rfl)
theorem dX11_unlike_18 : decode cX11_unlike 18 = .ok (.iload 4, 2) := oq_21 (byt chX11_unlike_1 2 rfl) (byt chX11_unlike_1 3 rfl) rfl
theorem dX11_unlike_20 : decode cX11_unlike 20 = .ok (.invokevirtual 492, 3) := oq_182 (byt chX11_unlike_1 4 rfl) (byt chX11_unlike_1 5 rfl) (byt chX11_unlike_1 6 rfl) rfl
theorem dX11_unlike_23 : decode cX11_unlike 23 = .ok (.iadd, 1) := oq_96 (byt chX11_unlike_1 7 rfl)
theorem dX11_unlike_24 : decode cX11_unlike 24 = .ok (.istore_n 3, 1) := oq_62 (byt chX11_unlike_1 8 rfl)
theorem dX11_unlike_25 : decode cX11_unlike 25 = .ok (.iconst 0, 1) := oq_3 (byt chX11_unlike_1 9 rfl)
theorem dX11_unlike_26 : decode cX11_unlike 26 = .ok (.istore 5, 2) := oq_54 (byt chX11_unlike_1 10 rfl) (byt chX11_unlike_1 11 rfl) rfl
theorem dX11_unlike_28 : decode cX11_unlike 28 = .ok (.iload 5, 2) := oq_21 (byt chX11_unlike_1 12 rfl) (byt chX11_unlike_1 13 rfl) rfl
theorem dX11_unlike_30 : decode cX11_unlike 30 = .ok (.iload 4, 2) := oq_21 (byt chX11_unlike_1 14 rfl) (byt chX11_unlike_1 15 rfl) rfl
theorem dX11_unlike_32 : decode cX11_unlike 32 = .ok (.if_icmp .ge 28, 3) := oq_162 (byt chX11_unlike_2 0 rfl) (byt chX11_unlike_2 1 rfl) (byt chX11_unlike_2 2 rfl) (by decide +kernel)
theorem dX11_unlike_35 : decode cX11_unlike 35 = .ok (.iload_n 2, 1) := oq_28 (byt chX11_unlike_2 3 rfl)
theorem dX11_unlike_36 : decode cX11_unlike 36 = .ok (.aload_n 0, 1) := oq_42 (byt chX11_unlike_2 4 rfl)
theorem dX11_unlike_37 : decode cX11_unlike 37 = .ok (.iload 4, 2) := oq_21 (byt chX11_unlike_2 5 rfl) (byt chX11_unlike_2 6 rfl) rfl
theorem dX11_unlike_39 : decode cX11_unlike 39 = .ok (.invokevirtual 492, 3) := oq_182 (byt chX11_unlike_2 7 rfl) (byt chX11_unlike_2 8 rfl) (byt chX11_unlike_2 9 rfl) rfl
theorem dX11_unlike_42 : decode cX11_unlike 42 = .ok (.aload_n 0, 1) := oq_42 (byt chX11_unlike_2 10 rfl)
theorem dX11_unlike_43 : decode cX11_unlike 43 = .ok (.iload 5, 2) := oq_21 (byt chX11_unlike_2 11 rfl) (byt chX11_unlike_2 12 rfl) rfl
theorem dX11_unlike_45 : decode cX11_unlike 45 = .ok (.invokevirtual 492, 3) := oq_182 (byt chX11_unlike_2 13 rfl) (byt chX11_unlike_2 14 rfl) (byt chX11_unlike_2 15 rfl) rfl
theorem dX11_unlike_48 : decode cX11_unlike 48 = .ok (.isub, 1) := oq_100 (byt chX11_unlike_3 0 rfl)
theorem dX11_unlike_49 : decode cX11_unlike 49 = .ok (.invokestatic 418, 3) := oq_184 (byt chX11_unlike_3 1 rfl) (byt chX11_unlike_3 2 rfl) (byt chX11_unlike_3 3 rfl) rfl
theorem dX11_unlike_52 : decode cX11_unlike 52 = .ok (.iadd, 1) := oq_96 (byt chX11_unlike_3 4 rfl)
theorem dX11_unlike_53 : decode cX11_unlike 53 = .ok (.istore_n 2, 1) := oq_61 (byt chX11_unlike_3 5 rfl)
theorem dX11_unlike_54 : decode cX11_unlike 54 = .ok (.iinc 5 1, 3) := oq_132 (byt chX11_unlike_3 6 rfl) (byt chX11_unlike_3 7 rfl) (byt chX11_unlike_3 8 rfl) rfl
theorem dX11_unlike_57 : decode cX11_unlike 57 = .ok (.goto (-29), 3) := oq_167 (byt chX11_unlike_3 9 rfl) (byt chX11_unlike_3 10 rfl) (byt chX11_unlike_3 11 rfl) (by decide +kernel)
theorem dX11_unlike_60 : decode cX11_unlike 60 = .ok (.iinc 4 1, 3) := oq_132 (byt chX11_unlike_3 12 rfl) (byt chX11_unlike_3 13 rfl) (byt chX11_unlike_3 14 rfl) rfl
theorem dX11_unlike_63 : decode cX11_unlike 63 = .ok (.goto (-56), 3) := oq_167 (byt chX11_unlike_3 15 rfl) (byt chX11_unlike_4 0 rfl) (byt chX11_unlike_4 1 rfl) (by decide +kernel)
theorem dX11_unlike_66 : decode cX11_unlike 66 = .ok (.iload_n 2, 1) := oq_28 (byt chX11_unlike_4 2 rfl)
theorem dX11_unlike_67 : decode cX11_unlike 67 = .ok (.aload_n 0, 1) := oq_42 (byt chX11_unlike_4 3 rfl)
theorem dX11_unlike_68 : decode cX11_unlike 68 = .ok (.getfield 281, 3) := oq_180 (byt chX11_unlike_4 4 rfl) (byt chX11_unlike_4 5 rfl) (byt chX11_unlike_4 6 rfl) rfl
theorem dX11_unlike_71 : decode cX11_unlike 71 = .ok (.iload_n 3, 1) := oq_29 (byt chX11_unlike_4 7 rfl)
theorem dX11_unlike_72 : decode cX11_unlike 72 = .ok (.imul, 1) := oq_104 (byt chX11_unlike_4 8 rfl)
theorem dX11_unlike_73 : decode cX11_unlike 73 = .ok (.iload_n 1, 1) := oq_27 (byt chX11_unlike_4 9 rfl)
theorem dX11_unlike_74 : decode cX11_unlike 74 = .ok (.invokestatic 472, 3) := oq_184 (byt chX11_unlike_4 10 rfl) (byt chX11_unlike_4 11 rfl) (byt chX11_unlike_4 12 rfl) rfl
theorem dX11_unlike_77 : decode cX11_unlike 77 = .ok (.ireturn, 1) := oq_172 (byt chX11_unlike_4 13 rfl)
abbrev mX11_unlike : MI := (yX11_unlike, cX11_unlike, 6, (some .int), noE)
theorem okX11_unlike : cok mX11_unlike 1 := ⟨tw1837, tw11, by decide, by decide, by decide, by decide +kernel⟩
def fX11_unlike (M : Mem) (a0 a1 : Int) : Option Int :=
  iterC (fun (rec1 : (Int × Int × Int) → Option Int) (s2 : Int × Int × Int) => if M.2.1 a0 = 10 then if s2.2.2 < M.1 a0 25 then ((fX11_wealthOf M a0 s2.2.2).bind fun r5 => iterC (fun (rec7 : (Int × Int) → Option Int) (s8 : Int × Int) => if s8.2 < s2.2.2 then ((fX11_wealthOf M a0 s2.2.2).bind fun r10 => (fX11_wealthOf M a0 s8.2).bind fun r12 => (fX11_size M (w32 (r10 - r12))).bind fun r14 => rec7 (w32 (s8.1 + r14), w32 (s8.2 + 1))) else (rec1 (s8.1, w32 (s2.2.1 + r5), w32 (s2.2.2 + 1)))) BIG (s2.1, 0)) else ((fX11_least M s2.1 (w32 ((M.1 a0 25) * s2.2.1)) a1).bind fun r16 => some r16) else none) BIG (0, 0, 0)
set_option maxRecDepth 100000 in
set_option maxHeartbeats 4000000 in
theorem kX11_unlike (d : Nat) (hd : 2 ≤ d) (M : Mem) (a0 a1 : Int) : Ct mX11_unlike d 0 0 [pA a0, pI a1] M (dI M) (fX11_unlike M a0 a1) := by
  obtain ⟨d, rfl⟩ : ∃ k, d = k + 1 := ⟨d - 1, by omega⟩
  refine Ct.of 4 (fun _ _ _ => trivial) (by decide +kernel) rfl ?_
  unfold fX11_unlike
  refine v_iconst dX11_unlike_0 (by decide) ?_
  refine v_istore_n (ls' := [some (pA a0), some (pI a1), some (pI 0), none, none, none]) dX11_unlike_1 (by decide) rfl ?_
  refine v_iconst dX11_unlike_2 (by decide) ?_
  refine v_istore_n (ls' := [some (pA a0), some (pI a1), some (pI 0), some (pI 0), none, none]) dX11_unlike_3 (by decide) rfl ?_
  refine v_iconst dX11_unlike_4 (by decide) ?_
  refine v_istore (ls' := [some (pA a0), some (pI a1), some (pI 0), some (pI 0), some (pI 0), none]) dX11_unlike_5 (by decide) rfl ?_
  refine v_loop (fun (s2 : Int × Int × Int) => [some (pA a0), some (pI a1), some (pI s2.1), some (pI s2.2.1), some (pI s2.2.2), none]) (fun (s2 : Int × Int × Int) => M) (s0 := (0, 0, 0)) ?_
  intro rec1 hrec1 s2
  refine v_iload dX11_unlike_7 rfl ?_
  refine v_aload_n dX11_unlike_9 rfl ?_
  refine v_if (fun h3 => ?_)
  refine v_get (v := pI (M.1 a0 25)) 10 25 rfl inX11 (by decide) tw1218 dX11_unlike_10 h3 rfl ?_
  refine v_icmp_ge (tgt := 66) dX11_unlike_13 (by decide) (fun c4 => ?_) (fun c4 => ?_)
  · refine v_iload_n dX11_unlike_16 rfl ?_
    refine v_aload_n dX11_unlike_17 rfl ?_
    refine v_iload dX11_unlike_18 rfl ?_
    refine v_cV (mi := mX11_unlike) (c0 := 0) (c1 := 0) (As := [pI s2.2.2]) (st := [pI s2.2.1]) (kX11_wealthOf d (by omega) _ _ _) rfl h3 rfl okX11_wealthOf (Or.inl tw1814) tw1816 tp105 rfl (Nat.le_of_ble_eq_true rfl) dX11_unlike_20 (fun r5 => [pI r5, pI s2.2.1]) (fun r5 => M) (fun _ => rfl) (fun _ => rfl) (fun r5 h6 => ?_) rfl
    refine v_iadd dX11_unlike_23 ?_
    refine v_istore_n (ls' := [some (pA a0), some (pI a1), some (pI s2.1), some (pI (w32 (s2.2.1 + r5))), some (pI s2.2.2), none]) dX11_unlike_24 (by decide) rfl ?_
    refine v_iconst dX11_unlike_25 (by decide) ?_
    refine v_istore (ls' := [some (pA a0), some (pI a1), some (pI s2.1), some (pI (w32 (s2.2.1 + r5))), some (pI s2.2.2), some (pI 0)]) dX11_unlike_26 (by decide) rfl ?_
    refine v_loop (fun (s8 : Int × Int) => [some (pA a0), some (pI a1), some (pI s8.1), some (pI (w32 (s2.2.1 + r5))), some (pI s2.2.2), some (pI s8.2)]) (fun (s8 : Int × Int) => M) (s0 := (s2.1, 0)) ?_
    intro rec7 hrec7 s8
    refine v_iload dX11_unlike_28 rfl ?_
    refine v_iload dX11_unlike_30 rfl ?_
    refine v_icmp_ge (tgt := 60) dX11_unlike_32 (by decide) (fun c9 => ?_) (fun c9 => ?_)
    · refine v_iload_n dX11_unlike_35 rfl ?_
      refine v_aload_n dX11_unlike_36 rfl ?_
      refine v_iload dX11_unlike_37 rfl ?_
      refine v_cV (mi := mX11_unlike) (c0 := 0) (c1 := 0) (As := [pI s2.2.2]) (st := [pI s8.1]) (kX11_wealthOf d (by omega) _ _ _) rfl h3 rfl okX11_wealthOf (Or.inl tw1814) tw1816 tp105 rfl (Nat.le_of_ble_eq_true rfl) dX11_unlike_39 (fun r10 => [pI r10, pI s8.1]) (fun r10 => M) (fun _ => rfl) (fun _ => rfl) (fun r10 h11 => ?_) rfl
      refine v_aload_n dX11_unlike_42 rfl ?_
      refine v_iload dX11_unlike_43 rfl ?_
      refine v_cV (mi := mX11_unlike) (c0 := 0) (c1 := 0) (As := [pI s8.2]) (st := [pI r10, pI s8.1]) (kX11_wealthOf d (by omega) _ _ _) rfl h3 rfl okX11_wealthOf (Or.inl tw1814) tw1816 tp105 rfl (Nat.le_of_ble_eq_true rfl) dX11_unlike_45 (fun r12 => [pI r12, pI r10, pI s8.1]) (fun r12 => M) (fun _ => rfl) (fun _ => rfl) (fun r12 h13 => ?_) rfl
      refine v_isub dX11_unlike_48 ?_
      refine v_cS (mi := mX11_unlike) (c0 := 0) (c1 := 0) (As := [pI (w32 (r10 - r12))]) (st := [pI s8.1]) (kX11_size d (by omega) _ _) okX11_size (Or.inl tw1685) tw1686 rfl (Nat.le_of_ble_eq_true rfl) dX11_unlike_49 (fun r14 => [pI r14, pI s8.1]) (fun r14 => M) (fun _ => rfl) (fun _ => rfl) (fun r14 h15 => ?_) rfl
      refine v_iadd dX11_unlike_52 ?_
      refine v_istore_n (ls' := [some (pA a0), some (pI a1), some (pI (w32 (s8.1 + r14))), some (pI (w32 (s2.2.1 + r5))), some (pI s2.2.2), some (pI s8.2)]) dX11_unlike_53 (by decide) rfl ?_
      refine v_iinc (ls' := [some (pA a0), some (pI a1), some (pI (w32 (s8.1 + r14))), some (pI (w32 (s2.2.1 + r5))), some (pI s2.2.2), some (pI (w32 (s8.2 + 1)))]) dX11_unlike_54 (by decide) rfl rfl ?_
      refine v_goto (tgt := 28) dX11_unlike_57 (by decide) ?_
      exact hrec7 (w32 (s8.1 + r14), w32 (s8.2 + 1))
    · refine v_iinc (ls' := [some (pA a0), some (pI a1), some (pI s8.1), some (pI (w32 (s2.2.1 + r5))), some (pI (w32 (s2.2.2 + 1))), some (pI s8.2)]) dX11_unlike_60 (by decide) rfl rfl ?_
      refine v_goto (tgt := 7) dX11_unlike_63 (by decide) ?_
      exact v_drop [some (pA a0), some (pI a1), some (pI s8.1), some (pI (w32 (s2.2.1 + r5))), some (pI (w32 (s2.2.2 + 1))), none] (ls_s (ls_s (ls_s (ls_s (ls_s (ls_n ls_e)))))) (hrec1 (s8.1, w32 (s2.2.1 + r5), w32 (s2.2.2 + 1)))
  · refine v_iload_n dX11_unlike_66 rfl ?_
    refine v_aload_n dX11_unlike_67 rfl ?_
    refine v_get (v := pI (M.1 a0 25)) 10 25 rfl inX11 (by decide) tw1218 dX11_unlike_68 h3 rfl ?_
    refine v_iload_n dX11_unlike_71 rfl ?_
    refine v_imul dX11_unlike_72 ?_
    refine v_iload_n dX11_unlike_73 rfl ?_
    refine v_cS (mi := mX11_unlike) (c0 := 0) (c1 := 0) (As := [pI s2.1, pI (w32 ((M.1 a0 25) * s2.2.1)), pI a1]) (st := []) (kX11_least d (by omega) _ _ _ _) okX11_least (Or.inl tw1782) tw1783 rfl (Nat.le_of_ble_eq_true rfl) dX11_unlike_74 (fun r16 => [pI r16]) (fun r16 => M) (fun _ => rfl) (fun _ => rfl) (fun r16 h17 => ?_) rfl
    exact v_ireturn dX11_unlike_77 rfl rfl
theorem chX11_robbed_0 : (cX11_robbed.data.toList.drop 0).take 16 = [3, 60, 3, 61, 28, 42, 180, 1, 25, 162, 0, 93, 3, 62, 3, 54] := by decide +kernel
theorem chX11_robbed_1 : (cX11_robbed.data.toList.drop 16).take 16 = [4, 21, 4, 42, 180, 1, 28, 162, 0, 58, 3, 54, 5, 3, 54, 6] := by decide +kernel
theorem chX11_robbed_2 : (cX11_robbed.data.toList.drop 32).take 16 = [21, 6, 8, 162, 0, 27, 21, 5, 42, 180, 0, 50, 21, 4, 28, 21] := by decide +kernel
theorem chX11_robbed_3 : (cX11_robbed.data.toList.drop 48).take 16 = [6, 184, 1, 88, 46, 96, 54, 5, 132, 6, 1, 167, 255, 229, 29, 21] := by decide +kernel
theorem chX11_robbed_4 : (cX11_robbed.data.toList.drop 64).take 16 = [5, 158, 0, 7, 4, 167, 0, 4, 3, 96, 62, 132, 4, 1, 167, 255] := by decide +kernel
theorem chX11_robbed_5 : (cX11_robbed.data.toList.drop 80).take 16 = [195, 27, 29, 4, 164, 0, 9, 4, 28, 120, 167, 0, 4, 3, 128, 60] := by decide +kernel
theorem chX11_robbed_6 : (cX11_robbed.data.toList.drop 96).take 16 = [132, 2, 1, 167, 255, 161, 27, 172] := by decide +kernel
theorem dX11_robbed_0 : decode cX11_robbed 0 = .ok (.iconst 0, 1) := oq_3 (byt chX11_robbed_0 0 rfl)
theorem dX11_robbed_1 : decode cX11_robbed 1 = .ok (.istore_n 1, 1) := oq_60 (byt chX11_robbed_0 1 rfl)
theorem dX11_robbed_2 : decode cX11_robbed 2 = .ok (.iconst 0, 1) := oq_3 (byt chX11_robbed_0 2 rfl)
theorem dX11_robbed_3 : decode cX11_robbed 3 = .ok (.istore_n 2, 1) := oq_61 (byt chX11_robbed_0 3 rfl)
theorem dX11_robbed_4 : decode cX11_robbed 4 = .ok (.iload_n 2, 1) := oq_28 (byt chX11_robbed_0 4 rfl)
theorem dX11_robbed_5 : decode cX11_robbed 5 = .ok (.aload_n 0, 1) := oq_42 (byt chX11_robbed_0 5 rfl)
theorem dX11_robbed_6 : decode cX11_robbed 6 = .ok (.getfield 281, 3) := oq_180 (byt chX11_robbed_0 6 rfl) (byt chX11_robbed_0 7 rfl) (byt chX11_robbed_0 8 rfl) rfl
theorem dX11_robbed_9 : decode cX11_robbed 9 = .ok (.if_icmp .ge 93, 3) := oq_162 (byt chX11_robbed_0 9 rfl) (byt chX11_robbed_0 10 rfl) (byt chX11_robbed_0 11 rfl) (by decide +kernel)
theorem dX11_robbed_12 : decode cX11_robbed 12 = .ok (.iconst 0, 1) := oq_3 (byt chX11_robbed_0 12 rfl)
theorem dX11_robbed_13 : decode cX11_robbed 13 = .ok (.istore_n 3, 1) := oq_62 (byt chX11_robbed_0 13 rfl)
theorem dX11_robbed_14 : decode cX11_robbed 14 = .ok (.iconst 0, 1) := oq_3 (byt chX11_robbed_0 14 rfl)
theorem dX11_robbed_15 : decode cX11_robbed 15 = .ok (.istore 4, 2) := oq_54 (byt chX11_robbed_0 15 rfl) (byt chX11_robbed_1 0 rfl) rfl
theorem dX11_robbed_17 : decode cX11_robbed 17 = .ok (.iload 4, 2) := oq_21 (byt chX11_robbed_1 1 rfl) (byt chX11_robbed_1 2 rfl) rfl
theorem dX11_robbed_19 : decode cX11_robbed 19 = .ok (.aload_n 0, 1) := oq_42 (byt chX11_robbed_1 3 rfl)
theorem dX11_robbed_20 : decode cX11_robbed 20 = .ok (.getfield 284, 3) := oq_180 (byt chX11_robbed_1 4 rfl) (byt chX11_robbed_1 5 rfl) (byt chX11_robbed_1 6 rfl) rfl
theorem dX11_robbed_23 : decode cX11_robbed 23 = .ok (.if_icmp .ge 58, 3) := oq_162 (byt chX11_robbed_1 7 rfl) (byt chX11_robbed_1 8 rfl) (byt chX11_robbed_1 9 rfl) (by decide +kernel)
theorem dX11_robbed_26 : decode cX11_robbed 26 = .ok (.iconst 0, 1) := oq_3 (byt chX11_robbed_1 10 rfl)
theorem dX11_robbed_27 : decode cX11_robbed 27 = .ok (.istore 5, 2) := oq_54 (byt chX11_robbed_1 11 rfl) (byt chX11_robbed_1 12 rfl) rfl
theorem dX11_robbed_29 : decode cX11_robbed 29 = .ok (.iconst 0, 1) := oq_3 (byt chX11_robbed_1 13 rfl)
theorem dX11_robbed_30 : decode cX11_robbed 30 = .ok (.istore 6, 2) := oq_54 (byt chX11_robbed_1 14 rfl) (byt chX11_robbed_1 15 rfl) rfl
theorem dX11_robbed_32 : decode cX11_robbed 32 = .ok (.iload 6, 2) := oq_21 (byt chX11_robbed_2 0 rfl) (byt chX11_robbed_2 1 rfl) rfl
theorem dX11_robbed_34 : decode cX11_robbed 34 = .ok (.iconst 5, 1) := oq_8 (byt chX11_robbed_2 2 rfl)
theorem dX11_robbed_35 : decode cX11_robbed 35 = .ok (.if_icmp .ge 27, 3) := oq_162 (byt chX11_robbed_2 3 rfl) (byt chX11_robbed_2 4 rfl) (byt chX11_robbed_2 5 rfl) (by decide +kernel)
theorem dX11_robbed_38 : decode cX11_robbed 38 = .ok (.iload 5, 2) := oq_21 (byt chX11_robbed_2 6 rfl) (byt chX11_robbed_2 7 rfl) rfl
theorem dX11_robbed_40 : decode cX11_robbed 40 = .ok (.aload_n 0, 1) := oq_42 (byt chX11_robbed_2 8 rfl)
theorem dX11_robbed_41 : decode cX11_robbed 41 = .ok (.getfield 50, 3) := oq_180 (byt chX11_robbed_2 9 rfl) (byt chX11_robbed_2 10 rfl) (byt chX11_robbed_2 11 rfl) rfl
theorem dX11_robbed_44 : decode cX11_robbed 44 = .ok (.iload 4, 2) := oq_21 (byt chX11_robbed_2 12 rfl) (byt chX11_robbed_2 13 rfl) rfl
theorem dX11_robbed_46 : decode cX11_robbed 46 = .ok (.iload_n 2, 1) := oq_28 (byt chX11_robbed_2 14 rfl)
theorem dX11_robbed_47 : decode cX11_robbed 47 = .ok (.iload 6, 2) := oq_21 (byt chX11_robbed_2 15 rfl) (byt chX11_robbed_3 0 rfl) rfl
theorem dX11_robbed_49 : decode cX11_robbed 49 = .ok (.invokestatic 344, 3) := oq_184 (byt chX11_robbed_3 1 rfl) (byt chX11_robbed_3 2 rfl) (byt chX11_robbed_3 3 rfl) rfl
theorem dX11_robbed_52 : decode cX11_robbed 52 = .ok (.iaload, 1) := oq_46 (byt chX11_robbed_3 4 rfl)
theorem dX11_robbed_53 : decode cX11_robbed 53 = .ok (.iadd, 1) := oq_96 (byt chX11_robbed_3 5 rfl)
theorem dX11_robbed_54 : decode cX11_robbed 54 = .ok (.istore 5, 2) := oq_54 (byt chX11_robbed_3 6 rfl) (byt chX11_robbed_3 7 rfl) rfl
theorem dX11_robbed_56 : decode cX11_robbed 56 = .ok (.iinc 6 1, 3) := oq_132 (byt chX11_robbed_3 8 rfl) (byt chX11_robbed_3 9 rfl) (byt chX11_robbed_3 10 rfl) rfl
theorem dX11_robbed_59 : decode cX11_robbed 59 = .ok (.goto (-27), 3) := oq_167 (byt chX11_robbed_3 11 rfl) (byt chX11_robbed_3 12 rfl) (byt chX11_robbed_3 13 rfl) (by decide +kernel)
theorem dX11_robbed_62 : decode cX11_robbed 62 = .ok (.iload_n 3, 1) := oq_29 (byt chX11_robbed_3 14 rfl)
theorem dX11_robbed_63 : decode cX11_robbed 63 = .ok (.iload 5, 2) := oq_21 (byt chX11_robbed_3 15 rfl) (byt chX11_robbed_4 0 rfl) rfl
theorem dX11_robbed_65 : decode cX11_robbed 65 = .ok (.ifCond .le 7, 3) := oq_158 (byt chX11_robbed_4 1 rfl) (byt chX11_robbed_4 2 rfl) (byt chX11_robbed_4 3 rfl) (by decide +kernel)
theorem dX11_robbed_68 : decode cX11_robbed 68 = .ok (.iconst 1, 1) := oq_4 (byt chX11_robbed_4 4 rfl)
theorem dX11_robbed_69 : decode cX11_robbed 69 = .ok (.goto 4, 3) := oq_167 (byt chX11_robbed_4 5 rfl) (byt chX11_robbed_4 6 rfl) (byt chX11_robbed_4 7 rfl) (by decide +kernel)
theorem dX11_robbed_72 : decode cX11_robbed 72 = .ok (.iconst 0, 1) := oq_3 (byt chX11_robbed_4 8 rfl)
theorem dX11_robbed_73 : decode cX11_robbed 73 = .ok (.iadd, 1) := oq_96 (byt chX11_robbed_4 9 rfl)
theorem dX11_robbed_74 : decode cX11_robbed 74 = .ok (.istore_n 3, 1) := oq_62 (byt chX11_robbed_4 10 rfl)
theorem dX11_robbed_75 : decode cX11_robbed 75 = .ok (.iinc 4 1, 3) := oq_132 (byt chX11_robbed_4 11 rfl) (byt chX11_robbed_4 12 rfl) (byt chX11_robbed_4 13 rfl) rfl
theorem dX11_robbed_78 : decode cX11_robbed 78 = .ok (.goto (-61), 3) := oq_167 (byt chX11_robbed_4 14 rfl) (byt chX11_robbed_4 15 rfl) (byt chX11_robbed_5 0 rfl) (by decide +kernel)
theorem dX11_robbed_81 : decode cX11_robbed 81 = .ok (.iload_n 1, 1) := oq_27 (byt chX11_robbed_5 1 rfl)
theorem dX11_robbed_82 : decode cX11_robbed 82 = .ok (.iload_n 3, 1) := oq_29 (byt chX11_robbed_5 2 rfl)
theorem dX11_robbed_83 : decode cX11_robbed 83 = .ok (.iconst 1, 1) := oq_4 (byt chX11_robbed_5 3 rfl)
theorem dX11_robbed_84 : decode cX11_robbed 84 = .ok (.if_icmp .le 9, 3) := oq_164 (byt chX11_robbed_5 4 rfl) (byt chX11_robbed_5 5 rfl) (byt chX11_robbed_5 6 rfl) (by decide +kernel)
theorem dX11_robbed_87 : decode cX11_robbed 87 = .ok (.iconst 1, 1) := oq_4 (byt chX11_robbed_5 7 rfl)
theorem dX11_robbed_88 : decode cX11_robbed 88 = .ok (.iload_n 2, 1) := oq_28 (byt chX11_robbed_5 8 rfl)
theorem dX11_robbed_89 : decode cX11_robbed 89 = .ok (.ishl, 1) := oq_120 (byt chX11_robbed_5 9 rfl)
theorem dX11_robbed_90 : decode cX11_robbed 90 = .ok (.goto 4, 3) := oq_167 (byt chX11_robbed_5 10 rfl) (byt chX11_robbed_5 11 rfl) (byt chX11_robbed_5 12 rfl) (by decide +kernel)
theorem dX11_robbed_93 : decode cX11_robbed 93 = .ok (.iconst 0, 1) := oq_3 (byt chX11_robbed_5 13 rfl)
theorem dX11_robbed_94 : decode cX11_robbed 94 = .ok (.ior, 1) := oq_128 (byt chX11_robbed_5 14 rfl)
theorem dX11_robbed_95 : decode cX11_robbed 95 = .ok (.istore_n 1, 1) := oq_60 (byt chX11_robbed_5 15 rfl)
theorem dX11_robbed_96 : decode cX11_robbed 96 = .ok (.iinc 2 1, 3) := oq_132 (byt chX11_robbed_6 0 rfl) (byt chX11_robbed_6 1 rfl) (byt chX11_robbed_6 2 rfl) rfl
theorem dX11_robbed_99 : decode cX11_robbed 99 = .ok (.goto (-95), 3) := oq_167 (byt chX11_robbed_6 3 rfl) (byt chX11_robbed_6 4 rfl) (byt chX11_robbed_6 5 rfl) (by decide +kernel)
theorem dX11_robbed_102 : decode cX11_robbed 102 = .ok (.iload_n 1, 1) := oq_27 (byt chX11_robbed_6 6 rfl)
theorem dX11_robbed_103 : decode cX11_robbed 103 = .ok (.ireturn, 1) := oq_172 (byt chX11_robbed_6 7 rfl)
abbrev mX11_robbed : MI := (yX11_robbed, cX11_robbed, 7, (some .int), noE)
theorem okX11_robbed : cok mX11_robbed 0 := ⟨tw1841, tw11, by decide, by decide, by decide, by decide +kernel⟩
def fX11_robbed (M : Mem) (a0 : Int) : Option Int :=
  iterC (fun (rec1 : (Int × Int) → Option Int) (s2 : Int × Int) => if M.2.1 a0 = 10 then if s2.2 < M.1 a0 25 then (iterC (fun (rec5 : (Int × Int) → Option Int) (s6 : Int × Int) => if s6.2 < M.1 a0 26 then (iterC (fun (rec8 : (Int × Int) → Option Int) (s9 : Int × Int) => if s9.2 < 5 then ((fX11_place M s6.2 s2.2 s9.2).bind fun r11 => if M.2.1 (M.1 a0 31) = 12 ∧ (0 : Int) ≤ r11 ∧ r11 < M.2.2.1 (M.1 a0 31) then rec8 (w32 (s9.1 + (M.1 (M.1 a0 31) r11)), w32 (s9.2 + 1)) else none) else (if 0 < s9.1 then (rec5 (w32 (s6.1 + 1), w32 (s6.2 + 1))) else (rec5 (w32 (s6.1 + 0), w32 (s6.2 + 1))))) BIG (0, 0)) else (if 1 < s6.1 then (rec1 (bOr s2.1 (bShl 1 s2.2), w32 (s2.2 + 1))) else (rec1 (bOr s2.1 0, w32 (s2.2 + 1))))) BIG (0, 0)) else (some s2.1) else none) BIG (0, 0)
set_option maxRecDepth 100000 in
set_option maxHeartbeats 4000000 in
theorem kX11_robbed (d : Nat) (hd : 1 ≤ d) (M : Mem) (a0 : Int) : Ct mX11_robbed d 0 0 [pA a0] M (dI M) (fX11_robbed M a0) := by
  obtain ⟨d, rfl⟩ : ∃ k, d = k + 1 := ⟨d - 1, by omega⟩
  refine Ct.of 6 (fun _ _ _ => trivial) (by decide +kernel) rfl ?_
  unfold fX11_robbed
  refine v_iconst dX11_robbed_0 (by decide) ?_
  refine v_istore_n (ls' := [some (pA a0), some (pI 0), none, none, none, none, none]) dX11_robbed_1 (by decide) rfl ?_
  refine v_iconst dX11_robbed_2 (by decide) ?_
  refine v_istore_n (ls' := [some (pA a0), some (pI 0), some (pI 0), none, none, none, none]) dX11_robbed_3 (by decide) rfl ?_
  refine v_loop (fun (s2 : Int × Int) => [some (pA a0), some (pI s2.1), some (pI s2.2), none, none, none, none]) (fun (s2 : Int × Int) => M) (s0 := (0, 0)) ?_
  intro rec1 hrec1 s2
  refine v_iload_n dX11_robbed_4 rfl ?_
  refine v_aload_n dX11_robbed_5 rfl ?_
  refine v_if (fun h3 => ?_)
  refine v_get (v := pI (M.1 a0 25)) 10 25 rfl inX11 (by decide) tw1218 dX11_robbed_6 h3 rfl ?_
  refine v_icmp_ge (tgt := 102) dX11_robbed_9 (by decide) (fun c4 => ?_) (fun c4 => ?_)
  · refine v_iconst dX11_robbed_12 (by decide) ?_
    refine v_istore_n (ls' := [some (pA a0), some (pI s2.1), some (pI s2.2), some (pI 0), none, none, none]) dX11_robbed_13 (by decide) rfl ?_
    refine v_iconst dX11_robbed_14 (by decide) ?_
    refine v_istore (ls' := [some (pA a0), some (pI s2.1), some (pI s2.2), some (pI 0), some (pI 0), none, none]) dX11_robbed_15 (by decide) rfl ?_
    refine v_loop (fun (s6 : Int × Int) => [some (pA a0), some (pI s2.1), some (pI s2.2), some (pI s6.1), some (pI s6.2), none, none]) (fun (s6 : Int × Int) => M) (s0 := (0, 0)) ?_
    intro rec5 hrec5 s6
    refine v_iload dX11_robbed_17 rfl ?_
    refine v_aload_n dX11_robbed_19 rfl ?_
    refine v_get (v := pI (M.1 a0 26)) 10 26 rfl inX11 (by decide) tw1219 dX11_robbed_20 h3 rfl ?_
    refine v_icmp_ge (tgt := 81) dX11_robbed_23 (by decide) (fun c7 => ?_) (fun c7 => ?_)
    · refine v_iconst dX11_robbed_26 (by decide) ?_
      refine v_istore (ls' := [some (pA a0), some (pI s2.1), some (pI s2.2), some (pI s6.1), some (pI s6.2), some (pI 0), none]) dX11_robbed_27 (by decide) rfl ?_
      refine v_iconst dX11_robbed_29 (by decide) ?_
      refine v_istore (ls' := [some (pA a0), some (pI s2.1), some (pI s2.2), some (pI s6.1), some (pI s6.2), some (pI 0), some (pI 0)]) dX11_robbed_30 (by decide) rfl ?_
      refine v_loop (fun (s9 : Int × Int) => [some (pA a0), some (pI s2.1), some (pI s2.2), some (pI s6.1), some (pI s6.2), some (pI s9.1), some (pI s9.2)]) (fun (s9 : Int × Int) => M) (s0 := (0, 0)) ?_
      intro rec8 hrec8 s9
      refine v_iload dX11_robbed_32 rfl ?_
      refine v_iconst dX11_robbed_34 (by decide) ?_
      refine v_icmp_ge (tgt := 62) dX11_robbed_35 (by decide) (fun c10 => ?_) (fun c10 => ?_)
      · refine v_iload dX11_robbed_38 rfl ?_
        refine v_aload_n dX11_robbed_40 rfl ?_
        refine v_get (v := pA (M.1 a0 31)) 10 31 rfl inX11 (by decide) tw1224 dX11_robbed_41 h3 rfl ?_
        refine v_iload dX11_robbed_44 rfl ?_
        refine v_iload_n dX11_robbed_46 rfl ?_
        refine v_iload dX11_robbed_47 rfl ?_
        refine v_cS (mi := mX11_robbed) (c0 := 0) (c1 := 0) (As := [pI s6.2, pI s2.2, pI s9.2]) (st := [pA (M.1 a0 31), pI s9.1]) (kX11_place d (by omega) _ _ _ _) okX11_place (Or.inl tw1594) tw1595 rfl (Nat.le_of_ble_eq_true rfl) dX11_robbed_49 (fun r11 => [pI r11, pA (M.1 a0 31), pI s9.1]) (fun r11 => M) (fun _ => rfl) (fun _ => rfl) (fun r11 h12 => ?_) rfl
        refine v_if (fun h13 => ?_)
        refine v_iaload h13 dX11_robbed_52 ?_
        refine v_iadd dX11_robbed_53 ?_
        refine v_istore (ls' := [some (pA a0), some (pI s2.1), some (pI s2.2), some (pI s6.1), some (pI s6.2), some (pI (w32 (s9.1 + (M.1 (M.1 a0 31) r11)))), some (pI s9.2)]) dX11_robbed_54 (by decide) rfl ?_
        refine v_iinc (ls' := [some (pA a0), some (pI s2.1), some (pI s2.2), some (pI s6.1), some (pI s6.2), some (pI (w32 (s9.1 + (M.1 (M.1 a0 31) r11)))), some (pI (w32 (s9.2 + 1)))]) dX11_robbed_56 (by decide) rfl rfl ?_
        refine v_goto (tgt := 32) dX11_robbed_59 (by decide) ?_
        exact hrec8 (w32 (s9.1 + (M.1 (M.1 a0 31) r11)), w32 (s9.2 + 1))
      · refine v_iload_n dX11_robbed_62 rfl ?_
        refine v_iload dX11_robbed_63 rfl ?_
        refine v_if_le (tgt := 72) dX11_robbed_65 (by decide) (fun c14 => ?_) (fun c14 => ?_)
        · refine v_iconst dX11_robbed_68 (by decide) ?_
          refine v_goto (tgt := 73) dX11_robbed_69 (by decide) ?_
          refine v_iadd dX11_robbed_73 ?_
          refine v_istore_n (ls' := [some (pA a0), some (pI s2.1), some (pI s2.2), some (pI (w32 (s6.1 + 1))), some (pI s6.2), some (pI s9.1), some (pI s9.2)]) dX11_robbed_74 (by decide) rfl ?_
          refine v_iinc (ls' := [some (pA a0), some (pI s2.1), some (pI s2.2), some (pI (w32 (s6.1 + 1))), some (pI (w32 (s6.2 + 1))), some (pI s9.1), some (pI s9.2)]) dX11_robbed_75 (by decide) rfl rfl ?_
          refine v_goto (tgt := 17) dX11_robbed_78 (by decide) ?_
          exact v_drop [some (pA a0), some (pI s2.1), some (pI s2.2), some (pI (w32 (s6.1 + 1))), some (pI (w32 (s6.2 + 1))), none, none] (ls_s (ls_s (ls_s (ls_s (ls_s (ls_n (ls_n ls_e))))))) (hrec5 (w32 (s6.1 + 1), w32 (s6.2 + 1)))
        · refine v_iconst dX11_robbed_72 (by decide) ?_
          refine v_iadd dX11_robbed_73 ?_
          refine v_istore_n (ls' := [some (pA a0), some (pI s2.1), some (pI s2.2), some (pI (w32 (s6.1 + 0))), some (pI s6.2), some (pI s9.1), some (pI s9.2)]) dX11_robbed_74 (by decide) rfl ?_
          refine v_iinc (ls' := [some (pA a0), some (pI s2.1), some (pI s2.2), some (pI (w32 (s6.1 + 0))), some (pI (w32 (s6.2 + 1))), some (pI s9.1), some (pI s9.2)]) dX11_robbed_75 (by decide) rfl rfl ?_
          refine v_goto (tgt := 17) dX11_robbed_78 (by decide) ?_
          exact v_drop [some (pA a0), some (pI s2.1), some (pI s2.2), some (pI (w32 (s6.1 + 0))), some (pI (w32 (s6.2 + 1))), none, none] (ls_s (ls_s (ls_s (ls_s (ls_s (ls_n (ls_n ls_e))))))) (hrec5 (w32 (s6.1 + 0), w32 (s6.2 + 1)))
    · refine v_iload_n dX11_robbed_81 rfl ?_
      refine v_iload_n dX11_robbed_82 rfl ?_
      refine v_iconst dX11_robbed_83 (by decide) ?_
      refine v_icmp_le (tgt := 93) dX11_robbed_84 (by decide) (fun c15 => ?_) (fun c15 => ?_)
      · refine v_iconst dX11_robbed_87 (by decide) ?_
        refine v_iload_n dX11_robbed_88 rfl ?_
        refine v_ishl dX11_robbed_89 ?_
        refine v_goto (tgt := 94) dX11_robbed_90 (by decide) ?_
        refine v_ior dX11_robbed_94 ?_
        refine v_istore_n (ls' := [some (pA a0), some (pI (bOr s2.1 (bShl 1 s2.2))), some (pI s2.2), some (pI s6.1), some (pI s6.2), none, none]) dX11_robbed_95 (by decide) rfl ?_
        refine v_iinc (ls' := [some (pA a0), some (pI (bOr s2.1 (bShl 1 s2.2))), some (pI (w32 (s2.2 + 1))), some (pI s6.1), some (pI s6.2), none, none]) dX11_robbed_96 (by decide) rfl rfl ?_
        refine v_goto (tgt := 4) dX11_robbed_99 (by decide) ?_
        exact v_drop [some (pA a0), some (pI (bOr s2.1 (bShl 1 s2.2))), some (pI (w32 (s2.2 + 1))), none, none, none, none] (ls_s (ls_s (ls_s (ls_n (ls_n (ls_n (ls_n ls_e))))))) (hrec1 (bOr s2.1 (bShl 1 s2.2), w32 (s2.2 + 1)))
      · refine v_iconst dX11_robbed_93 (by decide) ?_
        refine v_ior dX11_robbed_94 ?_
        refine v_istore_n (ls' := [some (pA a0), some (pI (bOr s2.1 0)), some (pI s2.2), some (pI s6.1), some (pI s6.2), none, none]) dX11_robbed_95 (by decide) rfl ?_
        refine v_iinc (ls' := [some (pA a0), some (pI (bOr s2.1 0)), some (pI (w32 (s2.2 + 1))), some (pI s6.1), some (pI s6.2), none, none]) dX11_robbed_96 (by decide) rfl rfl ?_
        refine v_goto (tgt := 4) dX11_robbed_99 (by decide) ?_
        exact v_drop [some (pA a0), some (pI (bOr s2.1 0)), some (pI (w32 (s2.2 + 1))), none, none, none, none] (ls_s (ls_s (ls_s (ls_n (ls_n (ls_n (ls_n ls_e))))))) (hrec1 (bOr s2.1 0, w32 (s2.2 + 1)))
  · refine v_iload_n dX11_robbed_102 rfl ?_
    exact v_ireturn dX11_robbed_103 rfl rfl
theorem chX11_wealth_0 : (cX11_wealth.data.toList.drop 0).take 16 = [42, 3, 181, 0, 90, 42, 27, 28, 29, 21, 4, 182, 1, 134, 154, 0] := by decide +kernel
theorem chX11_wealth_1 : (cX11_wealth.data.toList.drop 16).take 16 = [7, 17, 252, 24, 172, 21, 5, 16, 10, 16, 9, 42, 180, 1, 28, 96] := by decide +kernel
theorem chX11_wealth_2 : (cX11_wealth.data.toList.drop 32).take 16 = [184, 0, 98, 153, 0, 13, 42, 21, 5, 16, 10, 100, 182, 1, 242, 172] := by decide +kernel
theorem chX11_wealth_3 : (cX11_wealth.data.toList.drop 48).take 16 = [21, 5, 16, 20, 16, 19, 42, 180, 1, 25, 96, 184, 0, 98, 153, 0] := by decide +kernel
theorem chX11_wealth_4 : (cX11_wealth.data.toList.drop 64).take 16 = [13, 42, 21, 5, 16, 20, 100, 182, 1, 236, 172, 21, 5, 16, 30, 16] := by decide +kernel
theorem chX11_wealth_5 : (cX11_wealth.data.toList.drop 80).take 16 = [29, 42, 180, 1, 25, 96, 184, 0, 98, 153, 0, 13, 42, 21, 5, 16] := by decide +kernel
theorem chX11_wealth_6 : (cX11_wealth.data.toList.drop 96).take 16 = [30, 100, 182, 1, 239, 172, 21, 5, 170, 0, 0, 0, 0, 0, 0, 67] := by decide +kernel
theorem chX11_wealth_8 : (cX11_wealth.data.toList.drop 128).take 16 = [0, 0, 0, 46, 0, 0, 0, 46, 0, 0, 0, 62, 42, 182, 1, 245] := by decide +kernel
theorem chX11_wealth_9 : (cX11_wealth.data.toList.drop 144).take 16 = [172, 42, 182, 1, 248, 172, 42, 21, 5, 6, 160, 0, 7, 4, 167, 0] := by decide +kernel
theorem chX11_wealth_10 : (cX11_wealth.data.toList.drop 160).take 16 = [4, 3, 182, 1, 251, 172, 42, 182, 1, 255, 172, 17, 252, 24, 172] := by decide +kernel
theorem dX11_wealth_0 : decode cX11_wealth 0 = .ok (.aload_n 0, 1) := oq_42 (byt chX11_wealth_0 0 rfl)
theorem dX11_wealth_1 : decode cX11_wealth 1 = .ok (.iconst 0, 1) := oq_3 (byt chX11_wealth_0 1 rfl)
theorem dX11_wealth_2 : decode cX11_wealth 2 = .ok (.putfield 90, 3) := oq_181 (byt chX11_wealth_0 2 rfl) (byt chX11_wealth_0 3 rfl) (byt chX11_wealth_0 4 rfl) rfl
theorem dX11_wealth_5 : decode cX11_wealth 5 = .ok (.aload_n 0, 1) := oq_42 (byt chX11_wealth_0 5 rfl)
theorem dX11_wealth_6 : decode cX11_wealth 6 = .ok (.iload_n 1, 1) := oq_27 (byt chX11_wealth_0 6 rfl)
theorem dX11_wealth_7 : decode cX11_wealth 7 = .ok (.iload_n 2, 1) := oq_28 (byt chX11_wealth_0 7 rfl)
theorem dX11_wealth_8 : decode cX11_wealth 8 = .ok (.iload_n 3, 1) := oq_29 (byt chX11_wealth_0 8 rfl)
theorem dX11_wealth_9 : decode cX11_wealth 9 = .ok (.iload 4, 2) := oq_21 (byt chX11_wealth_0 9 rfl) (byt chX11_wealth_0 10 rfl) rfl
theorem dX11_wealth_11 : decode cX11_wealth 11 = .ok (.invokevirtual 390, 3) := oq_182 (byt chX11_wealth_0 11 rfl) (byt chX11_wealth_0 12 rfl) (byt chX11_wealth_0 13 rfl) rfl
theorem dX11_wealth_14 : decode cX11_wealth 14 = .ok (.ifCond .ne 7, 3) := oq_154 (byt chX11_wealth_0 14 rfl) (byt chX11_wealth_0 15 rfl) (byt chX11_wealth_1 0 rfl) (by decide +kernel)
theorem dX11_wealth_17 : decode cX11_wealth 17 = .ok (.sipush (-1000), 3) := oq_17 (byt chX11_wealth_1 1 rfl) (byt chX11_wealth_1 2 rfl) (byt chX11_wealth_1 3 rfl) (by decide +kernel)
theorem dX11_wealth_20 : decode cX11_wealth 20 = .ok (.ireturn, 1) := oq_172 (byt chX11_wealth_1 4 rfl)
theorem dX11_wealth_21 : decode cX11_wealth 21 = .ok (.iload 5, 2) := oq_21 (byt chX11_wealth_1 5 rfl) (byt chX11_wealth_1 6 rfl) rfl
theorem dX11_wealth_23 : decode cX11_wealth 23 = .ok (.bipush 10, 2) := oq_16 (byt chX11_wealth_1 7 rfl) (byt chX11_wealth_1 8 rfl) rfl
theorem dX11_wealth_25 : decode cX11_wealth 25 = .ok (.bipush 9, 2) := oq_16 (byt chX11_wealth_1 9 rfl) (byt chX11_wealth_1 10 rfl) rfl
theorem dX11_wealth_27 : decode cX11_wealth 27 = .ok (.aload_n 0, 1) := oq_42 (byt chX11_wealth_1 11 rfl)
theorem dX11_wealth_28 : decode cX11_wealth 28 = .ok (.getfield 284, 3) := oq_180 (byt chX11_wealth_1 12 rfl) (byt chX11_wealth_1 13 rfl) (byt chX11_wealth_1 14 rfl) rfl
theorem dX11_wealth_31 : decode cX11_wealth 31 = .ok (.iadd, 1) := oq_96 (byt chX11_wealth_1 15 rfl)
theorem dX11_wealth_32 : decode cX11_wealth 32 = .ok (.invokestatic 98, 3) := oq_184 (byt chX11_wealth_2 0 rfl) (byt chX11_wealth_2 1 rfl) (byt chX11_wealth_2 2 rfl) rfl
theorem dX11_wealth_35 : decode cX11_wealth 35 = .ok (.ifCond .eq 13, 3) := oq_153 (byt chX11_wealth_2 3 rfl) (byt chX11_wealth_2 4 rfl) (byt chX11_wealth_2 5 rfl) (by decide +kernel)
theorem dX11_wealth_38 : decode cX11_wealth 38 = .ok (.aload_n 0, 1) := oq_42 (byt chX11_wealth_2 6 rfl)
theorem dX11_wealth_39 : decode cX11_wealth 39 = .ok (.iload 5, 2) := oq_21 (byt chX11_wealth_2 7 rfl) (byt chX11_wealth_2 8 rfl) rfl
theorem dX11_wealth_41 : decode cX11_wealth 41 = .ok (.bipush 10, 2) := oq_16 (byt chX11_wealth_2 9 rfl) (byt chX11_wealth_2 10 rfl) rfl
theorem dX11_wealth_43 : decode cX11_wealth 43 = .ok (.isub, 1) := oq_100 (byt chX11_wealth_2 11 rfl)
theorem dX11_wealth_44 : decode cX11_wealth 44 = .ok (.invokevirtual 498, 3) := oq_182 (byt chX11_wealth_2 12 rfl) (byt chX11_wealth_2 13 rfl) (byt chX11_wealth_2 14 rfl) rfl
theorem dX11_wealth_47 : decode cX11_wealth 47 = .ok (.ireturn, 1) := oq_172 (byt chX11_wealth_2 15 rfl)
theorem dX11_wealth_48 : decode cX11_wealth 48 = .ok (.iload 5, 2) := oq_21 (byt chX11_wealth_3 0 rfl) (byt chX11_wealth_3 1 rfl) rfl
theorem dX11_wealth_50 : decode cX11_wealth 50 = .ok (.bipush 20, 2) := oq_16 (byt chX11_wealth_3 2 rfl) (byt chX11_wealth_3 3 rfl) rfl
theorem dX11_wealth_52 : decode cX11_wealth 52 = .ok (.bipush 19, 2) := oq_16 (byt chX11_wealth_3 4 rfl) (byt chX11_wealth_3 5 rfl) rfl
theorem dX11_wealth_54 : decode cX11_wealth 54 = .ok (.aload_n 0, 1) := oq_42 (byt chX11_wealth_3 6 rfl)
theorem dX11_wealth_55 : decode cX11_wealth 55 = .ok (.getfield 281, 3) := oq_180 (byt chX11_wealth_3 7 rfl) (byt chX11_wealth_3 8 rfl) (byt chX11_wealth_3 9 rfl) rfl
theorem dX11_wealth_58 : decode cX11_wealth 58 = .ok (.iadd, 1) := oq_96 (byt chX11_wealth_3 10 rfl)
theorem dX11_wealth_59 : decode cX11_wealth 59 = .ok (.invokestatic 98, 3) := oq_184 (byt chX11_wealth_3 11 rfl) (byt chX11_wealth_3 12 rfl) (byt chX11_wealth_3 13 rfl) rfl
theorem dX11_wealth_62 : decode cX11_wealth 62 = .ok (.ifCond .eq 13, 3) := oq_153 (byt chX11_wealth_3 14 rfl) (byt chX11_wealth_3 15 rfl) (byt chX11_wealth_4 0 rfl) (by decide +kernel)
theorem dX11_wealth_65 : decode cX11_wealth 65 = .ok (.aload_n 0, 1) := oq_42 (byt chX11_wealth_4 1 rfl)
theorem dX11_wealth_66 : decode cX11_wealth 66 = .ok (.iload 5, 2) := oq_21 (byt chX11_wealth_4 2 rfl) (byt chX11_wealth_4 3 rfl) rfl
theorem dX11_wealth_68 : decode cX11_wealth 68 = .ok (.bipush 20, 2) := oq_16 (byt chX11_wealth_4 4 rfl) (byt chX11_wealth_4 5 rfl) rfl
theorem dX11_wealth_70 : decode cX11_wealth 70 = .ok (.isub, 1) := oq_100 (byt chX11_wealth_4 6 rfl)
theorem dX11_wealth_71 : decode cX11_wealth 71 = .ok (.invokevirtual 492, 3) := oq_182 (byt chX11_wealth_4 7 rfl) (byt chX11_wealth_4 8 rfl) (byt chX11_wealth_4 9 rfl) rfl
theorem dX11_wealth_74 : decode cX11_wealth 74 = .ok (.ireturn, 1) := oq_172 (byt chX11_wealth_4 10 rfl)
theorem dX11_wealth_75 : decode cX11_wealth 75 = .ok (.iload 5, 2) := oq_21 (byt chX11_wealth_4 11 rfl) (byt chX11_wealth_4 12 rfl) rfl
theorem dX11_wealth_77 : decode cX11_wealth 77 = .ok (.bipush 30, 2) := oq_16 (byt chX11_wealth_4 13 rfl) (byt chX11_wealth_4 14 rfl) rfl
theorem dX11_wealth_79 : decode cX11_wealth 79 = .ok (.bipush 29, 2) := oq_16 (byt chX11_wealth_4 15 rfl) (byt chX11_wealth_5 0 rfl) rfl
theorem dX11_wealth_81 : decode cX11_wealth 81 = .ok (.aload_n 0, 1) := oq_42 (byt chX11_wealth_5 1 rfl)
theorem dX11_wealth_82 : decode cX11_wealth 82 = .ok (.getfield 281, 3) := oq_180 (byt chX11_wealth_5 2 rfl) (byt chX11_wealth_5 3 rfl) (byt chX11_wealth_5 4 rfl) rfl
theorem dX11_wealth_85 : decode cX11_wealth 85 = .ok (.iadd, 1) := oq_96 (byt chX11_wealth_5 5 rfl)
theorem dX11_wealth_86 : decode cX11_wealth 86 = .ok (.invokestatic 98, 3) := oq_184 (byt chX11_wealth_5 6 rfl) (byt chX11_wealth_5 7 rfl) (byt chX11_wealth_5 8 rfl) rfl
theorem dX11_wealth_89 : decode cX11_wealth 89 = .ok (.ifCond .eq 13, 3) := oq_153 (byt chX11_wealth_5 9 rfl) (byt chX11_wealth_5 10 rfl) (byt chX11_wealth_5 11 rfl) (by decide +kernel)
theorem dX11_wealth_92 : decode cX11_wealth 92 = .ok (.aload_n 0, 1) := oq_42 (byt chX11_wealth_5 12 rfl)
theorem dX11_wealth_93 : decode cX11_wealth 93 = .ok (.iload 5, 2) := oq_21 (byt chX11_wealth_5 13 rfl) (byt chX11_wealth_5 14 rfl) rfl
theorem dX11_wealth_95 : decode cX11_wealth 95 = .ok (.bipush 30, 2) := oq_16 (byt chX11_wealth_5 15 rfl) (byt chX11_wealth_6 0 rfl) rfl
theorem dX11_wealth_97 : decode cX11_wealth 97 = .ok (.isub, 1) := oq_100 (byt chX11_wealth_6 1 rfl)
theorem dX11_wealth_98 : decode cX11_wealth 98 = .ok (.invokevirtual 495, 3) := oq_182 (byt chX11_wealth_6 2 rfl) (byt chX11_wealth_6 3 rfl) (byt chX11_wealth_6 4 rfl) rfl
theorem dX11_wealth_101 : decode cX11_wealth 101 = .ok (.ireturn, 1) := oq_172 (byt chX11_wealth_6 5 rfl)
theorem dX11_wealth_102 : decode cX11_wealth 102 = .ok (.iload 5, 2) := oq_21 (byt chX11_wealth_6 6 rfl) (byt chX11_wealth_6 7 rfl) rfl
theorem dX11_wealth_104 : decode cX11_wealth 104 = .ok (.tableswitch 67 0 4 #[36, 41, 46, 46, 62], 36) := by decide +kernel
theorem dX11_wealth_140 : decode cX11_wealth 140 = .ok (.aload_n 0, 1) := oq_42 (byt chX11_wealth_8 12 rfl)
theorem dX11_wealth_141 : decode cX11_wealth 141 = .ok (.invokevirtual 501, 3) := oq_182 (byt chX11_wealth_8 13 rfl) (byt chX11_wealth_8 14 rfl) (byt chX11_wealth_8 15 rfl) rfl
theorem dX11_wealth_144 : decode cX11_wealth 144 = .ok (.ireturn, 1) := oq_172 (byt chX11_wealth_9 0 rfl)
theorem dX11_wealth_145 : decode cX11_wealth 145 = .ok (.aload_n 0, 1) := oq_42 (byt chX11_wealth_9 1 rfl)
theorem dX11_wealth_146 : decode cX11_wealth 146 = .ok (.invokevirtual 504, 3) := oq_182 (byt chX11_wealth_9 2 rfl) (byt chX11_wealth_9 3 rfl) (byt chX11_wealth_9 4 rfl) rfl
theorem dX11_wealth_149 : decode cX11_wealth 149 = .ok (.ireturn, 1) := oq_172 (byt chX11_wealth_9 5 rfl)
theorem dX11_wealth_150 : decode cX11_wealth 150 = .ok (.aload_n 0, 1) := oq_42 (byt chX11_wealth_9 6 rfl)
theorem dX11_wealth_151 : decode cX11_wealth 151 = .ok (.iload 5, 2) := oq_21 (byt chX11_wealth_9 7 rfl) (byt chX11_wealth_9 8 rfl) rfl
theorem dX11_wealth_153 : decode cX11_wealth 153 = .ok (.iconst 3, 1) := oq_6 (byt chX11_wealth_9 9 rfl)
theorem dX11_wealth_154 : decode cX11_wealth 154 = .ok (.if_icmp .ne 7, 3) := oq_160 (byt chX11_wealth_9 10 rfl) (byt chX11_wealth_9 11 rfl) (byt chX11_wealth_9 12 rfl) (by decide +kernel)
theorem dX11_wealth_157 : decode cX11_wealth 157 = .ok (.iconst 1, 1) := oq_4 (byt chX11_wealth_9 13 rfl)
theorem dX11_wealth_158 : decode cX11_wealth 158 = .ok (.goto 4, 3) := oq_167 (byt chX11_wealth_9 14 rfl) (byt chX11_wealth_9 15 rfl) (byt chX11_wealth_10 0 rfl) (by decide +kernel)
theorem dX11_wealth_161 : decode cX11_wealth 161 = .ok (.iconst 0, 1) := oq_3 (byt chX11_wealth_10 1 rfl)
theorem dX11_wealth_162 : decode cX11_wealth 162 = .ok (.invokevirtual 507, 3) := oq_182 (byt chX11_wealth_10 2 rfl) (byt chX11_wealth_10 3 rfl) (byt chX11_wealth_10 4 rfl) rfl
theorem dX11_wealth_165 : decode cX11_wealth 165 = .ok (.ireturn, 1) := oq_172 (byt chX11_wealth_10 5 rfl)
theorem dX11_wealth_166 : decode cX11_wealth 166 = .ok (.aload_n 0, 1) := oq_42 (byt chX11_wealth_10 6 rfl)
theorem dX11_wealth_167 : decode cX11_wealth 167 = .ok (.invokevirtual 511, 3) := oq_182 (byt chX11_wealth_10 7 rfl) (byt chX11_wealth_10 8 rfl) (byt chX11_wealth_10 9 rfl) rfl
theorem dX11_wealth_170 : decode cX11_wealth 170 = .ok (.ireturn, 1) := oq_172 (byt chX11_wealth_10 10 rfl)
theorem dX11_wealth_171 : decode cX11_wealth 171 = .ok (.sipush (-1000), 3) := oq_17 (byt chX11_wealth_10 11 rfl) (byt chX11_wealth_10 12 rfl) (byt chX11_wealth_10 13 rfl) (by decide +kernel)
theorem dX11_wealth_174 : decode cX11_wealth 174 = .ok (.ireturn, 1) := oq_172 (byt chX11_wealth_10 14 rfl)
abbrev mX11_wealth : MI := (yX11_wealth, cX11_wealth, 6, (some .int), noE)
theorem okX11_wealth : cok mX11_wealth 5 := ⟨tw1809, tw11, by decide, by decide, by decide, by decide +kernel⟩
def fX11_wealth (M : Mem) (a0 a1 a2 a3 a4 a5 : Int) : Option (Int × Mem) :=
  if M.2.1 a0 = 10 then bM (mst M a0 0 0) fun M2 => (fX11_layState M2 a0 a1 a2 a3 a4).bind fun r4 => if r4.1 = 0 then (some ((-1000), r4.2)) else (if r4.2.2.1 a0 = 10 then (fX11_in r4.2 a5 10 (w32 (9 + (r4.2.1 a0 26)))).bind fun r8 => if r8 = 0 then ((fX11_in r4.2 a5 20 (w32 (19 + (r4.2.1 a0 25)))).bind fun r11 => if r11 = 0 then ((fX11_in r4.2 a5 30 (w32 (29 + (r4.2.1 a0 25)))).bind fun r14 => if r14 = 0 then (if a5 = 0 then ((fX11_settle r4.2 a0).bind fun r18 => some (r18, r4.2)) else if a5 = 1 then ((fX11_gap r4.2 a0).bind fun r21 => some (r21, r4.2)) else if a5 = 2 then (jn (fun (t25 : Int) => (fX11_unlike r4.2 a0 t25).bind fun r26 => some (r26, r4.2)) (fun (j24 : Int → Option (Int × Mem)) => if a5 = 3 then (j24 1) else (j24 0))) else if a5 = 3 then (jn (fun (t31 : Int) => (fX11_unlike r4.2 a0 t31).bind fun r32 => some (r32, r4.2)) (fun (j30 : Int → Option (Int × Mem)) => if a5 = 3 then (j30 1) else (j30 0))) else if a5 = 4 then ((fX11_robbed r4.2 a0).bind fun r36 => some (r36, r4.2)) else some ((-1000), r4.2)) else ((fX11_ranked r4.2 a0 (w32 (a5 - 30))).bind fun r38 => some (r38, r4.2))) else ((fX11_wealthOf r4.2 a0 (w32 (a5 - 20))).bind fun r40 => some (r40, r4.2))) else ((fX11_can r4.2 a0 (w32 (a5 - 10))).bind fun r42 => some (r42, r4.2)) else none) else none
set_option maxRecDepth 100000 in
set_option maxHeartbeats 4000000 in
theorem kX11_wealth (d : Nat) (hd : 8 ≤ d) (M : Mem) (a0 a1 a2 a3 a4 a5 : Int) : Ct mX11_wealth d 0 0 [pA a0, pI a1, pI a2, pI a3, pI a4, pI a5] M dIM (fX11_wealth M a0 a1 a2 a3 a4 a5) := by
  obtain ⟨d, rfl⟩ : ∃ k, d = k + 1 := ⟨d - 1, by omega⟩
  refine Ct.of 0 (fun _ _ _ => trivial) (by decide +kernel) rfl ?_
  unfold fX11_wealth
  refine v_aload_n dX11_wealth_0 rfl ?_
  refine v_iconst dX11_wealth_1 (by decide) ?_
  refine v_if (fun h1 => ?_)
  refine v_put (x := 0) 10 0 rfl inX11 (by decide) tw1193 (Or.inl rfl) rfl dX11_wealth_2 h1 rfl id ?_
  refine v_bM (fun M2 e3 => ?_)
  refine v_aload_n dX11_wealth_5 rfl ?_
  refine v_iload_n dX11_wealth_6 rfl ?_
  refine v_iload_n dX11_wealth_7 rfl ?_
  refine v_iload_n dX11_wealth_8 rfl ?_
  refine v_iload dX11_wealth_9 rfl ?_
  refine v_cV (mi := mX11_wealth) (c0 := 0) (c1 := 0) (As := [pI a1, pI a2, pI a3, pI a4]) (st := []) (kX11_layState d (by omega) _ _ _ _ _ _) rfl (by rw [e3]; exact h1) rfl okX11_layState (Or.inl tw1621) tw1623 tp77 rfl (Nat.le_of_ble_eq_true rfl) dX11_wealth_11 (fun r4 => [pI r4.1]) (fun r4 => r4.2) (fun _ => rfl) (fun _ => rfl) (fun r4 h5 => ?_) rfl
  refine v_if_ne (tgt := 21) dX11_wealth_14 (by decide) (fun c6 => ?_) (fun c6 => ?_)
  · refine v_sipush dX11_wealth_17 (by decide) ?_
    exact v_ireturn dX11_wealth_20 rfl rfl
  · refine v_iload dX11_wealth_21 rfl ?_
    refine v_bipush dX11_wealth_23 (by decide) ?_
    refine v_bipush dX11_wealth_25 (by decide) ?_
    refine v_aload_n dX11_wealth_27 rfl ?_
    refine v_if (fun h7 => ?_)
    refine v_get (v := pI (r4.2.1 a0 26)) 10 26 rfl inX11 (by decide) tw1219 dX11_wealth_28 h7 rfl ?_
    refine v_iadd dX11_wealth_31 ?_
    refine v_cS (mi := mX11_wealth) (c0 := 0) (c1 := 0) (As := [pI a5, pI 10, pI (w32 (9 + (r4.2.1 a0 26)))]) (st := []) (kX11_in d (by omega) _ _ _ _) okX11_in (Or.inl tw1360) tw1361 rfl (Nat.le_of_ble_eq_true rfl) dX11_wealth_32 (fun r8 => [pI r8]) (fun r8 => r4.2) (fun _ => rfl) (fun _ => rfl) (fun r8 h9 => ?_) rfl
    refine v_if_eq (tgt := 48) dX11_wealth_35 (by decide) (fun c10 => ?_) (fun c10 => ?_)
    · refine v_iload dX11_wealth_48 rfl ?_
      refine v_bipush dX11_wealth_50 (by decide) ?_
      refine v_bipush dX11_wealth_52 (by decide) ?_
      refine v_aload_n dX11_wealth_54 rfl ?_
      refine v_get (v := pI (r4.2.1 a0 25)) 10 25 rfl inX11 (by decide) tw1218 dX11_wealth_55 h7 rfl ?_
      refine v_iadd dX11_wealth_58 ?_
      refine v_cS (mi := mX11_wealth) (c0 := 0) (c1 := 0) (As := [pI a5, pI 20, pI (w32 (19 + (r4.2.1 a0 25)))]) (st := []) (kX11_in d (by omega) _ _ _ _) okX11_in (Or.inl tw1360) tw1361 rfl (Nat.le_of_ble_eq_true rfl) dX11_wealth_59 (fun r11 => [pI r11]) (fun r11 => r4.2) (fun _ => rfl) (fun _ => rfl) (fun r11 h12 => ?_) rfl
      refine v_if_eq (tgt := 75) dX11_wealth_62 (by decide) (fun c13 => ?_) (fun c13 => ?_)
      · refine v_iload dX11_wealth_75 rfl ?_
        refine v_bipush dX11_wealth_77 (by decide) ?_
        refine v_bipush dX11_wealth_79 (by decide) ?_
        refine v_aload_n dX11_wealth_81 rfl ?_
        refine v_get (v := pI (r4.2.1 a0 25)) 10 25 rfl inX11 (by decide) tw1218 dX11_wealth_82 h7 rfl ?_
        refine v_iadd dX11_wealth_85 ?_
        refine v_cS (mi := mX11_wealth) (c0 := 0) (c1 := 0) (As := [pI a5, pI 30, pI (w32 (29 + (r4.2.1 a0 25)))]) (st := []) (kX11_in d (by omega) _ _ _ _) okX11_in (Or.inl tw1360) tw1361 rfl (Nat.le_of_ble_eq_true rfl) dX11_wealth_86 (fun r14 => [pI r14]) (fun r14 => r4.2) (fun _ => rfl) (fun _ => rfl) (fun r14 h15 => ?_) rfl
        refine v_if_eq (tgt := 102) dX11_wealth_89 (by decide) (fun c16 => ?_) (fun c16 => ?_)
        · refine v_iload dX11_wealth_102 rfl ?_
          refine v_ite (fun h17 => ?_) (fun h17 => ?_)
          · refine v_tabIn (off := 36) (tgt := 140) dX11_wealth_104 h17 (by decide) ?_
            refine v_aload_n dX11_wealth_140 rfl ?_
            refine v_cV (mi := mX11_wealth) (c0 := 0) (c1 := 0) (As := []) (st := []) (kX11_settle d (by omega) _ _) rfl h7 rfl okX11_settle (Or.inl tw1822) tw1824 tp107 rfl (Nat.le_of_ble_eq_true rfl) dX11_wealth_141 (fun r18 => [pI r18]) (fun r18 => r4.2) (fun _ => rfl) (fun _ => rfl) (fun r18 h19 => ?_) rfl
            exact v_ireturn dX11_wealth_144 rfl rfl
          · refine v_ite (fun h20 => ?_) (fun h20 => ?_)
            · refine v_tabIn (off := 41) (tgt := 145) dX11_wealth_104 h20 (by decide) ?_
              refine v_aload_n dX11_wealth_145 rfl ?_
              refine v_cV (mi := mX11_wealth) (c0 := 0) (c1 := 0) (As := []) (st := []) (kX11_gap d (by omega) _ _) rfl h7 rfl okX11_gap (Or.inl tw1830) tw1832 tp109 rfl (Nat.le_of_ble_eq_true rfl) dX11_wealth_146 (fun r21 => [pI r21]) (fun r21 => r4.2) (fun _ => rfl) (fun _ => rfl) (fun r21 h22 => ?_) rfl
              exact v_ireturn dX11_wealth_149 rfl rfl
            · refine v_ite (fun h23 => ?_) (fun h23 => ?_)
              · refine v_tabIn (off := 46) (tgt := 150) dX11_wealth_104 h23 (by decide) ?_
                refine v_aload_n dX11_wealth_150 rfl ?_
                refine v_iload dX11_wealth_151 rfl ?_
                refine v_iconst dX11_wealth_153 (by decide) ?_
                refine v_join (fun (t25 : Int) => [none, none, none, none, none, none]) (fun (t25 : Int) => [pI t25, pA a0]) (fun (t25 : Int) => r4.2) 162 (fun t25 => ?_) (fun j24 hj24 => ?_)
                · refine v_cV (mi := mX11_wealth) (c0 := 0) (c1 := 0) (As := [pI t25]) (st := []) (kX11_unlike d (by omega) _ _ _) rfl h7 rfl okX11_unlike (Or.inl tw1834) tw1836 tp110 rfl (Nat.le_of_ble_eq_true rfl) dX11_wealth_162 (fun r26 => [pI r26]) (fun r26 => r4.2) (fun _ => rfl) (fun _ => rfl) (fun r26 h27 => ?_) rfl
                  exact v_ireturn dX11_wealth_165 rfl rfl
                · refine v_icmp_ne (tgt := 161) dX11_wealth_154 (by decide) (fun c28 => ?_) (fun c28 => ?_)
                  · refine v_iconst dX11_wealth_157 (by decide) ?_
                    refine v_goto (tgt := 162) dX11_wealth_158 (by decide) ?_
                    exact v_drop [none, none, none, none, none, none] (ls_n (ls_n (ls_n (ls_n (ls_n (ls_n ls_e)))))) (hj24 1)
                  · refine v_iconst dX11_wealth_161 (by decide) ?_
                    exact v_drop [none, none, none, none, none, none] (ls_n (ls_n (ls_n (ls_n (ls_n (ls_n ls_e)))))) (hj24 0)
              · refine v_ite (fun h29 => ?_) (fun h29 => ?_)
                · refine v_tabIn (off := 46) (tgt := 150) dX11_wealth_104 h29 (by decide) ?_
                  refine v_aload_n dX11_wealth_150 rfl ?_
                  refine v_iload dX11_wealth_151 rfl ?_
                  refine v_iconst dX11_wealth_153 (by decide) ?_
                  refine v_join (fun (t31 : Int) => [none, none, none, none, none, none]) (fun (t31 : Int) => [pI t31, pA a0]) (fun (t31 : Int) => r4.2) 162 (fun t31 => ?_) (fun j30 hj30 => ?_)
                  · refine v_cV (mi := mX11_wealth) (c0 := 0) (c1 := 0) (As := [pI t31]) (st := []) (kX11_unlike d (by omega) _ _ _) rfl h7 rfl okX11_unlike (Or.inl tw1834) tw1836 tp110 rfl (Nat.le_of_ble_eq_true rfl) dX11_wealth_162 (fun r32 => [pI r32]) (fun r32 => r4.2) (fun _ => rfl) (fun _ => rfl) (fun r32 h33 => ?_) rfl
                    exact v_ireturn dX11_wealth_165 rfl rfl
                  · refine v_icmp_ne (tgt := 161) dX11_wealth_154 (by decide) (fun c34 => ?_) (fun c34 => ?_)
                    · refine v_iconst dX11_wealth_157 (by decide) ?_
                      refine v_goto (tgt := 162) dX11_wealth_158 (by decide) ?_
                      exact v_drop [none, none, none, none, none, none] (ls_n (ls_n (ls_n (ls_n (ls_n (ls_n ls_e)))))) (hj30 1)
                    · refine v_iconst dX11_wealth_161 (by decide) ?_
                      exact v_drop [none, none, none, none, none, none] (ls_n (ls_n (ls_n (ls_n (ls_n (ls_n ls_e)))))) (hj30 0)
                · refine v_ite (fun h35 => ?_) (fun h35 => ?_)
                  · refine v_tabIn (off := 62) (tgt := 166) dX11_wealth_104 h35 (by decide) ?_
                    refine v_aload_n dX11_wealth_166 rfl ?_
                    refine v_cV (mi := mX11_wealth) (c0 := 0) (c1 := 0) (As := []) (st := []) (kX11_robbed d (by omega) _ _) rfl h7 rfl okX11_robbed (Or.inl tw1838) tw1840 tp111 rfl (Nat.le_of_ble_eq_true rfl) dX11_wealth_167 (fun r36 => [pI r36]) (fun r36 => r4.2) (fun _ => rfl) (fun _ => rfl) (fun r36 h37 => ?_) rfl
                    exact v_ireturn dX11_wealth_170 rfl rfl
                  · refine v_tabOut (tgt := 171) dX11_wealth_104 (by omega) (by decide) ?_
                    refine v_sipush dX11_wealth_171 (by decide) ?_
                    exact v_ireturn dX11_wealth_174 rfl rfl
        · refine v_aload_n dX11_wealth_92 rfl ?_
          refine v_iload dX11_wealth_93 rfl ?_
          refine v_bipush dX11_wealth_95 (by decide) ?_
          refine v_isub dX11_wealth_97 ?_
          refine v_cV (mi := mX11_wealth) (c0 := 0) (c1 := 0) (As := [pI (w32 (a5 - 30))]) (st := []) (kX11_ranked d (by omega) _ _ _) rfl h7 rfl okX11_ranked (Or.inl tw1818) tw1820 tp106 rfl (Nat.le_of_ble_eq_true rfl) dX11_wealth_98 (fun r38 => [pI r38]) (fun r38 => r4.2) (fun _ => rfl) (fun _ => rfl) (fun r38 h39 => ?_) rfl
          exact v_ireturn dX11_wealth_101 rfl rfl
      · refine v_aload_n dX11_wealth_65 rfl ?_
        refine v_iload dX11_wealth_66 rfl ?_
        refine v_bipush dX11_wealth_68 (by decide) ?_
        refine v_isub dX11_wealth_70 ?_
        refine v_cV (mi := mX11_wealth) (c0 := 0) (c1 := 0) (As := [pI (w32 (a5 - 20))]) (st := []) (kX11_wealthOf d (by omega) _ _ _) rfl h7 rfl okX11_wealthOf (Or.inl tw1814) tw1816 tp105 rfl (Nat.le_of_ble_eq_true rfl) dX11_wealth_71 (fun r40 => [pI r40]) (fun r40 => r4.2) (fun _ => rfl) (fun _ => rfl) (fun r40 h41 => ?_) rfl
        exact v_ireturn dX11_wealth_74 rfl rfl
    · refine v_aload_n dX11_wealth_38 rfl ?_
      refine v_iload dX11_wealth_39 rfl ?_
      refine v_bipush dX11_wealth_41 (by decide) ?_
      refine v_isub dX11_wealth_43 ?_
      refine v_cV (mi := mX11_wealth) (c0 := 0) (c1 := 0) (As := [pI (w32 (a5 - 10))]) (st := []) (kX11_can d (by omega) _ _ _) rfl h7 rfl okX11_can (Or.inl tw1810) tw1812 tp104 rfl (Nat.le_of_ble_eq_true rfl) dX11_wealth_44 (fun r42 => [pI r42]) (fun r42 => r4.2) (fun _ => rfl) (fun _ => rfl) (fun r42 h43 => ?_) rfl
      exact v_ireturn dX11_wealth_47 rfl rfl
theorem chX11_figure_0 : (cX11_figure.data.toList.drop 0).take 16 = [26, 61, 7, 62, 29, 27, 164, 0, 14, 28, 16, 10, 108, 61, 132, 3] := by decide +kernel
theorem chX11_figure_1 : (cX11_figure.data.toList.drop 16).take 16 = [255, 167, 255, 243, 28, 16, 10, 112, 172] := by decide +kernel
theorem dX11_figure_0 : decode cX11_figure 0 = .ok (.iload_n 0, 1) := oq_26 (byt chX11_figure_0 0 rfl)
theorem dX11_figure_1 : decode cX11_figure 1 = .ok (.istore_n 2, 1) := oq_61 (byt chX11_figure_0 1 rfl)
theorem dX11_figure_2 : decode cX11_figure 2 = .ok (.iconst 4, 1) := oq_7 (byt chX11_figure_0 2 rfl)
theorem dX11_figure_3 : decode cX11_figure 3 = .ok (.istore_n 3, 1) := oq_62 (byt chX11_figure_0 3 rfl)
theorem dX11_figure_4 : decode cX11_figure 4 = .ok (.iload_n 3, 1) := oq_29 (byt chX11_figure_0 4 rfl)
theorem dX11_figure_5 : decode cX11_figure 5 = .ok (.iload_n 1, 1) := oq_27 (byt chX11_figure_0 5 rfl)
theorem dX11_figure_6 : decode cX11_figure 6 = .ok (.if_icmp .le 14, 3) := oq_164 (byt chX11_figure_0 6 rfl) (byt chX11_figure_0 7 rfl) (byt chX11_figure_0 8 rfl) (by decide +kernel)
theorem dX11_figure_9 : decode cX11_figure 9 = .ok (.iload_n 2, 1) := oq_28 (byt chX11_figure_0 9 rfl)
theorem dX11_figure_10 : decode cX11_figure 10 = .ok (.bipush 10, 2) := oq_16 (byt chX11_figure_0 10 rfl) (byt chX11_figure_0 11 rfl) rfl
theorem dX11_figure_12 : decode cX11_figure 12 = .ok (.idiv, 1) := oq_108 (byt chX11_figure_0 12 rfl)
theorem dX11_figure_13 : decode cX11_figure 13 = .ok (.istore_n 2, 1) := oq_61 (byt chX11_figure_0 13 rfl)
theorem dX11_figure_14 : decode cX11_figure 14 = .ok (.iinc 3 (-1), 3) := oq_132 (byt chX11_figure_0 14 rfl) (byt chX11_figure_0 15 rfl) (byt chX11_figure_1 0 rfl) rfl
theorem dX11_figure_17 : decode cX11_figure 17 = .ok (.goto (-13), 3) := oq_167 (byt chX11_figure_1 1 rfl) (byt chX11_figure_1 2 rfl) (byt chX11_figure_1 3 rfl) (by decide +kernel)
theorem dX11_figure_20 : decode cX11_figure 20 = .ok (.iload_n 2, 1) := oq_28 (byt chX11_figure_1 4 rfl)
theorem dX11_figure_21 : decode cX11_figure 21 = .ok (.bipush 10, 2) := oq_16 (byt chX11_figure_1 5 rfl) (byt chX11_figure_1 6 rfl) rfl
theorem dX11_figure_23 : decode cX11_figure 23 = .ok (.irem, 1) := oq_112 (byt chX11_figure_1 7 rfl)
theorem dX11_figure_24 : decode cX11_figure 24 = .ok (.ireturn, 1) := oq_172 (byt chX11_figure_1 8 rfl)
abbrev mX11_figure : MI := (yX11_figure, cX11_figure, 4, (some .int), noE)
theorem okX11_figure : cok mX11_figure 2 := ⟨tw1853, tw11, by decide, by decide, by decide, by decide +kernel⟩
def fX11_figure (M : Mem) (a0 a1 : Int) : Option Int :=
  iterC (fun (rec1 : (Int × Int) → Option Int) (s2 : Int × Int) => if a1 < s2.2 then (rec1 (w32 (s2.1.tdiv 10), w32 (s2.2 + (-1)))) else (some (s2.1.tmod 10))) BIG (a0, 4)
set_option maxRecDepth 100000 in
set_option maxHeartbeats 4000000 in
theorem kX11_figure (d : Nat) (hd : 0 ≤ d) (M : Mem) (a0 a1 : Int) : Ct mX11_figure d 0 0 [pI a0, pI a1] M (dI M) (fX11_figure M a0 a1) := by
  refine Ct.of 2 (fun _ _ _ => trivial) (by decide +kernel) rfl ?_
  unfold fX11_figure
  refine v_iload_n dX11_figure_0 rfl ?_
  refine v_istore_n (ls' := [some (pI a0), some (pI a1), some (pI a0), none]) dX11_figure_1 (by decide) rfl ?_
  refine v_iconst dX11_figure_2 (by decide) ?_
  refine v_istore_n (ls' := [some (pI a0), some (pI a1), some (pI a0), some (pI 4)]) dX11_figure_3 (by decide) rfl ?_
  refine v_drop [none, some (pI a1), some (pI a0), some (pI 4)] (ls_n (ls_s (ls_s (ls_s ls_e)))) ?_
  refine v_loop (fun (s2 : Int × Int) => [none, some (pI a1), some (pI s2.1), some (pI s2.2)]) (fun (s2 : Int × Int) => M) (s0 := (a0, 4)) ?_
  intro rec1 hrec1 s2
  refine v_iload_n dX11_figure_4 rfl ?_
  refine v_iload_n dX11_figure_5 rfl ?_
  refine v_icmp_le (tgt := 20) dX11_figure_6 (by decide) (fun c3 => ?_) (fun c3 => ?_)
  · refine v_iload_n dX11_figure_9 rfl ?_
    refine v_bipush dX11_figure_10 (by decide) ?_
    refine v_idiv (by decide) dX11_figure_12 ?_
    refine v_istore_n (ls' := [none, some (pI a1), some (pI (w32 (s2.1.tdiv 10))), some (pI s2.2)]) dX11_figure_13 (by decide) rfl ?_
    refine v_iinc (ls' := [none, some (pI a1), some (pI (w32 (s2.1.tdiv 10))), some (pI (w32 (s2.2 + (-1))))]) dX11_figure_14 (by decide) rfl rfl ?_
    refine v_goto (tgt := 4) dX11_figure_17 (by decide) ?_
    exact hrec1 (w32 (s2.1.tdiv 10), w32 (s2.2 + (-1)))
  · refine v_iload_n dX11_figure_20 rfl ?_
    refine v_bipush dX11_figure_21 (by decide) ?_
    refine v_irem (by decide) dX11_figure_23 ?_
    exact v_ireturn dX11_figure_24 rfl rfl
theorem chX11_haulWorth_0 : (cX11_haulWorth.data.toList.drop 0).take 16 = [3, 54, 5, 3, 54, 6, 3, 54, 7, 27, 54, 8, 7, 54, 9, 21] := by decide +kernel
theorem chX11_haulWorth_1 : (cX11_haulWorth.data.toList.drop 16).take 16 = [9, 155, 0, 83, 21, 8, 16, 10, 112, 54, 10, 21, 8, 16, 10, 108] := by decide +kernel
theorem chX11_haulWorth_2 : (cX11_haulWorth.data.toList.drop 32).take 16 = [54, 8, 21, 10, 42, 5, 8, 28, 104, 96, 21, 9, 96, 182, 1, 21] := by decide +kernel
theorem chX11_haulWorth_3 : (cX11_haulWorth.data.toList.drop 48).take 16 = [164, 0, 5, 2, 172, 21, 5, 21, 10, 96, 54, 5, 21, 6, 21, 10] := by decide +kernel
theorem chX11_haulWorth_4 : (cX11_haulWorth.data.toList.drop 64).take 16 = [42, 16, 74, 21, 9, 96, 182, 1, 21, 104, 96, 54, 6, 21, 7, 21] := by decide +kernel
theorem chX11_haulWorth_5 : (cX11_haulWorth.data.toList.drop 80).take 16 = [10, 42, 16, 79, 21, 9, 96, 182, 1, 21, 104, 96, 54, 7, 132, 9] := by decide +kernel
theorem chX11_haulWorth_6 : (cX11_haulWorth.data.toList.drop 96).take 16 = [255, 167, 255, 174, 21, 5, 29, 163, 0, 10, 21, 6, 21, 4, 164, 0] := by decide +kernel
theorem chX11_haulWorth_7 : (cX11_haulWorth.data.toList.drop 112).take 16 = [7, 2, 167, 0, 5, 21, 7, 172] := by decide +kernel
theorem dX11_haulWorth_0 : decode cX11_haulWorth 0 = .ok (.iconst 0, 1) := oq_3 (byt chX11_haulWorth_0 0 rfl)
theorem dX11_haulWorth_1 : decode cX11_haulWorth 1 = .ok (.istore 5, 2) := oq_54 (byt chX11_haulWorth_0 1 rfl) (byt chX11_haulWorth_0 2 rfl) rfl
theorem dX11_haulWorth_3 : decode cX11_haulWorth 3 = .ok (.iconst 0, 1) := oq_3 (byt chX11_haulWorth_0 3 rfl)
theorem dX11_haulWorth_4 : decode cX11_haulWorth 4 = .ok (.istore 6, 2) := oq_54 (byt chX11_haulWorth_0 4 rfl) (byt chX11_haulWorth_0 5 rfl) rfl
theorem dX11_haulWorth_6 : decode cX11_haulWorth 6 = .ok (.iconst 0, 1) := oq_3 (byt chX11_haulWorth_0 6 rfl)
theorem dX11_haulWorth_7 : decode cX11_haulWorth 7 = .ok (.istore 7, 2) := oq_54 (byt chX11_haulWorth_0 7 rfl) (byt chX11_haulWorth_0 8 rfl) rfl
theorem dX11_haulWorth_9 : decode cX11_haulWorth 9 = .ok (.iload_n 1, 1) := oq_27 (byt chX11_haulWorth_0 9 rfl)
theorem dX11_haulWorth_10 : decode cX11_haulWorth 10 = .ok (.istore 8, 2) := oq_54 (byt chX11_haulWorth_0 10 rfl) (byt chX11_haulWorth_0 11 rfl) rfl
theorem dX11_haulWorth_12 : decode cX11_haulWorth 12 = .ok (.iconst 4, 1) := oq_7 (byt chX11_haulWorth_0 12 rfl)
theorem dX11_haulWorth_13 : decode cX11_haulWorth 13 = .ok (.istore 9, 2) := oq_54 (byt chX11_haulWorth_0 13 rfl) (byt chX11_haulWorth_0 14 rfl) rfl
theorem dX11_haulWorth_15 : decode cX11_haulWorth 15 = .ok (.iload 9, 2) := oq_21 (byt chX11_haulWorth_0 15 rfl) (byt chX11_haulWorth_1 0 rfl) rfl
theorem dX11_haulWorth_17 : decode cX11_haulWorth 17 = .ok (.ifCond .lt 83, 3) := oq_155 (byt chX11_haulWorth_1 1 rfl) (byt chX11_haulWorth_1 2 rfl) (byt chX11_haulWorth_1 3 rfl) (by decide +kernel)
theorem dX11_haulWorth_20 : decode cX11_haulWorth 20 = .ok (.iload 8, 2) := oq_21 (byt chX11_haulWorth_1 4 rfl) (byt chX11_haulWorth_1 5 rfl) rfl
theorem dX11_haulWorth_22 : decode cX11_haulWorth 22 = .ok (.bipush 10, 2) := oq_16 (byt chX11_haulWorth_1 6 rfl) (byt chX11_haulWorth_1 7 rfl) rfl
theorem dX11_haulWorth_24 : decode cX11_haulWorth 24 = .ok (.irem, 1) := oq_112 (byt chX11_haulWorth_1 8 rfl)
theorem dX11_haulWorth_25 : decode cX11_haulWorth 25 = .ok (.istore 10, 2) := oq_54 (byt chX11_haulWorth_1 9 rfl) (byt chX11_haulWorth_1 10 rfl) rfl
theorem dX11_haulWorth_27 : decode cX11_haulWorth 27 = .ok (.iload 8, 2) := oq_21 (byt chX11_haulWorth_1 11 rfl) (byt chX11_haulWorth_1 12 rfl) rfl
theorem dX11_haulWorth_29 : decode cX11_haulWorth 29 = .ok (.bipush 10, 2) := oq_16 (byt chX11_haulWorth_1 13 rfl) (byt chX11_haulWorth_1 14 rfl) rfl
theorem dX11_haulWorth_31 : decode cX11_haulWorth 31 = .ok (.idiv, 1) := oq_108 (byt chX11_haulWorth_1 15 rfl)
theorem dX11_haulWorth_32 : decode cX11_haulWorth 32 = .ok (.istore 8, 2) := oq_54 (byt chX11_haulWorth_2 0 rfl) (byt chX11_haulWorth_2 1 rfl) rfl
theorem dX11_haulWorth_34 : decode cX11_haulWorth 34 = .ok (.iload 10, 2) := oq_21 (byt chX11_haulWorth_2 2 rfl) (byt chX11_haulWorth_2 3 rfl) rfl
theorem dX11_haulWorth_36 : decode cX11_haulWorth 36 = .ok (.aload_n 0, 1) := oq_42 (byt chX11_haulWorth_2 4 rfl)
theorem dX11_haulWorth_37 : decode cX11_haulWorth 37 = .ok (.iconst 2, 1) := oq_5 (byt chX11_haulWorth_2 5 rfl)
theorem dX11_haulWorth_38 : decode cX11_haulWorth 38 = .ok (.iconst 5, 1) := oq_8 (byt chX11_haulWorth_2 6 rfl)
theorem dX11_haulWorth_39 : decode cX11_haulWorth 39 = .ok (.iload_n 2, 1) := oq_28 (byt chX11_haulWorth_2 7 rfl)
theorem dX11_haulWorth_40 : decode cX11_haulWorth 40 = .ok (.imul, 1) := oq_104 (byt chX11_haulWorth_2 8 rfl)
theorem dX11_haulWorth_41 : decode cX11_haulWorth 41 = .ok (.iadd, 1) := oq_96 (byt chX11_haulWorth_2 9 rfl)
theorem dX11_haulWorth_42 : decode cX11_haulWorth 42 = .ok (.iload 9, 2) := oq_21 (byt chX11_haulWorth_2 10 rfl) (byt chX11_haulWorth_2 11 rfl) rfl
theorem dX11_haulWorth_44 : decode cX11_haulWorth 44 = .ok (.iadd, 1) := oq_96 (byt chX11_haulWorth_2 12 rfl)
theorem dX11_haulWorth_45 : decode cX11_haulWorth 45 = .ok (.invokevirtual 277, 3) := oq_182 (byt chX11_haulWorth_2 13 rfl) (byt chX11_haulWorth_2 14 rfl) (byt chX11_haulWorth_2 15 rfl) rfl
theorem dX11_haulWorth_48 : decode cX11_haulWorth 48 = .ok (.if_icmp .le 5, 3) := oq_164 (byt chX11_haulWorth_3 0 rfl) (byt chX11_haulWorth_3 1 rfl) (byt chX11_haulWorth_3 2 rfl) (by decide +kernel)
theorem dX11_haulWorth_51 : decode cX11_haulWorth 51 = .ok (.iconst (-1), 1) := oq_2 (byt chX11_haulWorth_3 3 rfl)
theorem dX11_haulWorth_52 : decode cX11_haulWorth 52 = .ok (.ireturn, 1) := oq_172 (byt chX11_haulWorth_3 4 rfl)
theorem dX11_haulWorth_53 : decode cX11_haulWorth 53 = .ok (.iload 5, 2) := oq_21 (byt chX11_haulWorth_3 5 rfl) (byt chX11_haulWorth_3 6 rfl) rfl
theorem dX11_haulWorth_55 : decode cX11_haulWorth 55 = .ok (.iload 10, 2) := oq_21 (byt chX11_haulWorth_3 7 rfl) (byt chX11_haulWorth_3 8 rfl) rfl
theorem dX11_haulWorth_57 : decode cX11_haulWorth 57 = .ok (.iadd, 1) := oq_96 (byt chX11_haulWorth_3 9 rfl)
theorem dX11_haulWorth_58 : decode cX11_haulWorth 58 = .ok (.istore 5, 2) := oq_54 (byt chX11_haulWorth_3 10 rfl) (byt chX11_haulWorth_3 11 rfl) rfl
theorem dX11_haulWorth_60 : decode cX11_haulWorth 60 = .ok (.iload 6, 2) := oq_21 (byt chX11_haulWorth_3 12 rfl) (byt chX11_haulWorth_3 13 rfl) rfl
theorem dX11_haulWorth_62 : decode cX11_haulWorth 62 = .ok (.iload 10, 2) := oq_21 (byt chX11_haulWorth_3 14 rfl) (byt chX11_haulWorth_3 15 rfl) rfl
theorem dX11_haulWorth_64 : decode cX11_haulWorth 64 = .ok (.aload_n 0, 1) := oq_42 (byt chX11_haulWorth_4 0 rfl)
theorem dX11_haulWorth_65 : decode cX11_haulWorth 65 = .ok (.bipush 74, 2) := oq_16 (byt chX11_haulWorth_4 1 rfl) (byt chX11_haulWorth_4 2 rfl) rfl
theorem dX11_haulWorth_67 : decode cX11_haulWorth 67 = .ok (.iload 9, 2) := oq_21 (byt chX11_haulWorth_4 3 rfl) (byt chX11_haulWorth_4 4 rfl) rfl
theorem dX11_haulWorth_69 : decode cX11_haulWorth 69 = .ok (.iadd, 1) := oq_96 (byt chX11_haulWorth_4 5 rfl)
theorem dX11_haulWorth_70 : decode cX11_haulWorth 70 = .ok (.invokevirtual 277, 3) := oq_182 (byt chX11_haulWorth_4 6 rfl) (byt chX11_haulWorth_4 7 rfl) (byt chX11_haulWorth_4 8 rfl) rfl
theorem dX11_haulWorth_73 : decode cX11_haulWorth 73 = .ok (.imul, 1) := oq_104 (byt chX11_haulWorth_4 9 rfl)
theorem dX11_haulWorth_74 : decode cX11_haulWorth 74 = .ok (.iadd, 1) := oq_96 (byt chX11_haulWorth_4 10 rfl)
theorem dX11_haulWorth_75 : decode cX11_haulWorth 75 = .ok (.istore 6, 2) := oq_54 (byt chX11_haulWorth_4 11 rfl) (byt chX11_haulWorth_4 12 rfl) rfl
theorem dX11_haulWorth_77 : decode cX11_haulWorth 77 = .ok (.iload 7, 2) := oq_21 (byt chX11_haulWorth_4 13 rfl) (byt chX11_haulWorth_4 14 rfl) rfl
theorem dX11_haulWorth_79 : decode cX11_haulWorth 79 = .ok (.iload 10, 2) := oq_21 (byt chX11_haulWorth_4 15 rfl) (byt chX11_haulWorth_5 0 rfl) rfl
theorem dX11_haulWorth_81 : decode cX11_haulWorth 81 = .ok (.aload_n 0, 1) := oq_42 (byt chX11_haulWorth_5 1 rfl)
theorem dX11_haulWorth_82 : decode cX11_haulWorth 82 = .ok (.bipush 79, 2) := oq_16 (byt chX11_haulWorth_5 2 rfl) (byt chX11_haulWorth_5 3 rfl) rfl
theorem dX11_haulWorth_84 : decode cX11_haulWorth 84 = .ok (.iload 9, 2) := oq_21 (byt chX11_haulWorth_5 4 rfl) (byt chX11_haulWorth_5 5 rfl) rfl
theorem dX11_haulWorth_86 : decode cX11_haulWorth 86 = .ok (.iadd, 1) := oq_96 (byt chX11_haulWorth_5 6 rfl)
theorem dX11_haulWorth_87 : decode cX11_haulWorth 87 = .ok (.invokevirtual 277, 3) := oq_182 (byt chX11_haulWorth_5 7 rfl) (byt chX11_haulWorth_5 8 rfl) (byt chX11_haulWorth_5 9 rfl) rfl
theorem dX11_haulWorth_90 : decode cX11_haulWorth 90 = .ok (.imul, 1) := oq_104 (byt chX11_haulWorth_5 10 rfl)
theorem dX11_haulWorth_91 : decode cX11_haulWorth 91 = .ok (.iadd, 1) := oq_96 (byt chX11_haulWorth_5 11 rfl)
theorem dX11_haulWorth_92 : decode cX11_haulWorth 92 = .ok (.istore 7, 2) := oq_54 (byt chX11_haulWorth_5 12 rfl) (byt chX11_haulWorth_5 13 rfl) rfl
theorem dX11_haulWorth_94 : decode cX11_haulWorth 94 = .ok (.iinc 9 (-1), 3) := oq_132 (byt chX11_haulWorth_5 14 rfl) (byt chX11_haulWorth_5 15 rfl) (byt chX11_haulWorth_6 0 rfl) rfl
theorem dX11_haulWorth_97 : decode cX11_haulWorth 97 = .ok (.goto (-82), 3) := oq_167 (byt chX11_haulWorth_6 1 rfl) (byt chX11_haulWorth_6 2 rfl) (byt chX11_haulWorth_6 3 rfl) (by decide +kernel)
theorem dX11_haulWorth_100 : decode cX11_haulWorth 100 = .ok (.iload 5, 2) := oq_21 (byt chX11_haulWorth_6 4 rfl) (byt chX11_haulWorth_6 5 rfl) rfl
theorem dX11_haulWorth_102 : decode cX11_haulWorth 102 = .ok (.iload_n 3, 1) := oq_29 (byt chX11_haulWorth_6 6 rfl)
theorem dX11_haulWorth_103 : decode cX11_haulWorth 103 = .ok (.if_icmp .gt 10, 3) := oq_163 (byt chX11_haulWorth_6 7 rfl) (byt chX11_haulWorth_6 8 rfl) (byt chX11_haulWorth_6 9 rfl) (by decide +kernel)
theorem dX11_haulWorth_106 : decode cX11_haulWorth 106 = .ok (.iload 6, 2) := oq_21 (byt chX11_haulWorth_6 10 rfl) (byt chX11_haulWorth_6 11 rfl) rfl
theorem dX11_haulWorth_108 : decode cX11_haulWorth 108 = .ok (.iload 4, 2) := oq_21 (byt chX11_haulWorth_6 12 rfl) (byt chX11_haulWorth_6 13 rfl) rfl
theorem dX11_haulWorth_110 : decode cX11_haulWorth 110 = .ok (.if_icmp .le 7, 3) := oq_164 (byt chX11_haulWorth_6 14 rfl) (byt chX11_haulWorth_6 15 rfl) (byt chX11_haulWorth_7 0 rfl) (by decide +kernel)
theorem dX11_haulWorth_113 : decode cX11_haulWorth 113 = .ok (.iconst (-1), 1) := oq_2 (byt chX11_haulWorth_7 1 rfl)
theorem dX11_haulWorth_114 : decode cX11_haulWorth 114 = .ok (.goto 5, 3) := oq_167 (byt chX11_haulWorth_7 2 rfl) (byt chX11_haulWorth_7 3 rfl) (byt chX11_haulWorth_7 4 rfl) (by decide +kernel)
theorem dX11_haulWorth_117 : decode cX11_haulWorth 117 = .ok (.iload 7, 2) := oq_21 (byt chX11_haulWorth_7 5 rfl) (byt chX11_haulWorth_7 6 rfl) rfl
theorem dX11_haulWorth_119 : decode cX11_haulWorth 119 = .ok (.ireturn, 1) := oq_172 (byt chX11_haulWorth_7 7 rfl)
abbrev mX11_haulWorth : MI := (yX11_haulWorth, cX11_haulWorth, 11, (some .int), noE)
theorem okX11_haulWorth : cok mX11_haulWorth 4 := ⟨tw1850, tw11, by decide, by decide, by decide, by decide +kernel⟩
def fX11_haulWorth (M : Mem) (a0 a1 a2 a3 a4 : Int) : Option Int :=
  iterC (fun (rec1 : (Int × Int × Int × Int × Int) → Option Int) (s2 : Int × Int × Int × Int × Int) => if s2.2.2.2.2 < 0 then (if a3 < s2.1 then (some (-1)) else (if a4 < s2.2.1 then (some (-1)) else (some s2.2.2.1))) else (if M.2.1 a0 = 10 then (fX11_of M a0 (w32 ((w32 (2 + (w32 (5 * a2)))) + s2.2.2.2.2))).bind fun r6 => if r6 < s2.2.2.2.1.tmod 10 then (some (-1)) else ((fX11_of M a0 (w32 (74 + s2.2.2.2.2))).bind fun r10 => (fX11_of M a0 (w32 (79 + s2.2.2.2.2))).bind fun r12 => rec1 (w32 (s2.1 + (s2.2.2.2.1.tmod 10)), w32 (s2.2.1 + (w32 ((s2.2.2.2.1.tmod 10) * r10))), w32 (s2.2.2.1 + (w32 ((s2.2.2.2.1.tmod 10) * r12))), w32 (s2.2.2.2.1.tdiv 10), w32 (s2.2.2.2.2 + (-1)))) else none)) BIG (0, 0, 0, a1, 4)
set_option maxRecDepth 100000 in
set_option maxHeartbeats 4000000 in
theorem kX11_haulWorth (d : Nat) (hd : 1 ≤ d) (M : Mem) (a0 a1 a2 a3 a4 : Int) : Ct mX11_haulWorth d 0 0 [pA a0, pI a1, pI a2, pI a3, pI a4] M (dI M) (fX11_haulWorth M a0 a1 a2 a3 a4) := by
  obtain ⟨d, rfl⟩ : ∃ k, d = k + 1 := ⟨d - 1, by omega⟩
  refine Ct.of 6 (fun _ _ _ => trivial) (by decide +kernel) rfl ?_
  unfold fX11_haulWorth
  refine v_iconst dX11_haulWorth_0 (by decide) ?_
  refine v_istore (ls' := [some (pA a0), some (pI a1), some (pI a2), some (pI a3), some (pI a4), some (pI 0), none, none, none, none, none]) dX11_haulWorth_1 (by decide) rfl ?_
  refine v_iconst dX11_haulWorth_3 (by decide) ?_
  refine v_istore (ls' := [some (pA a0), some (pI a1), some (pI a2), some (pI a3), some (pI a4), some (pI 0), some (pI 0), none, none, none, none]) dX11_haulWorth_4 (by decide) rfl ?_
  refine v_iconst dX11_haulWorth_6 (by decide) ?_
  refine v_istore (ls' := [some (pA a0), some (pI a1), some (pI a2), some (pI a3), some (pI a4), some (pI 0), some (pI 0), some (pI 0), none, none, none]) dX11_haulWorth_7 (by decide) rfl ?_
  refine v_iload_n dX11_haulWorth_9 rfl ?_
  refine v_istore (ls' := [some (pA a0), some (pI a1), some (pI a2), some (pI a3), some (pI a4), some (pI 0), some (pI 0), some (pI 0), some (pI a1), none, none]) dX11_haulWorth_10 (by decide) rfl ?_
  refine v_iconst dX11_haulWorth_12 (by decide) ?_
  refine v_istore (ls' := [some (pA a0), some (pI a1), some (pI a2), some (pI a3), some (pI a4), some (pI 0), some (pI 0), some (pI 0), some (pI a1), some (pI 4), none]) dX11_haulWorth_13 (by decide) rfl ?_
  refine v_drop [some (pA a0), none, some (pI a2), some (pI a3), some (pI a4), some (pI 0), some (pI 0), some (pI 0), some (pI a1), some (pI 4), none] (ls_s (ls_n (ls_s (ls_s (ls_s (ls_s (ls_s (ls_s (ls_s (ls_s (ls_n ls_e))))))))))) ?_
  refine v_loop (fun (s2 : Int × Int × Int × Int × Int) => [some (pA a0), none, some (pI a2), some (pI a3), some (pI a4), some (pI s2.1), some (pI s2.2.1), some (pI s2.2.2.1), some (pI s2.2.2.2.1), some (pI s2.2.2.2.2), none]) (fun (s2 : Int × Int × Int × Int × Int) => M) (s0 := (0, 0, 0, a1, 4)) ?_
  intro rec1 hrec1 s2
  refine v_iload dX11_haulWorth_15 rfl ?_
  refine v_if_lt (tgt := 100) dX11_haulWorth_17 (by decide) (fun c3 => ?_) (fun c3 => ?_)
  · refine v_iload dX11_haulWorth_100 rfl ?_
    refine v_iload_n dX11_haulWorth_102 rfl ?_
    refine v_icmp_gt (tgt := 113) dX11_haulWorth_103 (by decide) (fun c4 => ?_) (fun c4 => ?_)
    · refine v_iconst dX11_haulWorth_113 (by decide) ?_
      refine v_goto (tgt := 119) dX11_haulWorth_114 (by decide) ?_
      exact v_ireturn dX11_haulWorth_119 rfl rfl
    · refine v_iload dX11_haulWorth_106 rfl ?_
      refine v_iload dX11_haulWorth_108 rfl ?_
      refine v_icmp_le (tgt := 117) dX11_haulWorth_110 (by decide) (fun c5 => ?_) (fun c5 => ?_)
      · refine v_iconst dX11_haulWorth_113 (by decide) ?_
        refine v_goto (tgt := 119) dX11_haulWorth_114 (by decide) ?_
        exact v_ireturn dX11_haulWorth_119 rfl rfl
      · refine v_iload dX11_haulWorth_117 rfl ?_
        exact v_ireturn dX11_haulWorth_119 rfl rfl
  · refine v_iload dX11_haulWorth_20 rfl ?_
    refine v_bipush dX11_haulWorth_22 (by decide) ?_
    refine v_irem (by decide) dX11_haulWorth_24 ?_
    refine v_istore (ls' := [some (pA a0), none, some (pI a2), some (pI a3), some (pI a4), some (pI s2.1), some (pI s2.2.1), some (pI s2.2.2.1), some (pI s2.2.2.2.1), some (pI s2.2.2.2.2), some (pI (s2.2.2.2.1.tmod 10))]) dX11_haulWorth_25 (by decide) rfl ?_
    refine v_iload dX11_haulWorth_27 rfl ?_
    refine v_bipush dX11_haulWorth_29 (by decide) ?_
    refine v_idiv (by decide) dX11_haulWorth_31 ?_
    refine v_istore (ls' := [some (pA a0), none, some (pI a2), some (pI a3), some (pI a4), some (pI s2.1), some (pI s2.2.1), some (pI s2.2.2.1), some (pI (w32 (s2.2.2.2.1.tdiv 10))), some (pI s2.2.2.2.2), some (pI (s2.2.2.2.1.tmod 10))]) dX11_haulWorth_32 (by decide) rfl ?_
    refine v_iload dX11_haulWorth_34 rfl ?_
    refine v_aload_n dX11_haulWorth_36 rfl ?_
    refine v_iconst dX11_haulWorth_37 (by decide) ?_
    refine v_iconst dX11_haulWorth_38 (by decide) ?_
    refine v_iload_n dX11_haulWorth_39 rfl ?_
    refine v_imul dX11_haulWorth_40 ?_
    refine v_iadd dX11_haulWorth_41 ?_
    refine v_iload dX11_haulWorth_42 rfl ?_
    refine v_iadd dX11_haulWorth_44 ?_
    refine v_if (fun h8 => ?_)
    refine v_cV (mi := mX11_haulWorth) (c0 := 0) (c1 := 0) (As := [pI (w32 ((w32 (2 + (w32 (5 * a2)))) + s2.2.2.2.2))]) (st := [pI (s2.2.2.2.1.tmod 10)]) (kX11_of d (by omega) _ _ _) rfl h8 rfl okX11_of (Or.inl tw1504) tw1506 tp55 rfl (Nat.le_of_ble_eq_true rfl) dX11_haulWorth_45 (fun r6 => [pI r6, pI (s2.2.2.2.1.tmod 10)]) (fun r6 => M) (fun _ => rfl) (fun _ => rfl) (fun r6 h7 => ?_) rfl
    refine v_icmp_le (tgt := 53) dX11_haulWorth_48 (by decide) (fun c9 => ?_) (fun c9 => ?_)
    · refine v_iconst dX11_haulWorth_51 (by decide) ?_
      exact v_ireturn dX11_haulWorth_52 rfl rfl
    · refine v_iload dX11_haulWorth_53 rfl ?_
      refine v_iload dX11_haulWorth_55 rfl ?_
      refine v_iadd dX11_haulWorth_57 ?_
      refine v_istore (ls' := [some (pA a0), none, some (pI a2), some (pI a3), some (pI a4), some (pI (w32 (s2.1 + (s2.2.2.2.1.tmod 10)))), some (pI s2.2.1), some (pI s2.2.2.1), some (pI (w32 (s2.2.2.2.1.tdiv 10))), some (pI s2.2.2.2.2), some (pI (s2.2.2.2.1.tmod 10))]) dX11_haulWorth_58 (by decide) rfl ?_
      refine v_iload dX11_haulWorth_60 rfl ?_
      refine v_iload dX11_haulWorth_62 rfl ?_
      refine v_aload_n dX11_haulWorth_64 rfl ?_
      refine v_bipush dX11_haulWorth_65 (by decide) ?_
      refine v_iload dX11_haulWorth_67 rfl ?_
      refine v_iadd dX11_haulWorth_69 ?_
      refine v_cV (mi := mX11_haulWorth) (c0 := 0) (c1 := 0) (As := [pI (w32 (74 + s2.2.2.2.2))]) (st := [pI (s2.2.2.2.1.tmod 10), pI s2.2.1]) (kX11_of d (by omega) _ _ _) rfl h8 rfl okX11_of (Or.inl tw1504) tw1506 tp55 rfl (Nat.le_of_ble_eq_true rfl) dX11_haulWorth_70 (fun r10 => [pI r10, pI (s2.2.2.2.1.tmod 10), pI s2.2.1]) (fun r10 => M) (fun _ => rfl) (fun _ => rfl) (fun r10 h11 => ?_) rfl
      refine v_imul dX11_haulWorth_73 ?_
      refine v_iadd dX11_haulWorth_74 ?_
      refine v_istore (ls' := [some (pA a0), none, some (pI a2), some (pI a3), some (pI a4), some (pI (w32 (s2.1 + (s2.2.2.2.1.tmod 10)))), some (pI (w32 (s2.2.1 + (w32 ((s2.2.2.2.1.tmod 10) * r10))))), some (pI s2.2.2.1), some (pI (w32 (s2.2.2.2.1.tdiv 10))), some (pI s2.2.2.2.2), some (pI (s2.2.2.2.1.tmod 10))]) dX11_haulWorth_75 (by decide) rfl ?_
      refine v_iload dX11_haulWorth_77 rfl ?_
      refine v_iload dX11_haulWorth_79 rfl ?_
      refine v_aload_n dX11_haulWorth_81 rfl ?_
      refine v_bipush dX11_haulWorth_82 (by decide) ?_
      refine v_iload dX11_haulWorth_84 rfl ?_
      refine v_iadd dX11_haulWorth_86 ?_
      refine v_cV (mi := mX11_haulWorth) (c0 := 0) (c1 := 0) (As := [pI (w32 (79 + s2.2.2.2.2))]) (st := [pI (s2.2.2.2.1.tmod 10), pI s2.2.2.1]) (kX11_of d (by omega) _ _ _) rfl h8 rfl okX11_of (Or.inl tw1504) tw1506 tp55 rfl (Nat.le_of_ble_eq_true rfl) dX11_haulWorth_87 (fun r12 => [pI r12, pI (s2.2.2.2.1.tmod 10), pI s2.2.2.1]) (fun r12 => M) (fun _ => rfl) (fun _ => rfl) (fun r12 h13 => ?_) rfl
      refine v_imul dX11_haulWorth_90 ?_
      refine v_iadd dX11_haulWorth_91 ?_
      refine v_istore (ls' := [some (pA a0), none, some (pI a2), some (pI a3), some (pI a4), some (pI (w32 (s2.1 + (s2.2.2.2.1.tmod 10)))), some (pI (w32 (s2.2.1 + (w32 ((s2.2.2.2.1.tmod 10) * r10))))), some (pI (w32 (s2.2.2.1 + (w32 ((s2.2.2.2.1.tmod 10) * r12))))), some (pI (w32 (s2.2.2.2.1.tdiv 10))), some (pI s2.2.2.2.2), some (pI (s2.2.2.2.1.tmod 10))]) dX11_haulWorth_92 (by decide) rfl ?_
      refine v_iinc (ls' := [some (pA a0), none, some (pI a2), some (pI a3), some (pI a4), some (pI (w32 (s2.1 + (s2.2.2.2.1.tmod 10)))), some (pI (w32 (s2.2.1 + (w32 ((s2.2.2.2.1.tmod 10) * r10))))), some (pI (w32 (s2.2.2.1 + (w32 ((s2.2.2.2.1.tmod 10) * r12))))), some (pI (w32 (s2.2.2.2.1.tdiv 10))), some (pI (w32 (s2.2.2.2.2 + (-1)))), some (pI (s2.2.2.2.1.tmod 10))]) dX11_haulWorth_94 (by decide) rfl rfl ?_
      refine v_goto (tgt := 15) dX11_haulWorth_97 (by decide) ?_
      exact v_drop [some (pA a0), none, some (pI a2), some (pI a3), some (pI a4), some (pI (w32 (s2.1 + (s2.2.2.2.1.tmod 10)))), some (pI (w32 (s2.2.1 + (w32 ((s2.2.2.2.1.tmod 10) * r10))))), some (pI (w32 (s2.2.2.1 + (w32 ((s2.2.2.2.1.tmod 10) * r12))))), some (pI (w32 (s2.2.2.2.1.tdiv 10))), some (pI (w32 (s2.2.2.2.2 + (-1)))), none] (ls_s (ls_n (ls_s (ls_s (ls_s (ls_s (ls_s (ls_s (ls_s (ls_s (ls_n ls_e))))))))))) (hrec1 (w32 (s2.1 + (s2.2.2.2.1.tmod 10)), w32 (s2.2.1 + (w32 ((s2.2.2.2.1.tmod 10) * r10))), w32 (s2.2.2.1 + (w32 ((s2.2.2.2.1.tmod 10) * r12))), w32 (s2.2.2.2.1.tdiv 10), w32 (s2.2.2.2.2 + (-1))))
theorem chX11_haul_0 : (cX11_haul.data.toList.drop 0).take 16 = [42, 3, 181, 0, 90, 42, 27, 182, 1, 31, 153, 0, 49, 42, 28, 182] := by decide +kernel
theorem chX11_haul_1 : (cX11_haul.data.toList.drop 16).take 16 = [1, 34, 153, 0, 41, 29, 3, 16, 9, 184, 0, 98, 153, 0, 31, 21] := by decide +kernel
theorem chX11_haul_2 : (cX11_haul.data.toList.drop 32).take 16 = [4, 3, 16, 99, 184, 0, 98, 153, 0, 20, 21, 5, 153, 0, 17, 21] := by decide +kernel
theorem chX11_haul_3 : (cX11_haul.data.toList.drop 48).take 16 = [5, 16, 10, 16, 14, 184, 0, 98, 154, 0, 5, 2, 172, 3, 54, 6] := by decide +kernel
theorem chX11_haul_4 : (cX11_haul.data.toList.drop 64).take 16 = [2, 54, 7, 19, 2, 2, 54, 8, 21, 8, 155, 0, 46, 42, 21, 8] := by decide +kernel
theorem chX11_haul_5 : (cX11_haul.data.toList.drop 80).take 16 = [28, 29, 21, 4, 182, 2, 3, 54, 9, 21, 9, 21, 7, 164, 0, 8] := by decide +kernel
theorem chX11_haul_6 : (cX11_haul.data.toList.drop 96).take 16 = [21, 8, 167, 0, 5, 21, 6, 54, 6, 21, 7, 21, 9, 184, 0, 163] := by decide +kernel
theorem chX11_haul_7 : (cX11_haul.data.toList.drop 112).take 16 = [54, 7, 132, 8, 255, 167, 255, 211, 21, 5, 154, 0, 8, 21, 7, 167] := by decide +kernel
theorem chX11_haul_8 : (cX11_haul.data.toList.drop 128).take 16 = [0, 13, 21, 6, 21, 5, 16, 10, 100, 184, 2, 6, 172] := by decide +kernel
theorem dX11_haul_0 : decode cX11_haul 0 = .ok (.aload_n 0, 1) := oq_42 (byt chX11_haul_0 0 rfl)
theorem dX11_haul_1 : decode cX11_haul 1 = .ok (.iconst 0, 1) := oq_3 (byt chX11_haul_0 1 rfl)
theorem dX11_haul_2 : decode cX11_haul 2 = .ok (.putfield 90, 3) := oq_181 (byt chX11_haul_0 2 rfl) (byt chX11_haul_0 3 rfl) (byt chX11_haul_0 4 rfl) rfl
theorem dX11_haul_5 : decode cX11_haul 5 = .ok (.aload_n 0, 1) := oq_42 (byt chX11_haul_0 5 rfl)
theorem dX11_haul_6 : decode cX11_haul 6 = .ok (.iload_n 1, 1) := oq_27 (byt chX11_haul_0 6 rfl)
theorem dX11_haul_7 : decode cX11_haul 7 = .ok (.invokevirtual 287, 3) := oq_182 (byt chX11_haul_0 7 rfl) (byt chX11_haul_0 8 rfl) (byt chX11_haul_0 9 rfl) rfl
theorem dX11_haul_10 : decode cX11_haul 10 = .ok (.ifCond .eq 49, 3) := oq_153 (byt chX11_haul_0 10 rfl) (byt chX11_haul_0 11 rfl) (byt chX11_haul_0 12 rfl) (by decide +kernel)
theorem dX11_haul_13 : decode cX11_haul 13 = .ok (.aload_n 0, 1) := oq_42 (byt chX11_haul_0 13 rfl)
theorem dX11_haul_14 : decode cX11_haul 14 = .ok (.iload_n 2, 1) := oq_28 (byt chX11_haul_0 14 rfl)
theorem dX11_haul_15 : decode cX11_haul 15 = .ok (.invokevirtual 290, 3) := oq_182 (byt chX11_haul_0 15 rfl) (byt chX11_haul_1 0 rfl) (byt chX11_haul_1 1 rfl) rfl
theorem dX11_haul_18 : decode cX11_haul 18 = .ok (.ifCond .eq 41, 3) := oq_153 (byt chX11_haul_1 2 rfl) (byt chX11_haul_1 3 rfl) (byt chX11_haul_1 4 rfl) (by decide +kernel)
theorem dX11_haul_21 : decode cX11_haul 21 = .ok (.iload_n 3, 1) := oq_29 (byt chX11_haul_1 5 rfl)
theorem dX11_haul_22 : decode cX11_haul 22 = .ok (.iconst 0, 1) := oq_3 (byt chX11_haul_1 6 rfl)
theorem dX11_haul_23 : decode cX11_haul 23 = .ok (.bipush 9, 2) := oq_16 (byt chX11_haul_1 7 rfl) (byt chX11_haul_1 8 rfl) rfl
theorem dX11_haul_25 : decode cX11_haul 25 = .ok (.invokestatic 98, 3) := oq_184 (byt chX11_haul_1 9 rfl) (byt chX11_haul_1 10 rfl) (byt chX11_haul_1 11 rfl) rfl
theorem dX11_haul_28 : decode cX11_haul 28 = .ok (.ifCond .eq 31, 3) := oq_153 (byt chX11_haul_1 12 rfl) (byt chX11_haul_1 13 rfl) (byt chX11_haul_1 14 rfl) (by decide +kernel)
theorem dX11_haul_31 : decode cX11_haul 31 = .ok (.iload 4, 2) := oq_21 (byt chX11_haul_1 15 rfl) (byt chX11_haul_2 0 rfl) rfl
theorem dX11_haul_33 : decode cX11_haul 33 = .ok (.iconst 0, 1) := oq_3 (byt chX11_haul_2 1 rfl)
theorem dX11_haul_34 : decode cX11_haul 34 = .ok (.bipush 99, 2) := oq_16 (byt chX11_haul_2 2 rfl) (byt chX11_haul_2 3 rfl) rfl
theorem dX11_haul_36 : decode cX11_haul 36 = .ok (.invokestatic 98, 3) := oq_184 (byt chX11_haul_2 4 rfl) (byt chX11_haul_2 5 rfl) (byt chX11_haul_2 6 rfl) rfl
theorem dX11_haul_39 : decode cX11_haul 39 = .ok (.ifCond .eq 20, 3) := oq_153 (byt chX11_haul_2 7 rfl) (byt chX11_haul_2 8 rfl) (byt chX11_haul_2 9 rfl) (by decide +kernel)
theorem dX11_haul_42 : decode cX11_haul 42 = .ok (.iload 5, 2) := oq_21 (byt chX11_haul_2 10 rfl) (byt chX11_haul_2 11 rfl) rfl
theorem dX11_haul_44 : decode cX11_haul 44 = .ok (.ifCond .eq 17, 3) := oq_153 (byt chX11_haul_2 12 rfl) (byt chX11_haul_2 13 rfl) (byt chX11_haul_2 14 rfl) (by decide +kernel)
theorem dX11_haul_47 : decode cX11_haul 47 = .ok (.iload 5, 2) := oq_21 (byt chX11_haul_2 15 rfl) (byt chX11_haul_3 0 rfl) rfl
theorem dX11_haul_49 : decode cX11_haul 49 = .ok (.bipush 10, 2) := oq_16 (byt chX11_haul_3 1 rfl) (byt chX11_haul_3 2 rfl) rfl
theorem dX11_haul_51 : decode cX11_haul 51 = .ok (.bipush 14, 2) := oq_16 (byt chX11_haul_3 3 rfl) (byt chX11_haul_3 4 rfl) rfl
theorem dX11_haul_53 : decode cX11_haul 53 = .ok (.invokestatic 98, 3) := oq_184 (byt chX11_haul_3 5 rfl) (byt chX11_haul_3 6 rfl) (byt chX11_haul_3 7 rfl) rfl
theorem dX11_haul_56 : decode cX11_haul 56 = .ok (.ifCond .ne 5, 3) := oq_154 (byt chX11_haul_3 8 rfl) (byt chX11_haul_3 9 rfl) (byt chX11_haul_3 10 rfl) (by decide +kernel)
theorem dX11_haul_59 : decode cX11_haul 59 = .ok (.iconst (-1), 1) := oq_2 (byt chX11_haul_3 11 rfl)
theorem dX11_haul_60 : decode cX11_haul 60 = .ok (.ireturn, 1) := oq_172 (byt chX11_haul_3 12 rfl)
theorem dX11_haul_61 : decode cX11_haul 61 = .ok (.iconst 0, 1) := oq_3 (byt chX11_haul_3 13 rfl)
theorem dX11_haul_62 : decode cX11_haul 62 = .ok (.istore 6, 2) := oq_54 (byt chX11_haul_3 14 rfl) (byt chX11_haul_3 15 rfl) rfl
theorem dX11_haul_64 : decode cX11_haul 64 = .ok (.iconst (-1), 1) := oq_2 (byt chX11_haul_4 0 rfl)
theorem dX11_haul_65 : decode cX11_haul 65 = .ok (.istore 7, 2) := oq_54 (byt chX11_haul_4 1 rfl) (byt chX11_haul_4 2 rfl) rfl
theorem dX11_haul_67 : decode cX11_haul 67 = .ok (.ldc_w 514, 3) := oq_19 (byt chX11_haul_4 3 rfl) (byt chX11_haul_4 4 rfl) (byt chX11_haul_4 5 rfl) rfl
theorem dX11_haul_70 : decode cX11_haul 70 = .ok (.istore 8, 2) := oq_54 (byt chX11_haul_4 6 rfl) (byt chX11_haul_4 7 rfl) rfl
theorem dX11_haul_72 : decode cX11_haul 72 = .ok (.iload 8, 2) := oq_21 (byt chX11_haul_4 8 rfl) (byt chX11_haul_4 9 rfl) rfl
theorem dX11_haul_74 : decode cX11_haul 74 = .ok (.ifCond .lt 46, 3) := oq_155 (byt chX11_haul_4 10 rfl) (byt chX11_haul_4 11 rfl) (byt chX11_haul_4 12 rfl) (by decide +kernel)
theorem dX11_haul_77 : decode cX11_haul 77 = .ok (.aload_n 0, 1) := oq_42 (byt chX11_haul_4 13 rfl)
theorem dX11_haul_78 : decode cX11_haul 78 = .ok (.iload 8, 2) := oq_21 (byt chX11_haul_4 14 rfl) (byt chX11_haul_4 15 rfl) rfl
theorem dX11_haul_80 : decode cX11_haul 80 = .ok (.iload_n 2, 1) := oq_28 (byt chX11_haul_5 0 rfl)
theorem dX11_haul_81 : decode cX11_haul 81 = .ok (.iload_n 3, 1) := oq_29 (byt chX11_haul_5 1 rfl)
theorem dX11_haul_82 : decode cX11_haul 82 = .ok (.iload 4, 2) := oq_21 (byt chX11_haul_5 2 rfl) (byt chX11_haul_5 3 rfl) rfl
theorem dX11_haul_84 : decode cX11_haul 84 = .ok (.invokevirtual 515, 3) := oq_182 (byt chX11_haul_5 4 rfl) (byt chX11_haul_5 5 rfl) (byt chX11_haul_5 6 rfl) rfl
theorem dX11_haul_87 : decode cX11_haul 87 = .ok (.istore 9, 2) := oq_54 (byt chX11_haul_5 7 rfl) (byt chX11_haul_5 8 rfl) rfl
theorem dX11_haul_89 : decode cX11_haul 89 = .ok (.iload 9, 2) := oq_21 (byt chX11_haul_5 9 rfl) (byt chX11_haul_5 10 rfl) rfl
theorem dX11_haul_91 : decode cX11_haul 91 = .ok (.iload 7, 2) := oq_21 (byt chX11_haul_5 11 rfl) (byt chX11_haul_5 12 rfl) rfl
theorem dX11_haul_93 : decode cX11_haul 93 = .ok (.if_icmp .le 8, 3) := oq_164 (byt chX11_haul_5 13 rfl) (byt chX11_haul_5 14 rfl) (byt chX11_haul_5 15 rfl) (by decide +kernel)
theorem dX11_haul_96 : decode cX11_haul 96 = .ok (.iload 8, 2) := oq_21 (byt chX11_haul_6 0 rfl) (byt chX11_haul_6 1 rfl) rfl
theorem dX11_haul_98 : decode cX11_haul 98 = .ok (.goto 5, 3) := oq_167 (byt chX11_haul_6 2 rfl) (byt chX11_haul_6 3 rfl) (byt chX11_haul_6 4 rfl) (by decide +kernel)
theorem dX11_haul_101 : decode cX11_haul 101 = .ok (.iload 6, 2) := oq_21 (byt chX11_haul_6 5 rfl) (byt chX11_haul_6 6 rfl) rfl
theorem dX11_haul_103 : decode cX11_haul 103 = .ok (.istore 6, 2) := oq_54 (byt chX11_haul_6 7 rfl) (byt chX11_haul_6 8 rfl) rfl
theorem dX11_haul_105 : decode cX11_haul 105 = .ok (.iload 7, 2) := oq_21 (byt chX11_haul_6 9 rfl) (byt chX11_haul_6 10 rfl) rfl
theorem dX11_haul_107 : decode cX11_haul 107 = .ok (.iload 9, 2) := oq_21 (byt chX11_haul_6 11 rfl) (byt chX11_haul_6 12 rfl) rfl
theorem dX11_haul_109 : decode cX11_haul 109 = .ok (.invokestatic 163, 3) := oq_184 (byt chX11_haul_6 13 rfl) (byt chX11_haul_6 14 rfl) (byt chX11_haul_6 15 rfl) rfl
theorem dX11_haul_112 : decode cX11_haul 112 = .ok (.istore 7, 2) := oq_54 (byt chX11_haul_7 0 rfl) (byt chX11_haul_7 1 rfl) rfl
theorem dX11_haul_114 : decode cX11_haul 114 = .ok (.iinc 8 (-1), 3) := oq_132 (byt chX11_haul_7 2 rfl) (byt chX11_haul_7 3 rfl) (byt chX11_haul_7 4 rfl) rfl
theorem dX11_haul_117 : decode cX11_haul 117 = .ok (.goto (-45), 3) := oq_167 (byt chX11_haul_7 5 rfl) (byt chX11_haul_7 6 rfl) (byt chX11_haul_7 7 rfl) (by decide +kernel)
theorem dX11_haul_120 : decode cX11_haul 120 = .ok (.iload 5, 2) := oq_21 (byt chX11_haul_7 8 rfl) (byt chX11_haul_7 9 rfl) rfl
theorem dX11_haul_122 : decode cX11_haul 122 = .ok (.ifCond .ne 8, 3) := oq_154 (byt chX11_haul_7 10 rfl) (byt chX11_haul_7 11 rfl) (byt chX11_haul_7 12 rfl) (by decide +kernel)
theorem dX11_haul_125 : decode cX11_haul 125 = .ok (.iload 7, 2) := oq_21 (byt chX11_haul_7 13 rfl) (byt chX11_haul_7 14 rfl) rfl
theorem dX11_haul_127 : decode cX11_haul 127 = .ok (.goto 13, 3) := oq_167 (byt chX11_haul_7 15 rfl) (byt chX11_haul_8 0 rfl) (byt chX11_haul_8 1 rfl) (by decide +kernel)
theorem dX11_haul_130 : decode cX11_haul 130 = .ok (.iload 6, 2) := oq_21 (byt chX11_haul_8 2 rfl) (byt chX11_haul_8 3 rfl) rfl
theorem dX11_haul_132 : decode cX11_haul 132 = .ok (.iload 5, 2) := oq_21 (byt chX11_haul_8 4 rfl) (byt chX11_haul_8 5 rfl) rfl
theorem dX11_haul_134 : decode cX11_haul 134 = .ok (.bipush 10, 2) := oq_16 (byt chX11_haul_8 6 rfl) (byt chX11_haul_8 7 rfl) rfl
theorem dX11_haul_136 : decode cX11_haul 136 = .ok (.isub, 1) := oq_100 (byt chX11_haul_8 8 rfl)
theorem dX11_haul_137 : decode cX11_haul 137 = .ok (.invokestatic 518, 3) := oq_184 (byt chX11_haul_8 9 rfl) (byt chX11_haul_8 10 rfl) (byt chX11_haul_8 11 rfl) rfl
theorem dX11_haul_140 : decode cX11_haul 140 = .ok (.ireturn, 1) := oq_172 (byt chX11_haul_8 12 rfl)
abbrev mX11_haul : MI := (yX11_haul, cX11_haul, 10, (some .int), noE)
theorem okX11_haul : cok mX11_haul 5 := ⟨tw1845, tw11, by decide, by decide, by decide, by decide +kernel⟩
def fX11_haul (M : Mem) (a0 a1 a2 a3 a4 a5 : Int) : Option (Int × Mem) :=
  if M.2.1 a0 = 10 then bM (mst M a0 0 0) fun M2 => (fX11_hand M2 a0 a1).bind fun r4 => if r4.1 = 0 then (some ((-1), r4.2)) else (if r4.2.2.1 a0 = 10 then (fX11_isHouse r4.2 a0 a2).bind fun r7 => if r7 = 0 then (some ((-1), r4.2)) else ((fX11_in r4.2 a3 0 9).bind fun r11 => if r11 = 0 then (some ((-1), r4.2)) else ((fX11_in r4.2 a4 0 99).bind fun r14 => if r14 = 0 then (some ((-1), r4.2)) else (jn (fun (t18 : Unit) => iterC (fun (rec19 : (Int × Int × Int) → Option (Int × Mem)) (s20 : Int × Int × Int) => if s20.2.2 < 0 then (if a5 = 0 then (some (s20.2.1, r4.2)) else ((fX11_figure r4.2 s20.1 (w32 (a5 - 10))).bind fun r23 => some (r23, r4.2))) else ((fX11_haulWorth r4.2 a0 s20.2.2 a2 a3 a4).bind fun r25 => jn (fun (t28 : Int) => (fX11_greater r4.2 s20.2.1 r25).bind fun r29 => rec19 (t28, r29, w32 (s20.2.2 + (-1)))) (fun (j27 : Int → Option (Int × Mem)) => if s20.2.1 < r25 then (j27 s20.2.2) else (j27 s20.1)))) BIG (0, (-1), 99999)) (fun (j17 : Unit → Option (Int × Mem)) => if a5 = 0 then (j17 ()) else ((fX11_in r4.2 a5 10 14).bind fun r33 => if r33 = 0 then (some ((-1), r4.2)) else (j17 ())))))) else none) else none
set_option maxRecDepth 100000 in
set_option maxHeartbeats 4000000 in
theorem kX11_haul (d : Nat) (hd : 3 ≤ d) (M : Mem) (a0 a1 a2 a3 a4 a5 : Int) : Ct mX11_haul d 0 0 [pA a0, pI a1, pI a2, pI a3, pI a4, pI a5] M dIM (fX11_haul M a0 a1 a2 a3 a4 a5) := by
  obtain ⟨d, rfl⟩ : ∃ k, d = k + 1 := ⟨d - 1, by omega⟩
  refine Ct.of 4 (fun _ _ _ => trivial) (by decide +kernel) rfl ?_
  unfold fX11_haul
  refine v_aload_n dX11_haul_0 rfl ?_
  refine v_iconst dX11_haul_1 (by decide) ?_
  refine v_if (fun h1 => ?_)
  refine v_put (x := 0) 10 0 rfl inX11 (by decide) tw1193 (Or.inl rfl) rfl dX11_haul_2 h1 rfl id ?_
  refine v_bM (fun M2 e3 => ?_)
  refine v_aload_n dX11_haul_5 rfl ?_
  refine v_iload_n dX11_haul_6 rfl ?_
  refine v_cV (mi := mX11_haul) (c0 := 0) (c1 := 0) (As := [pI a1]) (st := []) (kX11_hand d (by omega) _ _ _) rfl (by rw [e3]; exact h1) rfl okX11_hand (Or.inl tw1500) tw1502 tp54 rfl (Nat.le_of_ble_eq_true rfl) dX11_haul_7 (fun r4 => [pI r4.1]) (fun r4 => r4.2) (fun _ => rfl) (fun _ => rfl) (fun r4 h5 => ?_) rfl
  refine v_if_eq (tgt := 59) dX11_haul_10 (by decide) (fun c6 => ?_) (fun c6 => ?_)
  · refine v_iconst dX11_haul_59 (by decide) ?_
    exact v_ireturn dX11_haul_60 rfl rfl
  · refine v_aload_n dX11_haul_13 rfl ?_
    refine v_iload_n dX11_haul_14 rfl ?_
    refine v_if (fun h9 => ?_)
    refine v_cV (mi := mX11_haul) (c0 := 0) (c1 := 0) (As := [pI a2]) (st := []) (kX11_isHouse d (by omega) _ _ _) rfl h9 rfl okX11_isHouse (Or.inl tw1508) tw1510 tp56 rfl (Nat.le_of_ble_eq_true rfl) dX11_haul_15 (fun r7 => [pI r7]) (fun r7 => r4.2) (fun _ => rfl) (fun _ => rfl) (fun r7 h8 => ?_) rfl
    refine v_if_eq (tgt := 59) dX11_haul_18 (by decide) (fun c10 => ?_) (fun c10 => ?_)
    · refine v_iconst dX11_haul_59 (by decide) ?_
      exact v_ireturn dX11_haul_60 rfl rfl
    · refine v_iload_n dX11_haul_21 rfl ?_
      refine v_iconst dX11_haul_22 (by decide) ?_
      refine v_bipush dX11_haul_23 (by decide) ?_
      refine v_cS (mi := mX11_haul) (c0 := 0) (c1 := 0) (As := [pI a3, pI 0, pI 9]) (st := []) (kX11_in d (by omega) _ _ _ _) okX11_in (Or.inl tw1360) tw1361 rfl (Nat.le_of_ble_eq_true rfl) dX11_haul_25 (fun r11 => [pI r11]) (fun r11 => r4.2) (fun _ => rfl) (fun _ => rfl) (fun r11 h12 => ?_) rfl
      refine v_if_eq (tgt := 59) dX11_haul_28 (by decide) (fun c13 => ?_) (fun c13 => ?_)
      · refine v_iconst dX11_haul_59 (by decide) ?_
        exact v_ireturn dX11_haul_60 rfl rfl
      · refine v_iload dX11_haul_31 rfl ?_
        refine v_iconst dX11_haul_33 (by decide) ?_
        refine v_bipush dX11_haul_34 (by decide) ?_
        refine v_cS (mi := mX11_haul) (c0 := 0) (c1 := 0) (As := [pI a4, pI 0, pI 99]) (st := []) (kX11_in d (by omega) _ _ _ _) okX11_in (Or.inl tw1360) tw1361 rfl (Nat.le_of_ble_eq_true rfl) dX11_haul_36 (fun r14 => [pI r14]) (fun r14 => r4.2) (fun _ => rfl) (fun _ => rfl) (fun r14 h15 => ?_) rfl
        refine v_if_eq (tgt := 59) dX11_haul_39 (by decide) (fun c16 => ?_) (fun c16 => ?_)
        · refine v_iconst dX11_haul_59 (by decide) ?_
          exact v_ireturn dX11_haul_60 rfl rfl
        · refine v_iload dX11_haul_42 rfl ?_
          refine v_join (fun (t18 : Unit) => [some (pA a0), none, some (pI a2), some (pI a3), some (pI a4), some (pI a5), none, none, none, none]) (fun (t18 : Unit) => []) (fun (t18 : Unit) => r4.2) 61 (fun t18 => ?_) (fun j17 hj17 => ?_)
          · refine v_iconst dX11_haul_61 (by decide) ?_
            refine v_istore (ls' := [some (pA a0), none, some (pI a2), some (pI a3), some (pI a4), some (pI a5), some (pI 0), none, none, none]) dX11_haul_62 (by decide) rfl ?_
            refine v_iconst dX11_haul_64 (by decide) ?_
            refine v_istore (ls' := [some (pA a0), none, some (pI a2), some (pI a3), some (pI a4), some (pI a5), some (pI 0), some (pI (-1)), none, none]) dX11_haul_65 (by decide) rfl ?_
            refine v_ldcw (n := 99999) dX11_haul_67 (by decide) tw1846 ?_
            refine v_istore (ls' := [some (pA a0), none, some (pI a2), some (pI a3), some (pI a4), some (pI a5), some (pI 0), some (pI (-1)), some (pI 99999), none]) dX11_haul_70 (by decide) rfl ?_
            refine v_loop (fun (s20 : Int × Int × Int) => [some (pA a0), none, some (pI a2), some (pI a3), some (pI a4), some (pI a5), some (pI s20.1), some (pI s20.2.1), some (pI s20.2.2), none]) (fun (s20 : Int × Int × Int) => r4.2) (s0 := (0, (-1), 99999)) ?_
            intro rec19 hrec19 s20
            refine v_iload dX11_haul_72 rfl ?_
            refine v_if_lt (tgt := 120) dX11_haul_74 (by decide) (fun c21 => ?_) (fun c21 => ?_)
            · refine v_iload dX11_haul_120 rfl ?_
              refine v_if_ne (tgt := 130) dX11_haul_122 (by decide) (fun c22 => ?_) (fun c22 => ?_)
              · refine v_iload dX11_haul_125 rfl ?_
                refine v_goto (tgt := 140) dX11_haul_127 (by decide) ?_
                exact v_ireturn dX11_haul_140 rfl rfl
              · refine v_iload dX11_haul_130 rfl ?_
                refine v_iload dX11_haul_132 rfl ?_
                refine v_bipush dX11_haul_134 (by decide) ?_
                refine v_isub dX11_haul_136 ?_
                refine v_cS (mi := mX11_haul) (c0 := 0) (c1 := 0) (As := [pI s20.1, pI (w32 (a5 - 10))]) (st := []) (kX11_figure d (by omega) _ _ _) okX11_figure (Or.inl tw1851) tw1852 rfl (Nat.le_of_ble_eq_true rfl) dX11_haul_137 (fun r23 => [pI r23]) (fun r23 => r4.2) (fun _ => rfl) (fun _ => rfl) (fun r23 h24 => ?_) rfl
                exact v_ireturn dX11_haul_140 rfl rfl
            · refine v_aload_n dX11_haul_77 rfl ?_
              refine v_iload dX11_haul_78 rfl ?_
              refine v_iload_n dX11_haul_80 rfl ?_
              refine v_iload_n dX11_haul_81 rfl ?_
              refine v_iload dX11_haul_82 rfl ?_
              refine v_cV (mi := mX11_haul) (c0 := 0) (c1 := 0) (As := [pI s20.2.2, pI a2, pI a3, pI a4]) (st := []) (kX11_haulWorth d (by omega) _ _ _ _ _ _) rfl h9 rfl okX11_haulWorth (Or.inl tw1847) tw1849 tp112 rfl (Nat.le_of_ble_eq_true rfl) dX11_haul_84 (fun r25 => [pI r25]) (fun r25 => r4.2) (fun _ => rfl) (fun _ => rfl) (fun r25 h26 => ?_) rfl
              refine v_istore (ls' := [some (pA a0), none, some (pI a2), some (pI a3), some (pI a4), some (pI a5), some (pI s20.1), some (pI s20.2.1), some (pI s20.2.2), some (pI r25)]) dX11_haul_87 (by decide) rfl ?_
              refine v_iload dX11_haul_89 rfl ?_
              refine v_iload dX11_haul_91 rfl ?_
              refine v_join (fun (t28 : Int) => [some (pA a0), none, some (pI a2), some (pI a3), some (pI a4), some (pI a5), none, some (pI s20.2.1), some (pI s20.2.2), some (pI r25)]) (fun (t28 : Int) => [pI t28]) (fun (t28 : Int) => r4.2) 103 (fun t28 => ?_) (fun j27 hj27 => ?_)
              · refine v_istore (ls' := [some (pA a0), none, some (pI a2), some (pI a3), some (pI a4), some (pI a5), some (pI t28), some (pI s20.2.1), some (pI s20.2.2), some (pI r25)]) dX11_haul_103 (by decide) rfl ?_
                refine v_iload dX11_haul_105 rfl ?_
                refine v_iload dX11_haul_107 rfl ?_
                refine v_cS (mi := mX11_haul) (c0 := 0) (c1 := 0) (As := [pI s20.2.1, pI r25]) (st := []) (kX11_greater d (by omega) _ _ _) okX11_greater (Or.inl tw1440) tw1441 rfl (Nat.le_of_ble_eq_true rfl) dX11_haul_109 (fun r29 => [pI r29]) (fun r29 => r4.2) (fun _ => rfl) (fun _ => rfl) (fun r29 h30 => ?_) rfl
                refine v_istore (ls' := [some (pA a0), none, some (pI a2), some (pI a3), some (pI a4), some (pI a5), some (pI t28), some (pI r29), some (pI s20.2.2), some (pI r25)]) dX11_haul_112 (by decide) rfl ?_
                refine v_iinc (ls' := [some (pA a0), none, some (pI a2), some (pI a3), some (pI a4), some (pI a5), some (pI t28), some (pI r29), some (pI (w32 (s20.2.2 + (-1)))), some (pI r25)]) dX11_haul_114 (by decide) rfl rfl ?_
                refine v_goto (tgt := 72) dX11_haul_117 (by decide) ?_
                exact v_drop [some (pA a0), none, some (pI a2), some (pI a3), some (pI a4), some (pI a5), some (pI t28), some (pI r29), some (pI (w32 (s20.2.2 + (-1)))), none] (ls_s (ls_n (ls_s (ls_s (ls_s (ls_s (ls_s (ls_s (ls_s (ls_n ls_e)))))))))) (hrec19 (t28, r29, w32 (s20.2.2 + (-1))))
              · refine v_icmp_le (tgt := 101) dX11_haul_93 (by decide) (fun c31 => ?_) (fun c31 => ?_)
                · refine v_iload dX11_haul_96 rfl ?_
                  refine v_goto (tgt := 103) dX11_haul_98 (by decide) ?_
                  exact v_drop [some (pA a0), none, some (pI a2), some (pI a3), some (pI a4), some (pI a5), none, some (pI s20.2.1), some (pI s20.2.2), some (pI r25)] (ls_s (ls_n (ls_s (ls_s (ls_s (ls_s (ls_n (ls_s (ls_s (ls_s ls_e)))))))))) (hj27 s20.2.2)
                · refine v_iload dX11_haul_101 rfl ?_
                  exact v_drop [some (pA a0), none, some (pI a2), some (pI a3), some (pI a4), some (pI a5), none, some (pI s20.2.1), some (pI s20.2.2), some (pI r25)] (ls_s (ls_n (ls_s (ls_s (ls_s (ls_s (ls_n (ls_s (ls_s (ls_s ls_e)))))))))) (hj27 s20.1)
          · refine v_if_eq (tgt := 61) dX11_haul_44 (by decide) (fun c32 => ?_) (fun c32 => ?_)
            · exact v_drop [some (pA a0), none, some (pI a2), some (pI a3), some (pI a4), some (pI a5), none, none, none, none] (ls_s (ls_n (ls_s (ls_s (ls_s (ls_s (ls_n (ls_n (ls_n (ls_n ls_e)))))))))) (hj17 ())
            · refine v_iload dX11_haul_47 rfl ?_
              refine v_bipush dX11_haul_49 (by decide) ?_
              refine v_bipush dX11_haul_51 (by decide) ?_
              refine v_cS (mi := mX11_haul) (c0 := 0) (c1 := 0) (As := [pI a5, pI 10, pI 14]) (st := []) (kX11_in d (by omega) _ _ _ _) okX11_in (Or.inl tw1360) tw1361 rfl (Nat.le_of_ble_eq_true rfl) dX11_haul_53 (fun r33 => [pI r33]) (fun r33 => r4.2) (fun _ => rfl) (fun _ => rfl) (fun r33 h34 => ?_) rfl
              refine v_if_ne (tgt := 61) dX11_haul_56 (by decide) (fun c35 => ?_) (fun c35 => ?_)
              · refine v_iconst dX11_haul_59 (by decide) ?_
                exact v_ireturn dX11_haul_60 rfl rfl
              · exact v_drop [some (pA a0), none, some (pI a2), some (pI a3), some (pI a4), some (pI a5), none, none, none, none] (ls_s (ls_n (ls_s (ls_s (ls_s (ls_s (ls_n (ls_n (ls_n (ls_n ls_e)))))))))) (hj17 ())
theorem chX11_limits_0 : (cX11_limits.data.toList.drop 0).take 16 = [3, 61, 3, 62, 29, 42, 180, 1, 28, 162, 0, 32, 28, 27, 29, 184] := by decide +kernel
theorem chX11_limits_1 : (cX11_limits.data.toList.drop 16).take 16 = [1, 55, 153, 0, 14, 42, 16, 84, 29, 96, 182, 1, 21, 167, 0, 4] := by decide +kernel
theorem chX11_limits_2 : (cX11_limits.data.toList.drop 32).take 16 = [3, 96, 61, 132, 3, 1, 167, 255, 222, 28, 172] := by decide +kernel
theorem dX11_limits_0 : decode cX11_limits 0 = .ok (.iconst 0, 1) := oq_3 (byt chX11_limits_0 0 rfl)
theorem dX11_limits_1 : decode cX11_limits 1 = .ok (.istore_n 2, 1) := oq_61 (byt chX11_limits_0 1 rfl)
theorem dX11_limits_2 : decode cX11_limits 2 = .ok (.iconst 0, 1) := oq_3 (byt chX11_limits_0 2 rfl)
theorem dX11_limits_3 : decode cX11_limits 3 = .ok (.istore_n 3, 1) := oq_62 (byt chX11_limits_0 3 rfl)
theorem dX11_limits_4 : decode cX11_limits 4 = .ok (.iload_n 3, 1) := oq_29 (byt chX11_limits_0 4 rfl)
theorem dX11_limits_5 : decode cX11_limits 5 = .ok (.aload_n 0, 1) := oq_42 (byt chX11_limits_0 5 rfl)
theorem dX11_limits_6 : decode cX11_limits 6 = .ok (.getfield 284, 3) := oq_180 (byt chX11_limits_0 6 rfl) (byt chX11_limits_0 7 rfl) (byt chX11_limits_0 8 rfl) rfl
theorem dX11_limits_9 : decode cX11_limits 9 = .ok (.if_icmp .ge 32, 3) := oq_162 (byt chX11_limits_0 9 rfl) (byt chX11_limits_0 10 rfl) (byt chX11_limits_0 11 rfl) (by decide +kernel)
theorem dX11_limits_12 : decode cX11_limits 12 = .ok (.iload_n 2, 1) := oq_28 (byt chX11_limits_0 12 rfl)
theorem dX11_limits_13 : decode cX11_limits 13 = .ok (.iload_n 1, 1) := oq_27 (byt chX11_limits_0 13 rfl)
theorem dX11_limits_14 : decode cX11_limits 14 = .ok (.iload_n 3, 1) := oq_29 (byt chX11_limits_0 14 rfl)
theorem dX11_limits_15 : decode cX11_limits 15 = .ok (.invokestatic 311, 3) := oq_184 (byt chX11_limits_0 15 rfl) (byt chX11_limits_1 0 rfl) (byt chX11_limits_1 1 rfl) rfl
theorem dX11_limits_18 : decode cX11_limits 18 = .ok (.ifCond .eq 14, 3) := oq_153 (byt chX11_limits_1 2 rfl) (byt chX11_limits_1 3 rfl) (byt chX11_limits_1 4 rfl) (by decide +kernel)
theorem dX11_limits_21 : decode cX11_limits 21 = .ok (.aload_n 0, 1) := oq_42 (byt chX11_limits_1 5 rfl)
theorem dX11_limits_22 : decode cX11_limits 22 = .ok (.bipush 84, 2) := oq_16 (byt chX11_limits_1 6 rfl) (byt chX11_limits_1 7 rfl) rfl
theorem dX11_limits_24 : decode cX11_limits 24 = .ok (.iload_n 3, 1) := oq_29 (byt chX11_limits_1 8 rfl)
theorem dX11_limits_25 : decode cX11_limits 25 = .ok (.iadd, 1) := oq_96 (byt chX11_limits_1 9 rfl)
theorem dX11_limits_26 : decode cX11_limits 26 = .ok (.invokevirtual 277, 3) := oq_182 (byt chX11_limits_1 10 rfl) (byt chX11_limits_1 11 rfl) (byt chX11_limits_1 12 rfl) rfl
theorem dX11_limits_29 : decode cX11_limits 29 = .ok (.goto 4, 3) := oq_167 (byt chX11_limits_1 13 rfl) (byt chX11_limits_1 14 rfl) (byt chX11_limits_1 15 rfl) (by decide +kernel)
theorem dX11_limits_32 : decode cX11_limits 32 = .ok (.iconst 0, 1) := oq_3 (byt chX11_limits_2 0 rfl)
theorem dX11_limits_33 : decode cX11_limits 33 = .ok (.iadd, 1) := oq_96 (byt chX11_limits_2 1 rfl)
theorem dX11_limits_34 : decode cX11_limits 34 = .ok (.istore_n 2, 1) := oq_61 (byt chX11_limits_2 2 rfl)
theorem dX11_limits_35 : decode cX11_limits 35 = .ok (.iinc 3 1, 3) := oq_132 (byt chX11_limits_2 3 rfl) (byt chX11_limits_2 4 rfl) (byt chX11_limits_2 5 rfl) rfl
theorem dX11_limits_38 : decode cX11_limits 38 = .ok (.goto (-34), 3) := oq_167 (byt chX11_limits_2 6 rfl) (byt chX11_limits_2 7 rfl) (byt chX11_limits_2 8 rfl) (by decide +kernel)
theorem dX11_limits_41 : decode cX11_limits 41 = .ok (.iload_n 2, 1) := oq_28 (byt chX11_limits_2 9 rfl)
theorem dX11_limits_42 : decode cX11_limits 42 = .ok (.ireturn, 1) := oq_172 (byt chX11_limits_2 10 rfl)
abbrev mX11_limits : MI := (yX11_limits, cX11_limits, 4, (some .int), noE)
theorem okX11_limits : cok mX11_limits 1 := ⟨tw1861, tw11, by decide, by decide, by decide, by decide +kernel⟩
def fX11_limits (M : Mem) (a0 a1 : Int) : Option Int :=
  iterC (fun (rec1 : (Int × Int) → Option Int) (s2 : Int × Int) => if M.2.1 a0 = 10 then if s2.2 < M.1 a0 26 then ((fX11_has M a1 s2.2).bind fun r5 => if r5 = 0 then (rec1 (w32 (s2.1 + 0), w32 (s2.2 + 1))) else ((fX11_of M a0 (w32 (84 + s2.2))).bind fun r8 => rec1 (w32 (s2.1 + r8), w32 (s2.2 + 1)))) else (some s2.1) else none) BIG (0, 0)
set_option maxRecDepth 100000 in
set_option maxHeartbeats 4000000 in
theorem kX11_limits (d : Nat) (hd : 1 ≤ d) (M : Mem) (a0 a1 : Int) : Ct mX11_limits d 0 0 [pA a0, pI a1] M (dI M) (fX11_limits M a0 a1) := by
  obtain ⟨d, rfl⟩ : ∃ k, d = k + 1 := ⟨d - 1, by omega⟩
  refine Ct.of 2 (fun _ _ _ => trivial) (by decide +kernel) rfl ?_
  unfold fX11_limits
  refine v_iconst dX11_limits_0 (by decide) ?_
  refine v_istore_n (ls' := [some (pA a0), some (pI a1), some (pI 0), none]) dX11_limits_1 (by decide) rfl ?_
  refine v_iconst dX11_limits_2 (by decide) ?_
  refine v_istore_n (ls' := [some (pA a0), some (pI a1), some (pI 0), some (pI 0)]) dX11_limits_3 (by decide) rfl ?_
  refine v_loop (fun (s2 : Int × Int) => [some (pA a0), some (pI a1), some (pI s2.1), some (pI s2.2)]) (fun (s2 : Int × Int) => M) (s0 := (0, 0)) ?_
  intro rec1 hrec1 s2
  refine v_iload_n dX11_limits_4 rfl ?_
  refine v_aload_n dX11_limits_5 rfl ?_
  refine v_if (fun h3 => ?_)
  refine v_get (v := pI (M.1 a0 26)) 10 26 rfl inX11 (by decide) tw1219 dX11_limits_6 h3 rfl ?_
  refine v_icmp_ge (tgt := 41) dX11_limits_9 (by decide) (fun c4 => ?_) (fun c4 => ?_)
  · refine v_iload_n dX11_limits_12 rfl ?_
    refine v_iload_n dX11_limits_13 rfl ?_
    refine v_iload_n dX11_limits_14 rfl ?_
    refine v_cS (mi := mX11_limits) (c0 := 0) (c1 := 0) (As := [pI a1, pI s2.2]) (st := [pI s2.1]) (kX11_has d (by omega) _ _ _) okX11_has (Or.inl tw1547) tw1548 rfl (Nat.le_of_ble_eq_true rfl) dX11_limits_15 (fun r5 => [pI r5, pI s2.1]) (fun r5 => M) (fun _ => rfl) (fun _ => rfl) (fun r5 h6 => ?_) rfl
    refine v_if_eq (tgt := 32) dX11_limits_18 (by decide) (fun c7 => ?_) (fun c7 => ?_)
    · refine v_iconst dX11_limits_32 (by decide) ?_
      refine v_iadd dX11_limits_33 ?_
      refine v_istore_n (ls' := [some (pA a0), some (pI a1), some (pI (w32 (s2.1 + 0))), some (pI s2.2)]) dX11_limits_34 (by decide) rfl ?_
      refine v_iinc (ls' := [some (pA a0), some (pI a1), some (pI (w32 (s2.1 + 0))), some (pI (w32 (s2.2 + 1)))]) dX11_limits_35 (by decide) rfl rfl ?_
      refine v_goto (tgt := 4) dX11_limits_38 (by decide) ?_
      exact hrec1 (w32 (s2.1 + 0), w32 (s2.2 + 1))
    · refine v_aload_n dX11_limits_21 rfl ?_
      refine v_bipush dX11_limits_22 (by decide) ?_
      refine v_iload_n dX11_limits_24 rfl ?_
      refine v_iadd dX11_limits_25 ?_
      refine v_cV (mi := mX11_limits) (c0 := 0) (c1 := 0) (As := [pI (w32 (84 + s2.2))]) (st := [pI s2.1]) (kX11_of d (by omega) _ _ _) rfl h3 rfl okX11_of (Or.inl tw1504) tw1506 tp55 rfl (Nat.le_of_ble_eq_true rfl) dX11_limits_26 (fun r8 => [pI r8, pI s2.1]) (fun r8 => M) (fun _ => rfl) (fun _ => rfl) (fun r8 h9 => ?_) rfl
      refine v_goto (tgt := 33) dX11_limits_29 (by decide) ?_
      refine v_iadd dX11_limits_33 ?_
      refine v_istore_n (ls' := [some (pA a0), some (pI a1), some (pI (w32 (s2.1 + r8))), some (pI s2.2)]) dX11_limits_34 (by decide) rfl ?_
      refine v_iinc (ls' := [some (pA a0), some (pI a1), some (pI (w32 (s2.1 + r8))), some (pI (w32 (s2.2 + 1)))]) dX11_limits_35 (by decide) rfl rfl ?_
      refine v_goto (tgt := 4) dX11_limits_38 (by decide) ?_
      exact hrec1 (w32 (s2.1 + r8), w32 (s2.2 + 1))
  · refine v_iload_n dX11_limits_41 rfl ?_
    exact v_ireturn dX11_limits_42 rfl rfl
theorem chX11_heads_0 : (cX11_heads.data.toList.drop 0).take 16 = [3, 61, 3, 62, 29, 42, 180, 1, 28, 162, 0, 25, 28, 27, 29, 184] := by decide +kernel
theorem chX11_heads_1 : (cX11_heads.data.toList.drop 16).take 16 = [1, 55, 153, 0, 7, 4, 167, 0, 4, 3, 96, 61, 132, 3, 1, 167] := by decide +kernel
theorem chX11_heads_2 : (cX11_heads.data.toList.drop 32).take 16 = [255, 229, 28, 172] := by decide +kernel
theorem dX11_heads_0 : decode cX11_heads 0 = .ok (.iconst 0, 1) := oq_3 (byt chX11_heads_0 0 rfl)
theorem dX11_heads_1 : decode cX11_heads 1 = .ok (.istore_n 2, 1) := oq_61 (byt chX11_heads_0 1 rfl)
theorem dX11_heads_2 : decode cX11_heads 2 = .ok (.iconst 0, 1) := oq_3 (byt chX11_heads_0 2 rfl)
theorem dX11_heads_3 : decode cX11_heads 3 = .ok (.istore_n 3, 1) := oq_62 (byt chX11_heads_0 3 rfl)
theorem dX11_heads_4 : decode cX11_heads 4 = .ok (.iload_n 3, 1) := oq_29 (byt chX11_heads_0 4 rfl)
theorem dX11_heads_5 : decode cX11_heads 5 = .ok (.aload_n 0, 1) := oq_42 (byt chX11_heads_0 5 rfl)
theorem dX11_heads_6 : decode cX11_heads 6 = .ok (.getfield 284, 3) := oq_180 (byt chX11_heads_0 6 rfl) (byt chX11_heads_0 7 rfl) (byt chX11_heads_0 8 rfl) rfl
theorem dX11_heads_9 : decode cX11_heads 9 = .ok (.if_icmp .ge 25, 3) := oq_162 (byt chX11_heads_0 9 rfl) (byt chX11_heads_0 10 rfl) (byt chX11_heads_0 11 rfl) (by decide +kernel)
theorem dX11_heads_12 : decode cX11_heads 12 = .ok (.iload_n 2, 1) := oq_28 (byt chX11_heads_0 12 rfl)
theorem dX11_heads_13 : decode cX11_heads 13 = .ok (.iload_n 1, 1) := oq_27 (byt chX11_heads_0 13 rfl)
theorem dX11_heads_14 : decode cX11_heads 14 = .ok (.iload_n 3, 1) := oq_29 (byt chX11_heads_0 14 rfl)
theorem dX11_heads_15 : decode cX11_heads 15 = .ok (.invokestatic 311, 3) := oq_184 (byt chX11_heads_0 15 rfl) (byt chX11_heads_1 0 rfl) (byt chX11_heads_1 1 rfl) rfl
theorem dX11_heads_18 : decode cX11_heads 18 = .ok (.ifCond .eq 7, 3) := oq_153 (byt chX11_heads_1 2 rfl) (byt chX11_heads_1 3 rfl) (byt chX11_heads_1 4 rfl) (by decide +kernel)
theorem dX11_heads_21 : decode cX11_heads 21 = .ok (.iconst 1, 1) := oq_4 (byt chX11_heads_1 5 rfl)
theorem dX11_heads_22 : decode cX11_heads 22 = .ok (.goto 4, 3) := oq_167 (byt chX11_heads_1 6 rfl) (byt chX11_heads_1 7 rfl) (byt chX11_heads_1 8 rfl) (by decide +kernel)
theorem dX11_heads_25 : decode cX11_heads 25 = .ok (.iconst 0, 1) := oq_3 (byt chX11_heads_1 9 rfl)
theorem dX11_heads_26 : decode cX11_heads 26 = .ok (.iadd, 1) := oq_96 (byt chX11_heads_1 10 rfl)
theorem dX11_heads_27 : decode cX11_heads 27 = .ok (.istore_n 2, 1) := oq_61 (byt chX11_heads_1 11 rfl)
theorem dX11_heads_28 : decode cX11_heads 28 = .ok (.iinc 3 1, 3) := oq_132 (byt chX11_heads_1 12 rfl) (byt chX11_heads_1 13 rfl) (byt chX11_heads_1 14 rfl) rfl
theorem dX11_heads_31 : decode cX11_heads 31 = .ok (.goto (-27), 3) := oq_167 (byt chX11_heads_1 15 rfl) (byt chX11_heads_2 0 rfl) (byt chX11_heads_2 1 rfl) (by decide +kernel)
theorem dX11_heads_34 : decode cX11_heads 34 = .ok (.iload_n 2, 1) := oq_28 (byt chX11_heads_2 2 rfl)
theorem dX11_heads_35 : decode cX11_heads 35 = .ok (.ireturn, 1) := oq_172 (byt chX11_heads_2 3 rfl)
abbrev mX11_heads : MI := (yX11_heads, cX11_heads, 4, (some .int), noE)
theorem okX11_heads : cok mX11_heads 1 := ⟨tw1865, tw11, by decide, by decide, by decide, by decide +kernel⟩
def fX11_heads (M : Mem) (a0 a1 : Int) : Option Int :=
  iterC (fun (rec1 : (Int × Int) → Option Int) (s2 : Int × Int) => if M.2.1 a0 = 10 then if s2.2 < M.1 a0 26 then ((fX11_has M a1 s2.2).bind fun r5 => if r5 = 0 then (rec1 (w32 (s2.1 + 0), w32 (s2.2 + 1))) else (rec1 (w32 (s2.1 + 1), w32 (s2.2 + 1)))) else (some s2.1) else none) BIG (0, 0)
set_option maxRecDepth 100000 in
set_option maxHeartbeats 4000000 in
theorem kX11_heads (d : Nat) (hd : 1 ≤ d) (M : Mem) (a0 a1 : Int) : Ct mX11_heads d 0 0 [pA a0, pI a1] M (dI M) (fX11_heads M a0 a1) := by
  obtain ⟨d, rfl⟩ : ∃ k, d = k + 1 := ⟨d - 1, by omega⟩
  refine Ct.of 2 (fun _ _ _ => trivial) (by decide +kernel) rfl ?_
  unfold fX11_heads
  refine v_iconst dX11_heads_0 (by decide) ?_
  refine v_istore_n (ls' := [some (pA a0), some (pI a1), some (pI 0), none]) dX11_heads_1 (by decide) rfl ?_
  refine v_iconst dX11_heads_2 (by decide) ?_
  refine v_istore_n (ls' := [some (pA a0), some (pI a1), some (pI 0), some (pI 0)]) dX11_heads_3 (by decide) rfl ?_
  refine v_loop (fun (s2 : Int × Int) => [some (pA a0), some (pI a1), some (pI s2.1), some (pI s2.2)]) (fun (s2 : Int × Int) => M) (s0 := (0, 0)) ?_
  intro rec1 hrec1 s2
  refine v_iload_n dX11_heads_4 rfl ?_
  refine v_aload_n dX11_heads_5 rfl ?_
  refine v_if (fun h3 => ?_)
  refine v_get (v := pI (M.1 a0 26)) 10 26 rfl inX11 (by decide) tw1219 dX11_heads_6 h3 rfl ?_
  refine v_icmp_ge (tgt := 34) dX11_heads_9 (by decide) (fun c4 => ?_) (fun c4 => ?_)
  · refine v_iload_n dX11_heads_12 rfl ?_
    refine v_iload_n dX11_heads_13 rfl ?_
    refine v_iload_n dX11_heads_14 rfl ?_
    refine v_cS (mi := mX11_heads) (c0 := 0) (c1 := 0) (As := [pI a1, pI s2.2]) (st := [pI s2.1]) (kX11_has d (by omega) _ _ _) okX11_has (Or.inl tw1547) tw1548 rfl (Nat.le_of_ble_eq_true rfl) dX11_heads_15 (fun r5 => [pI r5, pI s2.1]) (fun r5 => M) (fun _ => rfl) (fun _ => rfl) (fun r5 h6 => ?_) rfl
    refine v_if_eq (tgt := 25) dX11_heads_18 (by decide) (fun c7 => ?_) (fun c7 => ?_)
    · refine v_iconst dX11_heads_25 (by decide) ?_
      refine v_iadd dX11_heads_26 ?_
      refine v_istore_n (ls' := [some (pA a0), some (pI a1), some (pI (w32 (s2.1 + 0))), some (pI s2.2)]) dX11_heads_27 (by decide) rfl ?_
      refine v_iinc (ls' := [some (pA a0), some (pI a1), some (pI (w32 (s2.1 + 0))), some (pI (w32 (s2.2 + 1)))]) dX11_heads_28 (by decide) rfl rfl ?_
      refine v_goto (tgt := 4) dX11_heads_31 (by decide) ?_
      exact hrec1 (w32 (s2.1 + 0), w32 (s2.2 + 1))
    · refine v_iconst dX11_heads_21 (by decide) ?_
      refine v_goto (tgt := 26) dX11_heads_22 (by decide) ?_
      refine v_iadd dX11_heads_26 ?_
      refine v_istore_n (ls' := [some (pA a0), some (pI a1), some (pI (w32 (s2.1 + 1))), some (pI s2.2)]) dX11_heads_27 (by decide) rfl ?_
      refine v_iinc (ls' := [some (pA a0), some (pI a1), some (pI (w32 (s2.1 + 1))), some (pI (w32 (s2.2 + 1)))]) dX11_heads_28 (by decide) rfl rfl ?_
      refine v_goto (tgt := 4) dX11_heads_31 (by decide) ?_
      exact hrec1 (w32 (s2.1 + 1), w32 (s2.2 + 1))
  · refine v_iload_n dX11_heads_34 rfl ?_
    exact v_ireturn dX11_heads_35 rfl rfl
theorem chX11_crew_0 : (cX11_crew.data.toList.drop 0).take 16 = [42, 3, 181, 0, 90, 42, 27, 182, 1, 31, 153, 0, 13, 28, 4, 16] := by decide +kernel
theorem chX11_crew_1 : (cX11_crew.data.toList.drop 16).take 16 = [36, 184, 0, 98, 154, 0, 5, 2, 172, 2, 54, 4, 3, 54, 5, 21] := by decide +kernel
theorem chX11_crew_2 : (cX11_crew.data.toList.drop 32).take 16 = [5, 4, 42, 180, 1, 28, 120, 162, 0, 49, 42, 21, 5, 182, 2, 9] := by decide +kernel
theorem chX11_crew_3 : (cX11_crew.data.toList.drop 48).take 16 = [28, 161, 0, 29, 21, 4, 2, 159, 0, 18, 42, 21, 5, 182, 2, 12] := by decide +kernel
theorem chX11_crew_4 : (cX11_crew.data.toList.drop 64).take 16 = [42, 21, 4, 182, 2, 12, 162, 0, 8, 21, 5, 167, 0, 5, 21, 4] := by decide +kernel
theorem chX11_crew_5 : (cX11_crew.data.toList.drop 80).take 16 = [54, 4, 132, 5, 1, 167, 255, 202, 21, 4, 2, 159, 0, 7, 29, 153] := by decide +kernel
theorem chX11_crew_6 : (cX11_crew.data.toList.drop 96).take 16 = [0, 8, 21, 4, 167, 0, 9, 42, 21, 4, 182, 2, 12, 172] := by decide +kernel
theorem dX11_crew_0 : decode cX11_crew 0 = .ok (.aload_n 0, 1) := oq_42 (byt chX11_crew_0 0 rfl)
theorem dX11_crew_1 : decode cX11_crew 1 = .ok (.iconst 0, 1) := oq_3 (byt chX11_crew_0 1 rfl)
theorem dX11_crew_2 : decode cX11_crew 2 = .ok (.putfield 90, 3) := oq_181 (byt chX11_crew_0 2 rfl) (byt chX11_crew_0 3 rfl) (byt chX11_crew_0 4 rfl) rfl
theorem dX11_crew_5 : decode cX11_crew 5 = .ok (.aload_n 0, 1) := oq_42 (byt chX11_crew_0 5 rfl)
theorem dX11_crew_6 : decode cX11_crew 6 = .ok (.iload_n 1, 1) := oq_27 (byt chX11_crew_0 6 rfl)
theorem dX11_crew_7 : decode cX11_crew 7 = .ok (.invokevirtual 287, 3) := oq_182 (byt chX11_crew_0 7 rfl) (byt chX11_crew_0 8 rfl) (byt chX11_crew_0 9 rfl) rfl
theorem dX11_crew_10 : decode cX11_crew 10 = .ok (.ifCond .eq 13, 3) := oq_153 (byt chX11_crew_0 10 rfl) (byt chX11_crew_0 11 rfl) (byt chX11_crew_0 12 rfl) (by decide +kernel)
theorem dX11_crew_13 : decode cX11_crew 13 = .ok (.iload_n 2, 1) := oq_28 (byt chX11_crew_0 13 rfl)
theorem dX11_crew_14 : decode cX11_crew 14 = .ok (.iconst 1, 1) := oq_4 (byt chX11_crew_0 14 rfl)
theorem dX11_crew_15 : decode cX11_crew 15 = .ok (.bipush 36, 2) := oq_16 (byt chX11_crew_0 15 rfl) (byt chX11_crew_1 0 rfl) rfl
theorem dX11_crew_17 : decode cX11_crew 17 = .ok (.invokestatic 98, 3) := oq_184 (byt chX11_crew_1 1 rfl) (byt chX11_crew_1 2 rfl) (byt chX11_crew_1 3 rfl) rfl
theorem dX11_crew_20 : decode cX11_crew 20 = .ok (.ifCond .ne 5, 3) := oq_154 (byt chX11_crew_1 4 rfl) (byt chX11_crew_1 5 rfl) (byt chX11_crew_1 6 rfl) (by decide +kernel)
theorem dX11_crew_23 : decode cX11_crew 23 = .ok (.iconst (-1), 1) := oq_2 (byt chX11_crew_1 7 rfl)
theorem dX11_crew_24 : decode cX11_crew 24 = .ok (.ireturn, 1) := oq_172 (byt chX11_crew_1 8 rfl)
theorem dX11_crew_25 : decode cX11_crew 25 = .ok (.iconst (-1), 1) := oq_2 (byt chX11_crew_1 9 rfl)
theorem dX11_crew_26 : decode cX11_crew 26 = .ok (.istore 4, 2) := oq_54 (byt chX11_crew_1 10 rfl) (byt chX11_crew_1 11 rfl) rfl
theorem dX11_crew_28 : decode cX11_crew 28 = .ok (.iconst 0, 1) := oq_3 (byt chX11_crew_1 12 rfl)
theorem dX11_crew_29 : decode cX11_crew 29 = .ok (.istore 5, 2) := oq_54 (byt chX11_crew_1 13 rfl) (byt chX11_crew_1 14 rfl) rfl
theorem dX11_crew_31 : decode cX11_crew 31 = .ok (.iload 5, 2) := oq_21 (byt chX11_crew_1 15 rfl) (byt chX11_crew_2 0 rfl) rfl
theorem dX11_crew_33 : decode cX11_crew 33 = .ok (.iconst 1, 1) := oq_4 (byt chX11_crew_2 1 rfl)
theorem dX11_crew_34 : decode cX11_crew 34 = .ok (.aload_n 0, 1) := oq_42 (byt chX11_crew_2 2 rfl)
theorem dX11_crew_35 : decode cX11_crew 35 = .ok (.getfield 284, 3) := oq_180 (byt chX11_crew_2 3 rfl) (byt chX11_crew_2 4 rfl) (byt chX11_crew_2 5 rfl) rfl
theorem dX11_crew_38 : decode cX11_crew 38 = .ok (.ishl, 1) := oq_120 (byt chX11_crew_2 6 rfl)
theorem dX11_crew_39 : decode cX11_crew 39 = .ok (.if_icmp .ge 49, 3) := oq_162 (byt chX11_crew_2 7 rfl) (byt chX11_crew_2 8 rfl) (byt chX11_crew_2 9 rfl) (by decide +kernel)
theorem dX11_crew_42 : decode cX11_crew 42 = .ok (.aload_n 0, 1) := oq_42 (byt chX11_crew_2 10 rfl)
theorem dX11_crew_43 : decode cX11_crew 43 = .ok (.iload 5, 2) := oq_21 (byt chX11_crew_2 11 rfl) (byt chX11_crew_2 12 rfl) rfl
theorem dX11_crew_45 : decode cX11_crew 45 = .ok (.invokevirtual 521, 3) := oq_182 (byt chX11_crew_2 13 rfl) (byt chX11_crew_2 14 rfl) (byt chX11_crew_2 15 rfl) rfl
theorem dX11_crew_48 : decode cX11_crew 48 = .ok (.iload_n 2, 1) := oq_28 (byt chX11_crew_3 0 rfl)
theorem dX11_crew_49 : decode cX11_crew 49 = .ok (.if_icmp .lt 29, 3) := oq_161 (byt chX11_crew_3 1 rfl) (byt chX11_crew_3 2 rfl) (byt chX11_crew_3 3 rfl) (by decide +kernel)
theorem dX11_crew_52 : decode cX11_crew 52 = .ok (.iload 4, 2) := oq_21 (byt chX11_crew_3 4 rfl) (byt chX11_crew_3 5 rfl) rfl
theorem dX11_crew_54 : decode cX11_crew 54 = .ok (.iconst (-1), 1) := oq_2 (byt chX11_crew_3 6 rfl)
theorem dX11_crew_55 : decode cX11_crew 55 = .ok (.if_icmp .eq 18, 3) := oq_159 (byt chX11_crew_3 7 rfl) (byt chX11_crew_3 8 rfl) (byt chX11_crew_3 9 rfl) (by decide +kernel)
theorem dX11_crew_58 : decode cX11_crew 58 = .ok (.aload_n 0, 1) := oq_42 (byt chX11_crew_3 10 rfl)
theorem dX11_crew_59 : decode cX11_crew 59 = .ok (.iload 5, 2) := oq_21 (byt chX11_crew_3 11 rfl) (byt chX11_crew_3 12 rfl) rfl
theorem dX11_crew_61 : decode cX11_crew 61 = .ok (.invokevirtual 524, 3) := oq_182 (byt chX11_crew_3 13 rfl) (byt chX11_crew_3 14 rfl) (byt chX11_crew_3 15 rfl) rfl
theorem dX11_crew_64 : decode cX11_crew 64 = .ok (.aload_n 0, 1) := oq_42 (byt chX11_crew_4 0 rfl)
theorem dX11_crew_65 : decode cX11_crew 65 = .ok (.iload 4, 2) := oq_21 (byt chX11_crew_4 1 rfl) (byt chX11_crew_4 2 rfl) rfl
theorem dX11_crew_67 : decode cX11_crew 67 = .ok (.invokevirtual 524, 3) := oq_182 (byt chX11_crew_4 3 rfl) (byt chX11_crew_4 4 rfl) (byt chX11_crew_4 5 rfl) rfl
theorem dX11_crew_70 : decode cX11_crew 70 = .ok (.if_icmp .ge 8, 3) := oq_162 (byt chX11_crew_4 6 rfl) (byt chX11_crew_4 7 rfl) (byt chX11_crew_4 8 rfl) (by decide +kernel)
theorem dX11_crew_73 : decode cX11_crew 73 = .ok (.iload 5, 2) := oq_21 (byt chX11_crew_4 9 rfl) (byt chX11_crew_4 10 rfl) rfl
theorem dX11_crew_75 : decode cX11_crew 75 = .ok (.goto 5, 3) := oq_167 (byt chX11_crew_4 11 rfl) (byt chX11_crew_4 12 rfl) (byt chX11_crew_4 13 rfl) (by decide +kernel)
theorem dX11_crew_78 : decode cX11_crew 78 = .ok (.iload 4, 2) := oq_21 (byt chX11_crew_4 14 rfl) (byt chX11_crew_4 15 rfl) rfl
theorem dX11_crew_80 : decode cX11_crew 80 = .ok (.istore 4, 2) := oq_54 (byt chX11_crew_5 0 rfl) (byt chX11_crew_5 1 rfl) rfl
theorem dX11_crew_82 : decode cX11_crew 82 = .ok (.iinc 5 1, 3) := oq_132 (byt chX11_crew_5 2 rfl) (byt chX11_crew_5 3 rfl) (byt chX11_crew_5 4 rfl) rfl
theorem dX11_crew_85 : decode cX11_crew 85 = .ok (.goto (-54), 3) := oq_167 (byt chX11_crew_5 5 rfl) (byt chX11_crew_5 6 rfl) (byt chX11_crew_5 7 rfl) (by decide +kernel)
theorem dX11_crew_88 : decode cX11_crew 88 = .ok (.iload 4, 2) := oq_21 (byt chX11_crew_5 8 rfl) (byt chX11_crew_5 9 rfl) rfl
theorem dX11_crew_90 : decode cX11_crew 90 = .ok (.iconst (-1), 1) := oq_2 (byt chX11_crew_5 10 rfl)
theorem dX11_crew_91 : decode cX11_crew 91 = .ok (.if_icmp .eq 7, 3) := oq_159 (byt chX11_crew_5 11 rfl) (byt chX11_crew_5 12 rfl) (byt chX11_crew_5 13 rfl) (by decide +kernel)
theorem dX11_crew_94 : decode cX11_crew 94 = .ok (.iload_n 3, 1) := oq_29 (byt chX11_crew_5 14 rfl)
theorem dX11_crew_95 : decode cX11_crew 95 = .ok (.ifCond .eq 8, 3) := oq_153 (byt chX11_crew_5 15 rfl) (byt chX11_crew_6 0 rfl) (byt chX11_crew_6 1 rfl) (by decide +kernel)
theorem dX11_crew_98 : decode cX11_crew 98 = .ok (.iload 4, 2) := oq_21 (byt chX11_crew_6 2 rfl) (byt chX11_crew_6 3 rfl) rfl
theorem dX11_crew_100 : decode cX11_crew 100 = .ok (.goto 9, 3) := oq_167 (byt chX11_crew_6 4 rfl) (byt chX11_crew_6 5 rfl) (byt chX11_crew_6 6 rfl) (by decide +kernel)
theorem dX11_crew_103 : decode cX11_crew 103 = .ok (.aload_n 0, 1) := oq_42 (byt chX11_crew_6 7 rfl)
theorem dX11_crew_104 : decode cX11_crew 104 = .ok (.iload 4, 2) := oq_21 (byt chX11_crew_6 8 rfl) (byt chX11_crew_6 9 rfl) rfl
theorem dX11_crew_106 : decode cX11_crew 106 = .ok (.invokevirtual 524, 3) := oq_182 (byt chX11_crew_6 10 rfl) (byt chX11_crew_6 11 rfl) (byt chX11_crew_6 12 rfl) rfl
theorem dX11_crew_109 : decode cX11_crew 109 = .ok (.ireturn, 1) := oq_172 (byt chX11_crew_6 13 rfl)
abbrev mX11_crew : MI := (yX11_crew, cX11_crew, 6, (some .int), noE)
theorem okX11_crew : cok mX11_crew 3 := ⟨tw1857, tw11, by decide, by decide, by decide, by decide +kernel⟩
def fX11_crew (M : Mem) (a0 a1 a2 a3 : Int) : Option (Int × Mem) :=
  if M.2.1 a0 = 10 then bM (mst M a0 0 0) fun M2 => (fX11_hand M2 a0 a1).bind fun r4 => if r4.1 = 0 then (some ((-1), r4.2)) else ((fX11_in r4.2 a2 1 36).bind fun r7 => if r7 = 0 then (some ((-1), r4.2)) else (iterC (fun (rec10 : (Int × Int) → Option (Int × Mem)) (s11 : Int × Int) => if r4.2.2.1 a0 = 10 then if s11.2 < bShl 1 (r4.2.1 a0 26) then ((fX11_limits r4.2 a0 s11.2).bind fun r14 => if r14 < a2 then (rec10 (s11.1, w32 (s11.2 + 1))) else (if s11.1 = (-1) then (rec10 (s11.2, w32 (s11.2 + 1))) else ((fX11_heads r4.2 a0 s11.2).bind fun r18 => (fX11_heads r4.2 a0 s11.1).bind fun r20 => if r18 < r20 then (rec10 (s11.2, w32 (s11.2 + 1))) else (rec10 (s11.1, w32 (s11.2 + 1)))))) else (if s11.1 = (-1) then (some (s11.1, r4.2)) else (if a3 = 0 then ((fX11_heads r4.2 a0 s11.1).bind fun r25 => some (r25, r4.2)) else (some (s11.1, r4.2)))) else none) BIG ((-1), 0))) else none
set_option maxRecDepth 100000 in
set_option maxHeartbeats 4000000 in
theorem kX11_crew (d : Nat) (hd : 3 ≤ d) (M : Mem) (a0 a1 a2 a3 : Int) : Ct mX11_crew d 0 0 [pA a0, pI a1, pI a2, pI a3] M dIM (fX11_crew M a0 a1 a2 a3) := by
  obtain ⟨d, rfl⟩ : ∃ k, d = k + 1 := ⟨d - 1, by omega⟩
  refine Ct.of 2 (fun _ _ _ => trivial) (by decide +kernel) rfl ?_
  unfold fX11_crew
  refine v_aload_n dX11_crew_0 rfl ?_
  refine v_iconst dX11_crew_1 (by decide) ?_
  refine v_if (fun h1 => ?_)
  refine v_put (x := 0) 10 0 rfl inX11 (by decide) tw1193 (Or.inl rfl) rfl dX11_crew_2 h1 rfl id ?_
  refine v_bM (fun M2 e3 => ?_)
  refine v_aload_n dX11_crew_5 rfl ?_
  refine v_iload_n dX11_crew_6 rfl ?_
  refine v_cV (mi := mX11_crew) (c0 := 0) (c1 := 0) (As := [pI a1]) (st := []) (kX11_hand d (by omega) _ _ _) rfl (by rw [e3]; exact h1) rfl okX11_hand (Or.inl tw1500) tw1502 tp54 rfl (Nat.le_of_ble_eq_true rfl) dX11_crew_7 (fun r4 => [pI r4.1]) (fun r4 => r4.2) (fun _ => rfl) (fun _ => rfl) (fun r4 h5 => ?_) rfl
  refine v_if_eq (tgt := 23) dX11_crew_10 (by decide) (fun c6 => ?_) (fun c6 => ?_)
  · refine v_iconst dX11_crew_23 (by decide) ?_
    exact v_ireturn dX11_crew_24 rfl rfl
  · refine v_iload_n dX11_crew_13 rfl ?_
    refine v_iconst dX11_crew_14 (by decide) ?_
    refine v_bipush dX11_crew_15 (by decide) ?_
    refine v_cS (mi := mX11_crew) (c0 := 0) (c1 := 0) (As := [pI a2, pI 1, pI 36]) (st := []) (kX11_in d (by omega) _ _ _ _) okX11_in (Or.inl tw1360) tw1361 rfl (Nat.le_of_ble_eq_true rfl) dX11_crew_17 (fun r7 => [pI r7]) (fun r7 => r4.2) (fun _ => rfl) (fun _ => rfl) (fun r7 h8 => ?_) rfl
    refine v_if_ne (tgt := 25) dX11_crew_20 (by decide) (fun c9 => ?_) (fun c9 => ?_)
    · refine v_iconst dX11_crew_23 (by decide) ?_
      exact v_ireturn dX11_crew_24 rfl rfl
    · refine v_iconst dX11_crew_25 (by decide) ?_
      refine v_istore (ls' := [some (pA a0), some (pI a1), some (pI a2), some (pI a3), some (pI (-1)), none]) dX11_crew_26 (by decide) rfl ?_
      refine v_iconst dX11_crew_28 (by decide) ?_
      refine v_istore (ls' := [some (pA a0), some (pI a1), some (pI a2), some (pI a3), some (pI (-1)), some (pI 0)]) dX11_crew_29 (by decide) rfl ?_
      refine v_drop [some (pA a0), none, some (pI a2), some (pI a3), some (pI (-1)), some (pI 0)] (ls_s (ls_n (ls_s (ls_s (ls_s (ls_s ls_e)))))) ?_
      refine v_loop (fun (s11 : Int × Int) => [some (pA a0), none, some (pI a2), some (pI a3), some (pI s11.1), some (pI s11.2)]) (fun (s11 : Int × Int) => r4.2) (s0 := ((-1), 0)) ?_
      intro rec10 hrec10 s11
      refine v_iload dX11_crew_31 rfl ?_
      refine v_iconst dX11_crew_33 (by decide) ?_
      refine v_aload_n dX11_crew_34 rfl ?_
      refine v_if (fun h12 => ?_)
      refine v_get (v := pI (r4.2.1 a0 26)) 10 26 rfl inX11 (by decide) tw1219 dX11_crew_35 h12 rfl ?_
      refine v_ishl dX11_crew_38 ?_
      refine v_icmp_ge (tgt := 88) dX11_crew_39 (by decide) (fun c13 => ?_) (fun c13 => ?_)
      · refine v_aload_n dX11_crew_42 rfl ?_
        refine v_iload dX11_crew_43 rfl ?_
        refine v_cV (mi := mX11_crew) (c0 := 0) (c1 := 0) (As := [pI s11.2]) (st := []) (kX11_limits d (by omega) _ _ _) rfl h12 rfl okX11_limits (Or.inl tw1858) tw1860 tp113 rfl (Nat.le_of_ble_eq_true rfl) dX11_crew_45 (fun r14 => [pI r14]) (fun r14 => r4.2) (fun _ => rfl) (fun _ => rfl) (fun r14 h15 => ?_) rfl
        refine v_iload_n dX11_crew_48 rfl ?_
        refine v_icmp_lt (tgt := 78) dX11_crew_49 (by decide) (fun c16 => ?_) (fun c16 => ?_)
        · refine v_iload dX11_crew_78 rfl ?_
          refine v_istore (ls' := [some (pA a0), none, some (pI a2), some (pI a3), some (pI s11.1), some (pI s11.2)]) dX11_crew_80 (by decide) rfl ?_
          refine v_iinc (ls' := [some (pA a0), none, some (pI a2), some (pI a3), some (pI s11.1), some (pI (w32 (s11.2 + 1)))]) dX11_crew_82 (by decide) rfl rfl ?_
          refine v_goto (tgt := 31) dX11_crew_85 (by decide) ?_
          exact hrec10 (s11.1, w32 (s11.2 + 1))
        · refine v_iload dX11_crew_52 rfl ?_
          refine v_iconst dX11_crew_54 (by decide) ?_
          refine v_icmp_eq (tgt := 73) dX11_crew_55 (by decide) (fun c17 => ?_) (fun c17 => ?_)
          · refine v_iload dX11_crew_73 rfl ?_
            refine v_goto (tgt := 80) dX11_crew_75 (by decide) ?_
            refine v_istore (ls' := [some (pA a0), none, some (pI a2), some (pI a3), some (pI s11.2), some (pI s11.2)]) dX11_crew_80 (by decide) rfl ?_
            refine v_iinc (ls' := [some (pA a0), none, some (pI a2), some (pI a3), some (pI s11.2), some (pI (w32 (s11.2 + 1)))]) dX11_crew_82 (by decide) rfl rfl ?_
            refine v_goto (tgt := 31) dX11_crew_85 (by decide) ?_
            exact hrec10 (s11.2, w32 (s11.2 + 1))
          · refine v_aload_n dX11_crew_58 rfl ?_
            refine v_iload dX11_crew_59 rfl ?_
            refine v_cV (mi := mX11_crew) (c0 := 0) (c1 := 0) (As := [pI s11.2]) (st := []) (kX11_heads d (by omega) _ _ _) rfl h12 rfl okX11_heads (Or.inl tw1862) tw1864 tp114 rfl (Nat.le_of_ble_eq_true rfl) dX11_crew_61 (fun r18 => [pI r18]) (fun r18 => r4.2) (fun _ => rfl) (fun _ => rfl) (fun r18 h19 => ?_) rfl
            refine v_aload_n dX11_crew_64 rfl ?_
            refine v_iload dX11_crew_65 rfl ?_
            refine v_cV (mi := mX11_crew) (c0 := 0) (c1 := 0) (As := [pI s11.1]) (st := [pI r18]) (kX11_heads d (by omega) _ _ _) rfl h12 rfl okX11_heads (Or.inl tw1862) tw1864 tp114 rfl (Nat.le_of_ble_eq_true rfl) dX11_crew_67 (fun r20 => [pI r20, pI r18]) (fun r20 => r4.2) (fun _ => rfl) (fun _ => rfl) (fun r20 h21 => ?_) rfl
            refine v_icmp_ge (tgt := 78) dX11_crew_70 (by decide) (fun c22 => ?_) (fun c22 => ?_)
            · refine v_iload dX11_crew_73 rfl ?_
              refine v_goto (tgt := 80) dX11_crew_75 (by decide) ?_
              refine v_istore (ls' := [some (pA a0), none, some (pI a2), some (pI a3), some (pI s11.2), some (pI s11.2)]) dX11_crew_80 (by decide) rfl ?_
              refine v_iinc (ls' := [some (pA a0), none, some (pI a2), some (pI a3), some (pI s11.2), some (pI (w32 (s11.2 + 1)))]) dX11_crew_82 (by decide) rfl rfl ?_
              refine v_goto (tgt := 31) dX11_crew_85 (by decide) ?_
              exact hrec10 (s11.2, w32 (s11.2 + 1))
            · refine v_iload dX11_crew_78 rfl ?_
              refine v_istore (ls' := [some (pA a0), none, some (pI a2), some (pI a3), some (pI s11.1), some (pI s11.2)]) dX11_crew_80 (by decide) rfl ?_
              refine v_iinc (ls' := [some (pA a0), none, some (pI a2), some (pI a3), some (pI s11.1), some (pI (w32 (s11.2 + 1)))]) dX11_crew_82 (by decide) rfl rfl ?_
              refine v_goto (tgt := 31) dX11_crew_85 (by decide) ?_
              exact hrec10 (s11.1, w32 (s11.2 + 1))
      · refine v_iload dX11_crew_88 rfl ?_
        refine v_iconst dX11_crew_90 (by decide) ?_
        refine v_icmp_eq (tgt := 98) dX11_crew_91 (by decide) (fun c23 => ?_) (fun c23 => ?_)
        · refine v_iload dX11_crew_98 rfl ?_
          refine v_goto (tgt := 109) dX11_crew_100 (by decide) ?_
          exact v_ireturn dX11_crew_109 rfl rfl
        · refine v_iload_n dX11_crew_94 rfl ?_
          refine v_if_eq (tgt := 103) dX11_crew_95 (by decide) (fun c24 => ?_) (fun c24 => ?_)
          · refine v_aload_n dX11_crew_103 rfl ?_
            refine v_iload dX11_crew_104 rfl ?_
            refine v_cV (mi := mX11_crew) (c0 := 0) (c1 := 0) (As := [pI s11.1]) (st := []) (kX11_heads d (by omega) _ _ _) rfl h12 rfl okX11_heads (Or.inl tw1862) tw1864 tp114 rfl (Nat.le_of_ble_eq_true rfl) dX11_crew_106 (fun r25 => [pI r25]) (fun r25 => r4.2) (fun _ => rfl) (fun _ => rfl) (fun r25 h26 => ?_) rfl
            exact v_ireturn dX11_crew_109 rfl rfl
          · refine v_iload dX11_crew_98 rfl ?_
            refine v_goto (tgt := 109) dX11_crew_100 (by decide) ?_
            exact v_ireturn dX11_crew_109 rfl rfl
theorem chX11_helps_0 : (cX11_helps.data.toList.drop 0).take 16 = [3, 62, 29, 8, 162, 0, 29, 42, 27, 29, 182, 1, 43, 158, 0, 14] := by decide +kernel
theorem chX11_helps_1 : (cX11_helps.data.toList.drop 16).take 16 = [42, 28, 29, 182, 1, 46, 158, 0, 5, 4, 172, 132, 3, 1, 167, 255] := by decide +kernel
theorem chX11_helps_2 : (cX11_helps.data.toList.drop 32).take 16 = [228, 3, 172] := by decide +kernel
theorem dX11_helps_0 : decode cX11_helps 0 = .ok (.iconst 0, 1) := oq_3 (byt chX11_helps_0 0 rfl)
theorem dX11_helps_1 : decode cX11_helps 1 = .ok (.istore_n 3, 1) := oq_62 (byt chX11_helps_0 1 rfl)
theorem dX11_helps_2 : decode cX11_helps 2 = .ok (.iload_n 3, 1) := oq_29 (byt chX11_helps_0 2 rfl)
theorem dX11_helps_3 : decode cX11_helps 3 = .ok (.iconst 5, 1) := oq_8 (byt chX11_helps_0 3 rfl)
theorem dX11_helps_4 : decode cX11_helps 4 = .ok (.if_icmp .ge 29, 3) := oq_162 (byt chX11_helps_0 4 rfl) (byt chX11_helps_0 5 rfl) (byt chX11_helps_0 6 rfl) (by decide +kernel)
theorem dX11_helps_7 : decode cX11_helps 7 = .ok (.aload_n 0, 1) := oq_42 (byt chX11_helps_0 7 rfl)
theorem dX11_helps_8 : decode cX11_helps 8 = .ok (.iload_n 1, 1) := oq_27 (byt chX11_helps_0 8 rfl)
theorem dX11_helps_9 : decode cX11_helps 9 = .ok (.iload_n 3, 1) := oq_29 (byt chX11_helps_0 9 rfl)
theorem dX11_helps_10 : decode cX11_helps 10 = .ok (.invokevirtual 299, 3) := oq_182 (byt chX11_helps_0 10 rfl) (byt chX11_helps_0 11 rfl) (byt chX11_helps_0 12 rfl) rfl
theorem dX11_helps_13 : decode cX11_helps 13 = .ok (.ifCond .le 14, 3) := oq_158 (byt chX11_helps_0 13 rfl) (byt chX11_helps_0 14 rfl) (byt chX11_helps_0 15 rfl) (by decide +kernel)
theorem dX11_helps_16 : decode cX11_helps 16 = .ok (.aload_n 0, 1) := oq_42 (byt chX11_helps_1 0 rfl)
theorem dX11_helps_17 : decode cX11_helps 17 = .ok (.iload_n 2, 1) := oq_28 (byt chX11_helps_1 1 rfl)
theorem dX11_helps_18 : decode cX11_helps 18 = .ok (.iload_n 3, 1) := oq_29 (byt chX11_helps_1 2 rfl)
theorem dX11_helps_19 : decode cX11_helps 19 = .ok (.invokevirtual 302, 3) := oq_182 (byt chX11_helps_1 3 rfl) (byt chX11_helps_1 4 rfl) (byt chX11_helps_1 5 rfl) rfl
theorem dX11_helps_22 : decode cX11_helps 22 = .ok (.ifCond .le 5, 3) := oq_158 (byt chX11_helps_1 6 rfl) (byt chX11_helps_1 7 rfl) (byt chX11_helps_1 8 rfl) (by decide +kernel)
theorem dX11_helps_25 : decode cX11_helps 25 = .ok (.iconst 1, 1) := oq_4 (byt chX11_helps_1 9 rfl)
theorem dX11_helps_26 : decode cX11_helps 26 = .ok (.ireturn, 1) := oq_172 (byt chX11_helps_1 10 rfl)
theorem dX11_helps_27 : decode cX11_helps 27 = .ok (.iinc 3 1, 3) := oq_132 (byt chX11_helps_1 11 rfl) (byt chX11_helps_1 12 rfl) (byt chX11_helps_1 13 rfl) rfl
theorem dX11_helps_30 : decode cX11_helps 30 = .ok (.goto (-28), 3) := oq_167 (byt chX11_helps_1 14 rfl) (byt chX11_helps_1 15 rfl) (byt chX11_helps_2 0 rfl) (by decide +kernel)
theorem dX11_helps_33 : decode cX11_helps 33 = .ok (.iconst 0, 1) := oq_3 (byt chX11_helps_2 1 rfl)
theorem dX11_helps_34 : decode cX11_helps 34 = .ok (.ireturn, 1) := oq_172 (byt chX11_helps_2 2 rfl)
abbrev mX11_helps : MI := (yX11_helps, cX11_helps, 4, (some .boolean), noE)
theorem okX11_helps : cok mX11_helps 2 := ⟨tw1873, tw11, by decide, by decide, by decide, by decide +kernel⟩
def fX11_helps (M : Mem) (a0 a1 a2 : Int) : Option Int :=
  iterC (fun (rec1 : Int → Option Int) (s2 : Int) => if s2 < 5 then (if M.2.1 a0 = 10 then (fX11_spare M a0 a1 s2).bind fun r4 => if 0 < r4 then ((fX11_lacks M a0 a2 s2).bind fun r8 => if 0 < r8 then (some 1) else (rec1 (w32 (s2 + 1)))) else (rec1 (w32 (s2 + 1))) else none) else (some 0)) BIG 0
set_option maxRecDepth 100000 in
set_option maxHeartbeats 4000000 in
theorem kX11_helps (d : Nat) (hd : 2 ≤ d) (M : Mem) (a0 a1 a2 : Int) : Ct mX11_helps d 0 0 [pA a0, pI a1, pI a2] M (dI M) (fX11_helps M a0 a1 a2) := by
  obtain ⟨d, rfl⟩ : ∃ k, d = k + 1 := ⟨d - 1, by omega⟩
  refine Ct.of 1 (fun _ _ _ => trivial) (by decide +kernel) rfl ?_
  unfold fX11_helps
  refine v_iconst dX11_helps_0 (by decide) ?_
  refine v_istore_n (ls' := [some (pA a0), some (pI a1), some (pI a2), some (pI 0)]) dX11_helps_1 (by decide) rfl ?_
  refine v_loop (fun (s2 : Int) => [some (pA a0), some (pI a1), some (pI a2), some (pI s2)]) (fun (s2 : Int) => M) (s0 := 0) ?_
  intro rec1 hrec1 s2
  refine v_iload_n dX11_helps_2 rfl ?_
  refine v_iconst dX11_helps_3 (by decide) ?_
  refine v_icmp_ge (tgt := 33) dX11_helps_4 (by decide) (fun c3 => ?_) (fun c3 => ?_)
  · refine v_aload_n dX11_helps_7 rfl ?_
    refine v_iload_n dX11_helps_8 rfl ?_
    refine v_iload_n dX11_helps_9 rfl ?_
    refine v_if (fun h6 => ?_)
    refine v_cV (mi := mX11_helps) (c0 := 0) (c1 := 0) (As := [pI a1, pI s2]) (st := []) (kX11_spare d (by omega) _ _ _ _) rfl h6 rfl okX11_spare (Or.inl tw1523) tw1525 tp58 rfl (Nat.le_of_ble_eq_true rfl) dX11_helps_10 (fun r4 => [pI r4]) (fun r4 => M) (fun _ => rfl) (fun _ => rfl) (fun r4 h5 => ?_) rfl
    refine v_if_le (tgt := 27) dX11_helps_13 (by decide) (fun c7 => ?_) (fun c7 => ?_)
    · refine v_aload_n dX11_helps_16 rfl ?_
      refine v_iload_n dX11_helps_17 rfl ?_
      refine v_iload_n dX11_helps_18 rfl ?_
      refine v_cV (mi := mX11_helps) (c0 := 0) (c1 := 0) (As := [pI a2, pI s2]) (st := []) (kX11_lacks d (by omega) _ _ _ _) rfl h6 rfl okX11_lacks (Or.inl tw1527) tw1529 tp59 rfl (Nat.le_of_ble_eq_true rfl) dX11_helps_19 (fun r8 => [pI r8]) (fun r8 => M) (fun _ => rfl) (fun _ => rfl) (fun r8 h9 => ?_) rfl
      refine v_if_le (tgt := 27) dX11_helps_22 (by decide) (fun c10 => ?_) (fun c10 => ?_)
      · refine v_iconst dX11_helps_25 (by decide) ?_
        exact v_breturn dX11_helps_26 rfl (by decide) rfl
      · refine v_iinc (ls' := [some (pA a0), some (pI a1), some (pI a2), some (pI (w32 (s2 + 1)))]) dX11_helps_27 (by decide) rfl rfl ?_
        refine v_goto (tgt := 2) dX11_helps_30 (by decide) ?_
        exact hrec1 (w32 (s2 + 1))
    · refine v_iinc (ls' := [some (pA a0), some (pI a1), some (pI a2), some (pI (w32 (s2 + 1)))]) dX11_helps_27 (by decide) rfl rfl ?_
      refine v_goto (tgt := 2) dX11_helps_30 (by decide) ?_
      exact hrec1 (w32 (s2 + 1))
  · refine v_iconst dX11_helps_33 (by decide) ?_
    exact v_breturn dX11_helps_34 rfl (by decide) rfl
theorem chX11_pairs_0 : (cX11_pairs.data.toList.drop 0).take 16 = [42, 3, 181, 0, 90, 42, 27, 182, 1, 31, 154, 0, 5, 2, 172, 3] := by decide +kernel
theorem chX11_pairs_1 : (cX11_pairs.data.toList.drop 16).take 16 = [62, 3, 54, 4, 21, 4, 16, 36, 162, 0, 72, 21, 4, 16, 6, 108] := by decide +kernel
theorem chX11_pairs_2 : (cX11_pairs.data.toList.drop 32).take 16 = [54, 5, 21, 4, 16, 6, 112, 54, 6, 21, 5, 21, 6, 162, 0, 45] := by decide +kernel
theorem chX11_pairs_3 : (cX11_pairs.data.toList.drop 48).take 16 = [21, 6, 42, 180, 1, 25, 162, 0, 36, 42, 21, 5, 21, 6, 182, 2] := by decide +kernel
theorem chX11_pairs_4 : (cX11_pairs.data.toList.drop 64).take 16 = [15, 153, 0, 25, 42, 21, 6, 21, 5, 182, 2, 15, 153, 0, 14, 29] := by decide +kernel
theorem chX11_pairs_5 : (cX11_pairs.data.toList.drop 80).take 16 = [28, 160, 0, 6, 21, 4, 172, 132, 3, 1, 132, 4, 1, 167, 255, 183] := by decide +kernel
theorem chX11_pairs_6 : (cX11_pairs.data.toList.drop 96).take 16 = [28, 2, 160, 0, 7, 29, 167, 0, 4, 2, 172] := by decide +kernel
theorem dX11_pairs_0 : decode cX11_pairs 0 = .ok (.aload_n 0, 1) := oq_42 (byt chX11_pairs_0 0 rfl)
theorem dX11_pairs_1 : decode cX11_pairs 1 = .ok (.iconst 0, 1) := oq_3 (byt chX11_pairs_0 1 rfl)
theorem dX11_pairs_2 : decode cX11_pairs 2 = .ok (.putfield 90, 3) := oq_181 (byt chX11_pairs_0 2 rfl) (byt chX11_pairs_0 3 rfl) (byt chX11_pairs_0 4 rfl) rfl
theorem dX11_pairs_5 : decode cX11_pairs 5 = .ok (.aload_n 0, 1) := oq_42 (byt chX11_pairs_0 5 rfl)
theorem dX11_pairs_6 : decode cX11_pairs 6 = .ok (.iload_n 1, 1) := oq_27 (byt chX11_pairs_0 6 rfl)
theorem dX11_pairs_7 : decode cX11_pairs 7 = .ok (.invokevirtual 287, 3) := oq_182 (byt chX11_pairs_0 7 rfl) (byt chX11_pairs_0 8 rfl) (byt chX11_pairs_0 9 rfl) rfl
theorem dX11_pairs_10 : decode cX11_pairs 10 = .ok (.ifCond .ne 5, 3) := oq_154 (byt chX11_pairs_0 10 rfl) (byt chX11_pairs_0 11 rfl) (byt chX11_pairs_0 12 rfl) (by decide +kernel)
theorem dX11_pairs_13 : decode cX11_pairs 13 = .ok (.iconst (-1), 1) := oq_2 (byt chX11_pairs_0 13 rfl)
theorem dX11_pairs_14 : decode cX11_pairs 14 = .ok (.ireturn, 1) := oq_172 (byt chX11_pairs_0 14 rfl)
theorem dX11_pairs_15 : decode cX11_pairs 15 = .ok (.iconst 0, 1) := oq_3 (byt chX11_pairs_0 15 rfl)
theorem dX11_pairs_16 : decode cX11_pairs 16 = .ok (.istore_n 3, 1) := oq_62 (byt chX11_pairs_1 0 rfl)
theorem dX11_pairs_17 : decode cX11_pairs 17 = .ok (.iconst 0, 1) := oq_3 (byt chX11_pairs_1 1 rfl)
theorem dX11_pairs_18 : decode cX11_pairs 18 = .ok (.istore 4, 2) := oq_54 (byt chX11_pairs_1 2 rfl) (byt chX11_pairs_1 3 rfl) rfl
theorem dX11_pairs_20 : decode cX11_pairs 20 = .ok (.iload 4, 2) := oq_21 (byt chX11_pairs_1 4 rfl) (byt chX11_pairs_1 5 rfl) rfl
theorem dX11_pairs_22 : decode cX11_pairs 22 = .ok (.bipush 36, 2) := oq_16 (byt chX11_pairs_1 6 rfl) (byt chX11_pairs_1 7 rfl) rfl
theorem dX11_pairs_24 : decode cX11_pairs 24 = .ok (.if_icmp .ge 72, 3) := oq_162 (byt chX11_pairs_1 8 rfl) (byt chX11_pairs_1 9 rfl) (byt chX11_pairs_1 10 rfl) (by decide +kernel)
theorem dX11_pairs_27 : decode cX11_pairs 27 = .ok (.iload 4, 2) := oq_21 (byt chX11_pairs_1 11 rfl) (byt chX11_pairs_1 12 rfl) rfl
theorem dX11_pairs_29 : decode cX11_pairs 29 = .ok (.bipush 6, 2) := oq_16 (byt chX11_pairs_1 13 rfl) (byt chX11_pairs_1 14 rfl) rfl
theorem dX11_pairs_31 : decode cX11_pairs 31 = .ok (.idiv, 1) := oq_108 (byt chX11_pairs_1 15 rfl)
theorem dX11_pairs_32 : decode cX11_pairs 32 = .ok (.istore 5, 2) := oq_54 (byt chX11_pairs_2 0 rfl) (byt chX11_pairs_2 1 rfl) rfl
theorem dX11_pairs_34 : decode cX11_pairs 34 = .ok (.iload 4, 2) := oq_21 (byt chX11_pairs_2 2 rfl) (byt chX11_pairs_2 3 rfl) rfl
theorem dX11_pairs_36 : decode cX11_pairs 36 = .ok (.bipush 6, 2) := oq_16 (byt chX11_pairs_2 4 rfl) (byt chX11_pairs_2 5 rfl) rfl
theorem dX11_pairs_38 : decode cX11_pairs 38 = .ok (.irem, 1) := oq_112 (byt chX11_pairs_2 6 rfl)
theorem dX11_pairs_39 : decode cX11_pairs 39 = .ok (.istore 6, 2) := oq_54 (byt chX11_pairs_2 7 rfl) (byt chX11_pairs_2 8 rfl) rfl
theorem dX11_pairs_41 : decode cX11_pairs 41 = .ok (.iload 5, 2) := oq_21 (byt chX11_pairs_2 9 rfl) (byt chX11_pairs_2 10 rfl) rfl
theorem dX11_pairs_43 : decode cX11_pairs 43 = .ok (.iload 6, 2) := oq_21 (byt chX11_pairs_2 11 rfl) (byt chX11_pairs_2 12 rfl) rfl
theorem dX11_pairs_45 : decode cX11_pairs 45 = .ok (.if_icmp .ge 45, 3) := oq_162 (byt chX11_pairs_2 13 rfl) (byt chX11_pairs_2 14 rfl) (byt chX11_pairs_2 15 rfl) (by decide +kernel)
theorem dX11_pairs_48 : decode cX11_pairs 48 = .ok (.iload 6, 2) := oq_21 (byt chX11_pairs_3 0 rfl) (byt chX11_pairs_3 1 rfl) rfl
theorem dX11_pairs_50 : decode cX11_pairs 50 = .ok (.aload_n 0, 1) := oq_42 (byt chX11_pairs_3 2 rfl)
theorem dX11_pairs_51 : decode cX11_pairs 51 = .ok (.getfield 281, 3) := oq_180 (byt chX11_pairs_3 3 rfl) (byt chX11_pairs_3 4 rfl) (byt chX11_pairs_3 5 rfl) rfl
theorem dX11_pairs_54 : decode cX11_pairs 54 = .ok (.if_icmp .ge 36, 3) := oq_162 (byt chX11_pairs_3 6 rfl) (byt chX11_pairs_3 7 rfl) (byt chX11_pairs_3 8 rfl) (by decide +kernel)
theorem dX11_pairs_57 : decode cX11_pairs 57 = .ok (.aload_n 0, 1) := oq_42 (byt chX11_pairs_3 9 rfl)
theorem dX11_pairs_58 : decode cX11_pairs 58 = .ok (.iload 5, 2) := oq_21 (byt chX11_pairs_3 10 rfl) (byt chX11_pairs_3 11 rfl) rfl
theorem dX11_pairs_60 : decode cX11_pairs 60 = .ok (.iload 6, 2) := oq_21 (byt chX11_pairs_3 12 rfl) (byt chX11_pairs_3 13 rfl) rfl
theorem dX11_pairs_62 : decode cX11_pairs 62 = .ok (.invokevirtual 527, 3) := oq_182 (byt chX11_pairs_3 14 rfl) (byt chX11_pairs_3 15 rfl) (byt chX11_pairs_4 0 rfl) rfl
theorem dX11_pairs_65 : decode cX11_pairs 65 = .ok (.ifCond .eq 25, 3) := oq_153 (byt chX11_pairs_4 1 rfl) (byt chX11_pairs_4 2 rfl) (byt chX11_pairs_4 3 rfl) (by decide +kernel)
theorem dX11_pairs_68 : decode cX11_pairs 68 = .ok (.aload_n 0, 1) := oq_42 (byt chX11_pairs_4 4 rfl)
theorem dX11_pairs_69 : decode cX11_pairs 69 = .ok (.iload 6, 2) := oq_21 (byt chX11_pairs_4 5 rfl) (byt chX11_pairs_4 6 rfl) rfl
theorem dX11_pairs_71 : decode cX11_pairs 71 = .ok (.iload 5, 2) := oq_21 (byt chX11_pairs_4 7 rfl) (byt chX11_pairs_4 8 rfl) rfl
theorem dX11_pairs_73 : decode cX11_pairs 73 = .ok (.invokevirtual 527, 3) := oq_182 (byt chX11_pairs_4 9 rfl) (byt chX11_pairs_4 10 rfl) (byt chX11_pairs_4 11 rfl) rfl
theorem dX11_pairs_76 : decode cX11_pairs 76 = .ok (.ifCond .eq 14, 3) := oq_153 (byt chX11_pairs_4 12 rfl) (byt chX11_pairs_4 13 rfl) (byt chX11_pairs_4 14 rfl) (by decide +kernel)
theorem dX11_pairs_79 : decode cX11_pairs 79 = .ok (.iload_n 3, 1) := oq_29 (byt chX11_pairs_4 15 rfl)
theorem dX11_pairs_80 : decode cX11_pairs 80 = .ok (.iload_n 2, 1) := oq_28 (byt chX11_pairs_5 0 rfl)
theorem dX11_pairs_81 : decode cX11_pairs 81 = .ok (.if_icmp .ne 6, 3) := oq_160 (byt chX11_pairs_5 1 rfl) (byt chX11_pairs_5 2 rfl) (byt chX11_pairs_5 3 rfl) (by decide +kernel)
theorem dX11_pairs_84 : decode cX11_pairs 84 = .ok (.iload 4, 2) := oq_21 (byt chX11_pairs_5 4 rfl) (byt chX11_pairs_5 5 rfl) rfl
theorem dX11_pairs_86 : decode cX11_pairs 86 = .ok (.ireturn, 1) := oq_172 (byt chX11_pairs_5 6 rfl)
theorem dX11_pairs_87 : decode cX11_pairs 87 = .ok (.iinc 3 1, 3) := oq_132 (byt chX11_pairs_5 7 rfl) (byt chX11_pairs_5 8 rfl) (byt chX11_pairs_5 9 rfl) rfl
theorem dX11_pairs_90 : decode cX11_pairs 90 = .ok (.iinc 4 1, 3) := oq_132 (byt chX11_pairs_5 10 rfl) (byt chX11_pairs_5 11 rfl) (byt chX11_pairs_5 12 rfl) rfl
theorem dX11_pairs_93 : decode cX11_pairs 93 = .ok (.goto (-73), 3) := oq_167 (byt chX11_pairs_5 13 rfl) (byt chX11_pairs_5 14 rfl) (byt chX11_pairs_5 15 rfl) (by decide +kernel)
theorem dX11_pairs_96 : decode cX11_pairs 96 = .ok (.iload_n 2, 1) := oq_28 (byt chX11_pairs_6 0 rfl)
theorem dX11_pairs_97 : decode cX11_pairs 97 = .ok (.iconst (-1), 1) := oq_2 (byt chX11_pairs_6 1 rfl)
theorem dX11_pairs_98 : decode cX11_pairs 98 = .ok (.if_icmp .ne 7, 3) := oq_160 (byt chX11_pairs_6 2 rfl) (byt chX11_pairs_6 3 rfl) (byt chX11_pairs_6 4 rfl) (by decide +kernel)
theorem dX11_pairs_101 : decode cX11_pairs 101 = .ok (.iload_n 3, 1) := oq_29 (byt chX11_pairs_6 5 rfl)
theorem dX11_pairs_102 : decode cX11_pairs 102 = .ok (.goto 4, 3) := oq_167 (byt chX11_pairs_6 6 rfl) (byt chX11_pairs_6 7 rfl) (byt chX11_pairs_6 8 rfl) (by decide +kernel)
theorem dX11_pairs_105 : decode cX11_pairs 105 = .ok (.iconst (-1), 1) := oq_2 (byt chX11_pairs_6 9 rfl)
theorem dX11_pairs_106 : decode cX11_pairs 106 = .ok (.ireturn, 1) := oq_172 (byt chX11_pairs_6 10 rfl)
abbrev mX11_pairs : MI := (yX11_pairs, cX11_pairs, 7, (some .int), noE)
theorem okX11_pairs : cok mX11_pairs 2 := ⟨tw1869, tw11, by decide, by decide, by decide, by decide +kernel⟩
def fX11_pairs (M : Mem) (a0 a1 a2 : Int) : Option (Int × Mem) :=
  if M.2.1 a0 = 10 then bM (mst M a0 0 0) fun M2 => (fX11_hand M2 a0 a1).bind fun r4 => if r4.1 = 0 then (some ((-1), r4.2)) else (iterC (fun (rec7 : (Int × Int) → Option (Int × Mem)) (s8 : Int × Int) => if s8.2 < 36 then (if w32 (s8.2.tdiv 6) < s8.2.tmod 6 then (if r4.2.2.1 a0 = 10 then if s8.2.tmod 6 < r4.2.1 a0 25 then ((fX11_helps r4.2 a0 (w32 (s8.2.tdiv 6)) (s8.2.tmod 6)).bind fun r13 => if r13 = 0 then (rec7 (s8.1, w32 (s8.2 + 1))) else ((fX11_helps r4.2 a0 (s8.2.tmod 6) (w32 (s8.2.tdiv 6))).bind fun r16 => if r16 = 0 then (rec7 (s8.1, w32 (s8.2 + 1))) else (if s8.1 = a2 then (some (s8.2, r4.2)) else (rec7 (w32 (s8.1 + 1), w32 (s8.2 + 1)))))) else (rec7 (s8.1, w32 (s8.2 + 1))) else none) else (rec7 (s8.1, w32 (s8.2 + 1)))) else (if a2 = (-1) then (some (s8.1, r4.2)) else (some ((-1), r4.2)))) BIG (0, 0)) else none
set_option maxRecDepth 100000 in
set_option maxHeartbeats 4000000 in
theorem kX11_pairs (d : Nat) (hd : 3 ≤ d) (M : Mem) (a0 a1 a2 : Int) : Ct mX11_pairs d 0 0 [pA a0, pI a1, pI a2] M dIM (fX11_pairs M a0 a1 a2) := by
  obtain ⟨d, rfl⟩ : ∃ k, d = k + 1 := ⟨d - 1, by omega⟩
  refine Ct.of 4 (fun _ _ _ => trivial) (by decide +kernel) rfl ?_
  unfold fX11_pairs
  refine v_aload_n dX11_pairs_0 rfl ?_
  refine v_iconst dX11_pairs_1 (by decide) ?_
  refine v_if (fun h1 => ?_)
  refine v_put (x := 0) 10 0 rfl inX11 (by decide) tw1193 (Or.inl rfl) rfl dX11_pairs_2 h1 rfl id ?_
  refine v_bM (fun M2 e3 => ?_)
  refine v_aload_n dX11_pairs_5 rfl ?_
  refine v_iload_n dX11_pairs_6 rfl ?_
  refine v_cV (mi := mX11_pairs) (c0 := 0) (c1 := 0) (As := [pI a1]) (st := []) (kX11_hand d (by omega) _ _ _) rfl (by rw [e3]; exact h1) rfl okX11_hand (Or.inl tw1500) tw1502 tp54 rfl (Nat.le_of_ble_eq_true rfl) dX11_pairs_7 (fun r4 => [pI r4.1]) (fun r4 => r4.2) (fun _ => rfl) (fun _ => rfl) (fun r4 h5 => ?_) rfl
  refine v_if_ne (tgt := 15) dX11_pairs_10 (by decide) (fun c6 => ?_) (fun c6 => ?_)
  · refine v_iconst dX11_pairs_13 (by decide) ?_
    exact v_ireturn dX11_pairs_14 rfl rfl
  · refine v_iconst dX11_pairs_15 (by decide) ?_
    refine v_istore_n (ls' := [some (pA a0), some (pI a1), some (pI a2), some (pI 0), none, none, none]) dX11_pairs_16 (by decide) rfl ?_
    refine v_iconst dX11_pairs_17 (by decide) ?_
    refine v_istore (ls' := [some (pA a0), some (pI a1), some (pI a2), some (pI 0), some (pI 0), none, none]) dX11_pairs_18 (by decide) rfl ?_
    refine v_drop [some (pA a0), none, some (pI a2), some (pI 0), some (pI 0), none, none] (ls_s (ls_n (ls_s (ls_s (ls_s (ls_n (ls_n ls_e))))))) ?_
    refine v_loop (fun (s8 : Int × Int) => [some (pA a0), none, some (pI a2), some (pI s8.1), some (pI s8.2), none, none]) (fun (s8 : Int × Int) => r4.2) (s0 := (0, 0)) ?_
    intro rec7 hrec7 s8
    refine v_iload dX11_pairs_20 rfl ?_
    refine v_bipush dX11_pairs_22 (by decide) ?_
    refine v_icmp_ge (tgt := 96) dX11_pairs_24 (by decide) (fun c9 => ?_) (fun c9 => ?_)
    · refine v_iload dX11_pairs_27 rfl ?_
      refine v_bipush dX11_pairs_29 (by decide) ?_
      refine v_idiv (by decide) dX11_pairs_31 ?_
      refine v_istore (ls' := [some (pA a0), none, some (pI a2), some (pI s8.1), some (pI s8.2), some (pI (w32 (s8.2.tdiv 6))), none]) dX11_pairs_32 (by decide) rfl ?_
      refine v_iload dX11_pairs_34 rfl ?_
      refine v_bipush dX11_pairs_36 (by decide) ?_
      refine v_irem (by decide) dX11_pairs_38 ?_
      refine v_istore (ls' := [some (pA a0), none, some (pI a2), some (pI s8.1), some (pI s8.2), some (pI (w32 (s8.2.tdiv 6))), some (pI (s8.2.tmod 6))]) dX11_pairs_39 (by decide) rfl ?_
      refine v_iload dX11_pairs_41 rfl ?_
      refine v_iload dX11_pairs_43 rfl ?_
      refine v_icmp_ge (tgt := 90) dX11_pairs_45 (by decide) (fun c10 => ?_) (fun c10 => ?_)
      · refine v_iload dX11_pairs_48 rfl ?_
        refine v_aload_n dX11_pairs_50 rfl ?_
        refine v_if (fun h11 => ?_)
        refine v_get (v := pI (r4.2.1 a0 25)) 10 25 rfl inX11 (by decide) tw1218 dX11_pairs_51 h11 rfl ?_
        refine v_icmp_ge (tgt := 90) dX11_pairs_54 (by decide) (fun c12 => ?_) (fun c12 => ?_)
        · refine v_aload_n dX11_pairs_57 rfl ?_
          refine v_iload dX11_pairs_58 rfl ?_
          refine v_iload dX11_pairs_60 rfl ?_
          refine v_cV (mi := mX11_pairs) (c0 := 0) (c1 := 0) (As := [pI (w32 (s8.2.tdiv 6)), pI (s8.2.tmod 6)]) (st := []) (kX11_helps d (by omega) _ _ _ _) rfl h11 rfl okX11_helps (Or.inl tw1870) tw1872 tp115 rfl (Nat.le_of_ble_eq_true rfl) dX11_pairs_62 (fun r13 => [pI r13]) (fun r13 => r4.2) (fun _ => rfl) (fun _ => rfl) (fun r13 h14 => ?_) rfl
          refine v_if_eq (tgt := 90) dX11_pairs_65 (by decide) (fun c15 => ?_) (fun c15 => ?_)
          · refine v_iinc (ls' := [some (pA a0), none, some (pI a2), some (pI s8.1), some (pI (w32 (s8.2 + 1))), some (pI (w32 (s8.2.tdiv 6))), some (pI (s8.2.tmod 6))]) dX11_pairs_90 (by decide) rfl rfl ?_
            refine v_goto (tgt := 20) dX11_pairs_93 (by decide) ?_
            exact v_drop [some (pA a0), none, some (pI a2), some (pI s8.1), some (pI (w32 (s8.2 + 1))), none, none] (ls_s (ls_n (ls_s (ls_s (ls_s (ls_n (ls_n ls_e))))))) (hrec7 (s8.1, w32 (s8.2 + 1)))
          · refine v_aload_n dX11_pairs_68 rfl ?_
            refine v_iload dX11_pairs_69 rfl ?_
            refine v_iload dX11_pairs_71 rfl ?_
            refine v_cV (mi := mX11_pairs) (c0 := 0) (c1 := 0) (As := [pI (s8.2.tmod 6), pI (w32 (s8.2.tdiv 6))]) (st := []) (kX11_helps d (by omega) _ _ _ _) rfl h11 rfl okX11_helps (Or.inl tw1870) tw1872 tp115 rfl (Nat.le_of_ble_eq_true rfl) dX11_pairs_73 (fun r16 => [pI r16]) (fun r16 => r4.2) (fun _ => rfl) (fun _ => rfl) (fun r16 h17 => ?_) rfl
            refine v_if_eq (tgt := 90) dX11_pairs_76 (by decide) (fun c18 => ?_) (fun c18 => ?_)
            · refine v_iinc (ls' := [some (pA a0), none, some (pI a2), some (pI s8.1), some (pI (w32 (s8.2 + 1))), some (pI (w32 (s8.2.tdiv 6))), some (pI (s8.2.tmod 6))]) dX11_pairs_90 (by decide) rfl rfl ?_
              refine v_goto (tgt := 20) dX11_pairs_93 (by decide) ?_
              exact v_drop [some (pA a0), none, some (pI a2), some (pI s8.1), some (pI (w32 (s8.2 + 1))), none, none] (ls_s (ls_n (ls_s (ls_s (ls_s (ls_n (ls_n ls_e))))))) (hrec7 (s8.1, w32 (s8.2 + 1)))
            · refine v_iload_n dX11_pairs_79 rfl ?_
              refine v_iload_n dX11_pairs_80 rfl ?_
              refine v_icmp_ne (tgt := 87) dX11_pairs_81 (by decide) (fun c19 => ?_) (fun c19 => ?_)
              · refine v_iload dX11_pairs_84 rfl ?_
                exact v_ireturn dX11_pairs_86 rfl rfl
              · refine v_iinc (ls' := [some (pA a0), none, some (pI a2), some (pI (w32 (s8.1 + 1))), some (pI s8.2), some (pI (w32 (s8.2.tdiv 6))), some (pI (s8.2.tmod 6))]) dX11_pairs_87 (by decide) rfl rfl ?_
                refine v_iinc (ls' := [some (pA a0), none, some (pI a2), some (pI (w32 (s8.1 + 1))), some (pI (w32 (s8.2 + 1))), some (pI (w32 (s8.2.tdiv 6))), some (pI (s8.2.tmod 6))]) dX11_pairs_90 (by decide) rfl rfl ?_
                refine v_goto (tgt := 20) dX11_pairs_93 (by decide) ?_
                exact v_drop [some (pA a0), none, some (pI a2), some (pI (w32 (s8.1 + 1))), some (pI (w32 (s8.2 + 1))), none, none] (ls_s (ls_n (ls_s (ls_s (ls_s (ls_n (ls_n ls_e))))))) (hrec7 (w32 (s8.1 + 1), w32 (s8.2 + 1)))
        · refine v_iinc (ls' := [some (pA a0), none, some (pI a2), some (pI s8.1), some (pI (w32 (s8.2 + 1))), some (pI (w32 (s8.2.tdiv 6))), some (pI (s8.2.tmod 6))]) dX11_pairs_90 (by decide) rfl rfl ?_
          refine v_goto (tgt := 20) dX11_pairs_93 (by decide) ?_
          exact v_drop [some (pA a0), none, some (pI a2), some (pI s8.1), some (pI (w32 (s8.2 + 1))), none, none] (ls_s (ls_n (ls_s (ls_s (ls_s (ls_n (ls_n ls_e))))))) (hrec7 (s8.1, w32 (s8.2 + 1)))
      · refine v_iinc (ls' := [some (pA a0), none, some (pI a2), some (pI s8.1), some (pI (w32 (s8.2 + 1))), some (pI (w32 (s8.2.tdiv 6))), some (pI (s8.2.tmod 6))]) dX11_pairs_90 (by decide) rfl rfl ?_
        refine v_goto (tgt := 20) dX11_pairs_93 (by decide) ?_
        exact v_drop [some (pA a0), none, some (pI a2), some (pI s8.1), some (pI (w32 (s8.2 + 1))), none, none] (ls_s (ls_n (ls_s (ls_s (ls_s (ls_n (ls_n ls_e))))))) (hrec7 (s8.1, w32 (s8.2 + 1)))
    · refine v_iload_n dX11_pairs_96 rfl ?_
      refine v_iconst dX11_pairs_97 (by decide) ?_
      refine v_icmp_ne (tgt := 105) dX11_pairs_98 (by decide) (fun c20 => ?_) (fun c20 => ?_)
      · refine v_iload_n dX11_pairs_101 rfl ?_
        refine v_goto (tgt := 106) dX11_pairs_102 (by decide) ?_
        exact v_ireturn dX11_pairs_106 rfl rfl
      · refine v_iconst dX11_pairs_105 (by decide) ?_
        exact v_ireturn dX11_pairs_106 rfl rfl
theorem chX11_count_0 : (cX11_count.data.toList.drop 0).take 16 = [42, 3, 181, 0, 90, 27, 3, 6, 184, 0, 98, 153, 0, 12, 42, 180] := by decide +kernel
theorem chX11_count_1 : (cX11_count.data.toList.drop 16).take 16 = [0, 23, 27, 46, 167, 0, 5, 16, 254, 172] := by decide +kernel
theorem dX11_count_0 : decode cX11_count 0 = .ok (.aload_n 0, 1) := oq_42 (byt chX11_count_0 0 rfl)
theorem dX11_count_1 : decode cX11_count 1 = .ok (.iconst 0, 1) := oq_3 (byt chX11_count_0 1 rfl)
theorem dX11_count_2 : decode cX11_count 2 = .ok (.putfield 90, 3) := oq_181 (byt chX11_count_0 2 rfl) (byt chX11_count_0 3 rfl) (byt chX11_count_0 4 rfl) rfl
theorem dX11_count_5 : decode cX11_count 5 = .ok (.iload_n 1, 1) := oq_27 (byt chX11_count_0 5 rfl)
theorem dX11_count_6 : decode cX11_count 6 = .ok (.iconst 0, 1) := oq_3 (byt chX11_count_0 6 rfl)
theorem dX11_count_7 : decode cX11_count 7 = .ok (.iconst 3, 1) := oq_6 (byt chX11_count_0 7 rfl)
theorem dX11_count_8 : decode cX11_count 8 = .ok (.invokestatic 98, 3) := oq_184 (byt chX11_count_0 8 rfl) (byt chX11_count_0 9 rfl) (byt chX11_count_0 10 rfl) rfl
theorem dX11_count_11 : decode cX11_count 11 = .ok (.ifCond .eq 12, 3) := oq_153 (byt chX11_count_0 11 rfl) (byt chX11_count_0 12 rfl) (byt chX11_count_0 13 rfl) (by decide +kernel)
theorem dX11_count_14 : decode cX11_count 14 = .ok (.aload_n 0, 1) := oq_42 (byt chX11_count_0 14 rfl)
theorem dX11_count_15 : decode cX11_count 15 = .ok (.getfield 23, 3) := oq_180 (byt chX11_count_0 15 rfl) (byt chX11_count_1 0 rfl) (byt chX11_count_1 1 rfl) rfl
theorem dX11_count_18 : decode cX11_count 18 = .ok (.iload_n 1, 1) := oq_27 (byt chX11_count_1 2 rfl)
theorem dX11_count_19 : decode cX11_count 19 = .ok (.iaload, 1) := oq_46 (byt chX11_count_1 3 rfl)
theorem dX11_count_20 : decode cX11_count 20 = .ok (.goto 5, 3) := oq_167 (byt chX11_count_1 4 rfl) (byt chX11_count_1 5 rfl) (byt chX11_count_1 6 rfl) (by decide +kernel)
theorem dX11_count_23 : decode cX11_count 23 = .ok (.bipush (-2), 2) := oq_16 (byt chX11_count_1 7 rfl) (byt chX11_count_1 8 rfl) rfl
theorem dX11_count_25 : decode cX11_count 25 = .ok (.ireturn, 1) := oq_172 (byt chX11_count_1 9 rfl)
abbrev mX11_count : MI := (yX11_count, cX11_count, 2, (some .int), noE)
theorem okX11_count : cok mX11_count 1 := ⟨tw1877, tw11, by decide, by decide, by decide, by decide +kernel⟩
def fX11_count (M : Mem) (a0 a1 : Int) : Option (Int × Mem) :=
  if M.2.1 a0 = 10 then bM (mst M a0 0 0) fun M2 => (fX11_in M2 a1 0 3).bind fun r4 => if r4 = 0 then (some ((-2), M2)) else (if M2.2.1 (M2.1 a0 5) = 12 ∧ (0 : Int) ≤ a1 ∧ a1 < M2.2.2.1 (M2.1 a0 5) then some (M2.1 (M2.1 a0 5) a1, M2) else none) else none
set_option maxRecDepth 100000 in
set_option maxHeartbeats 4000000 in
theorem kX11_count (d : Nat) (hd : 1 ≤ d) (M : Mem) (a0 a1 : Int) : Ct mX11_count d 0 0 [pA a0, pI a1] M dIM (fX11_count M a0 a1) := by
  obtain ⟨d, rfl⟩ : ∃ k, d = k + 1 := ⟨d - 1, by omega⟩
  refine Ct.of 0 (fun _ _ _ => trivial) (by decide +kernel) rfl ?_
  unfold fX11_count
  refine v_aload_n dX11_count_0 rfl ?_
  refine v_iconst dX11_count_1 (by decide) ?_
  refine v_if (fun h1 => ?_)
  refine v_put (x := 0) 10 0 rfl inX11 (by decide) tw1193 (Or.inl rfl) rfl dX11_count_2 h1 rfl id ?_
  refine v_bM (fun M2 e3 => ?_)
  refine v_iload_n dX11_count_5 rfl ?_
  refine v_iconst dX11_count_6 (by decide) ?_
  refine v_iconst dX11_count_7 (by decide) ?_
  refine v_cS (mi := mX11_count) (c0 := 0) (c1 := 0) (As := [pI a1, pI 0, pI 3]) (st := []) (kX11_in d (by omega) _ _ _ _) okX11_in (Or.inl tw1360) tw1361 rfl (Nat.le_of_ble_eq_true rfl) dX11_count_8 (fun r4 => [pI r4]) (fun r4 => M2) (fun _ => rfl) (fun _ => rfl) (fun r4 h5 => ?_) rfl
  refine v_if_eq (tgt := 23) dX11_count_11 (by decide) (fun c6 => ?_) (fun c6 => ?_)
  · refine v_bipush dX11_count_23 (by decide) ?_
    exact v_ireturn dX11_count_25 rfl rfl
  · refine v_aload_n dX11_count_14 rfl ?_
    refine v_get (v := pA (M2.1 a0 5)) 10 5 rfl inX11 (by decide) tw1198 dX11_count_15 (by rw [e3]; exact h1) rfl ?_
    refine v_iload_n dX11_count_18 rfl ?_
    refine v_if (fun h7 => ?_)
    refine v_iaload h7 dX11_count_19 ?_
    refine v_goto (tgt := 25) dX11_count_20 (by decide) ?_
    exact v_ireturn dX11_count_25 rfl rfl
theorem chX11_image_0 : (cX11_image.data.toList.drop 0).take 16 = [42, 3, 181, 0, 90, 27, 3, 5, 184, 0, 98, 154, 0, 5, 3, 172] := by decide +kernel
theorem chX11_image_1 : (cX11_image.data.toList.drop 16).take 16 = [42, 3, 27, 4, 96, 182, 2, 18, 42, 180, 0, 86, 27, 4, 84, 4] := by decide +kernel
theorem chX11_image_2 : (cX11_image.data.toList.drop 32).take 16 = [172] := by decide +kernel
theorem dX11_image_0 : decode cX11_image 0 = .ok (.aload_n 0, 1) := oq_42 (byt chX11_image_0 0 rfl)
theorem dX11_image_1 : decode cX11_image 1 = .ok (.iconst 0, 1) := oq_3 (byt chX11_image_0 1 rfl)
theorem dX11_image_2 : decode cX11_image 2 = .ok (.putfield 90, 3) := oq_181 (byt chX11_image_0 2 rfl) (byt chX11_image_0 3 rfl) (byt chX11_image_0 4 rfl) rfl
theorem dX11_image_5 : decode cX11_image 5 = .ok (.iload_n 1, 1) := oq_27 (byt chX11_image_0 5 rfl)
theorem dX11_image_6 : decode cX11_image 6 = .ok (.iconst 0, 1) := oq_3 (byt chX11_image_0 6 rfl)
theorem dX11_image_7 : decode cX11_image 7 = .ok (.iconst 2, 1) := oq_5 (byt chX11_image_0 7 rfl)
theorem dX11_image_8 : decode cX11_image 8 = .ok (.invokestatic 98, 3) := oq_184 (byt chX11_image_0 8 rfl) (byt chX11_image_0 9 rfl) (byt chX11_image_0 10 rfl) rfl
theorem dX11_image_11 : decode cX11_image 11 = .ok (.ifCond .ne 5, 3) := oq_154 (byt chX11_image_0 11 rfl) (byt chX11_image_0 12 rfl) (byt chX11_image_0 13 rfl) (by decide +kernel)
theorem dX11_image_14 : decode cX11_image 14 = .ok (.iconst 0, 1) := oq_3 (byt chX11_image_0 14 rfl)
theorem dX11_image_15 : decode cX11_image 15 = .ok (.ireturn, 1) := oq_172 (byt chX11_image_0 15 rfl)
theorem dX11_image_16 : decode cX11_image 16 = .ok (.aload_n 0, 1) := oq_42 (byt chX11_image_1 0 rfl)
theorem dX11_image_17 : decode cX11_image 17 = .ok (.iconst 0, 1) := oq_3 (byt chX11_image_1 1 rfl)
theorem dX11_image_18 : decode cX11_image 18 = .ok (.iload_n 1, 1) := oq_27 (byt chX11_image_1 2 rfl)
theorem dX11_image_19 : decode cX11_image 19 = .ok (.iconst 1, 1) := oq_4 (byt chX11_image_1 3 rfl)
theorem dX11_image_20 : decode cX11_image 20 = .ok (.iadd, 1) := oq_96 (byt chX11_image_1 4 rfl)
theorem dX11_image_21 : decode cX11_image 21 = .ok (.invokevirtual 530, 3) := oq_182 (byt chX11_image_1 5 rfl) (byt chX11_image_1 6 rfl) (byt chX11_image_1 7 rfl) rfl
theorem dX11_image_24 : decode cX11_image 24 = .ok (.aload_n 0, 1) := oq_42 (byt chX11_image_1 8 rfl)
theorem dX11_image_25 : decode cX11_image 25 = .ok (.getfield 86, 3) := oq_180 (byt chX11_image_1 9 rfl) (byt chX11_image_1 10 rfl) (byt chX11_image_1 11 rfl) rfl
theorem dX11_image_28 : decode cX11_image 28 = .ok (.iload_n 1, 1) := oq_27 (byt chX11_image_1 12 rfl)
theorem dX11_image_29 : decode cX11_image 29 = .ok (.iconst 1, 1) := oq_4 (byt chX11_image_1 13 rfl)
theorem dX11_image_30 : decode cX11_image 30 = .ok (.bastore, 1) := oq_84 (byt chX11_image_1 14 rfl)
theorem dX11_image_31 : decode cX11_image 31 = .ok (.iconst 1, 1) := oq_4 (byt chX11_image_1 15 rfl)
theorem dX11_image_32 : decode cX11_image 32 = .ok (.ireturn, 1) := oq_172 (byt chX11_image_2 0 rfl)
abbrev mX11_image : MI := (yX11_image, cX11_image, 2, (some .boolean), noE)
theorem okX11_image : cok mX11_image 1 := ⟨tw1881, tw11, by decide, by decide, by decide, by decide +kernel⟩
def fX11_image (M : Mem) (a0 a1 : Int) : Option (Int × Mem) :=
  if M.2.1 a0 = 10 then bM (mst M a0 0 0) fun M2 => (fX11_in M2 a1 0 2).bind fun r4 => if r4 = 0 then (some (0, M2)) else ((fX11_copyAll M2 a0 0 (w32 (a1 + 1))).bind fun r7 => if r7.2.1 a0 = 10 then if r7.2.1 (r7.1 a0 50) = 13 ∧ (0 : Int) ≤ a1 ∧ a1 < r7.2.2.1 (r7.1 a0 50) then bM (mst r7 (r7.1 a0 50) a1 1) fun M11 => some (1, M11) else none else none) else none
set_option maxRecDepth 100000 in
set_option maxHeartbeats 4000000 in
theorem kX11_image (d : Nat) (hd : 2 ≤ d) (M : Mem) (a0 a1 : Int) : Ct mX11_image d 0 0 [pA a0, pI a1] M dIM (fX11_image M a0 a1) := by
  obtain ⟨d, rfl⟩ : ∃ k, d = k + 1 := ⟨d - 1, by omega⟩
  refine Ct.of 0 (fun _ _ _ => trivial) (by decide +kernel) rfl ?_
  unfold fX11_image
  refine v_aload_n dX11_image_0 rfl ?_
  refine v_iconst dX11_image_1 (by decide) ?_
  refine v_if (fun h1 => ?_)
  refine v_put (x := 0) 10 0 rfl inX11 (by decide) tw1193 (Or.inl rfl) rfl dX11_image_2 h1 rfl id ?_
  refine v_bM (fun M2 e3 => ?_)
  refine v_iload_n dX11_image_5 rfl ?_
  refine v_iconst dX11_image_6 (by decide) ?_
  refine v_iconst dX11_image_7 (by decide) ?_
  refine v_cS (mi := mX11_image) (c0 := 0) (c1 := 0) (As := [pI a1, pI 0, pI 2]) (st := []) (kX11_in d (by omega) _ _ _ _) okX11_in (Or.inl tw1360) tw1361 rfl (Nat.le_of_ble_eq_true rfl) dX11_image_8 (fun r4 => [pI r4]) (fun r4 => M2) (fun _ => rfl) (fun _ => rfl) (fun r4 h5 => ?_) rfl
  refine v_if_ne (tgt := 16) dX11_image_11 (by decide) (fun c6 => ?_) (fun c6 => ?_)
  · refine v_iconst dX11_image_14 (by decide) ?_
    exact v_breturn dX11_image_15 rfl (by decide) rfl
  · refine v_aload_n dX11_image_16 rfl ?_
    refine v_iconst dX11_image_17 (by decide) ?_
    refine v_iload_n dX11_image_18 rfl ?_
    refine v_iconst dX11_image_19 (by decide) ?_
    refine v_iadd dX11_image_20 ?_
    refine v_cV (mi := mX11_image) (c0 := 0) (c1 := 0) (As := [pI 0, pI (w32 (a1 + 1))]) (st := []) (kX11_copyAll d (by omega) _ _ _ _) rfl (by rw [e3]; exact h1) rfl okX11_copyAll (Or.inl tw1882) tw1884 tp116 rfl (Nat.le_of_ble_eq_true rfl) dX11_image_21 (fun r7 => []) (fun r7 => r7) (fun _ => rfl) (fun _ => rfl) (fun r7 h8 => ?_) rfl
    refine v_aload_n dX11_image_24 rfl ?_
    refine v_if (fun h9 => ?_)
    refine v_get (v := pA (r7.1 a0 50)) 10 50 rfl inX11 (by decide) tw1243 dX11_image_25 h9 rfl ?_
    refine v_iload_n dX11_image_28 rfl ?_
    refine v_iconst dX11_image_29 (by decide) ?_
    refine v_if (fun h10 => ?_)
    refine v_zastore h10 (by decide) dX11_image_30 ?_
    refine v_bM (fun M11 e12 => ?_)
    refine v_iconst dX11_image_31 (by decide) ?_
    exact v_breturn dX11_image_32 rfl (by decide) rfl
theorem chX11_again_0 : (cX11_again.data.toList.drop 0).take 16 = [42, 3, 181, 0, 90, 27, 3, 5, 184, 0, 98, 153, 0, 12, 42, 180] := by decide +kernel
theorem chX11_again_1 : (cX11_again.data.toList.drop 16).take 16 = [0, 86, 27, 51, 154, 0, 5, 3, 172, 42, 27, 4, 96, 3, 182, 2] := by decide +kernel
theorem chX11_again_2 : (cX11_again.data.toList.drop 32).take 16 = [18, 4, 172] := by decide +kernel
theorem dX11_again_0 : decode cX11_again 0 = .ok (.aload_n 0, 1) := oq_42 (byt chX11_again_0 0 rfl)
theorem dX11_again_1 : decode cX11_again 1 = .ok (.iconst 0, 1) := oq_3 (byt chX11_again_0 1 rfl)
theorem dX11_again_2 : decode cX11_again 2 = .ok (.putfield 90, 3) := oq_181 (byt chX11_again_0 2 rfl) (byt chX11_again_0 3 rfl) (byt chX11_again_0 4 rfl) rfl
theorem dX11_again_5 : decode cX11_again 5 = .ok (.iload_n 1, 1) := oq_27 (byt chX11_again_0 5 rfl)
theorem dX11_again_6 : decode cX11_again 6 = .ok (.iconst 0, 1) := oq_3 (byt chX11_again_0 6 rfl)
theorem dX11_again_7 : decode cX11_again 7 = .ok (.iconst 2, 1) := oq_5 (byt chX11_again_0 7 rfl)
theorem dX11_again_8 : decode cX11_again 8 = .ok (.invokestatic 98, 3) := oq_184 (byt chX11_again_0 8 rfl) (byt chX11_again_0 9 rfl) (byt chX11_again_0 10 rfl) rfl
theorem dX11_again_11 : decode cX11_again 11 = .ok (.ifCond .eq 12, 3) := oq_153 (byt chX11_again_0 11 rfl) (byt chX11_again_0 12 rfl) (byt chX11_again_0 13 rfl) (by decide +kernel)
theorem dX11_again_14 : decode cX11_again 14 = .ok (.aload_n 0, 1) := oq_42 (byt chX11_again_0 14 rfl)
theorem dX11_again_15 : decode cX11_again 15 = .ok (.getfield 86, 3) := oq_180 (byt chX11_again_0 15 rfl) (byt chX11_again_1 0 rfl) (byt chX11_again_1 1 rfl) rfl
theorem dX11_again_18 : decode cX11_again 18 = .ok (.iload_n 1, 1) := oq_27 (byt chX11_again_1 2 rfl)
theorem dX11_again_19 : decode cX11_again 19 = .ok (.baload, 1) := oq_51 (byt chX11_again_1 3 rfl)
theorem dX11_again_20 : decode cX11_again 20 = .ok (.ifCond .ne 5, 3) := oq_154 (byt chX11_again_1 4 rfl) (byt chX11_again_1 5 rfl) (byt chX11_again_1 6 rfl) (by decide +kernel)
theorem dX11_again_23 : decode cX11_again 23 = .ok (.iconst 0, 1) := oq_3 (byt chX11_again_1 7 rfl)
theorem dX11_again_24 : decode cX11_again 24 = .ok (.ireturn, 1) := oq_172 (byt chX11_again_1 8 rfl)
theorem dX11_again_25 : decode cX11_again 25 = .ok (.aload_n 0, 1) := oq_42 (byt chX11_again_1 9 rfl)
theorem dX11_again_26 : decode cX11_again 26 = .ok (.iload_n 1, 1) := oq_27 (byt chX11_again_1 10 rfl)
theorem dX11_again_27 : decode cX11_again 27 = .ok (.iconst 1, 1) := oq_4 (byt chX11_again_1 11 rfl)
theorem dX11_again_28 : decode cX11_again 28 = .ok (.iadd, 1) := oq_96 (byt chX11_again_1 12 rfl)
theorem dX11_again_29 : decode cX11_again 29 = .ok (.iconst 0, 1) := oq_3 (byt chX11_again_1 13 rfl)
theorem dX11_again_30 : decode cX11_again 30 = .ok (.invokevirtual 530, 3) := oq_182 (byt chX11_again_1 14 rfl) (byt chX11_again_1 15 rfl) (byt chX11_again_2 0 rfl) rfl
theorem dX11_again_33 : decode cX11_again 33 = .ok (.iconst 1, 1) := oq_4 (byt chX11_again_2 1 rfl)
theorem dX11_again_34 : decode cX11_again 34 = .ok (.ireturn, 1) := oq_172 (byt chX11_again_2 2 rfl)
abbrev mX11_again : MI := (yX11_again, cX11_again, 2, (some .boolean), noE)
theorem okX11_again : cok mX11_again 1 := ⟨tw1892, tw11, by decide, by decide, by decide, by decide +kernel⟩
def fX11_again (M : Mem) (a0 a1 : Int) : Option (Int × Mem) :=
  if M.2.1 a0 = 10 then bM (mst M a0 0 0) fun M2 => (fX11_in M2 a1 0 2).bind fun r4 => if r4 = 0 then (some (0, M2)) else (if (M2.2.1 (M2.1 a0 50) = 11 ∨ M2.2.1 (M2.1 a0 50) = 13) ∧ (0 : Int) ≤ a1 ∧ a1 < M2.2.2.1 (M2.1 a0 50) then if M2.1 (M2.1 a0 50) a1 = 0 then (some (0, M2)) else ((fX11_copyAll M2 a0 (w32 (a1 + 1)) 0).bind fun r9 => some (1, r9)) else none) else none
set_option maxRecDepth 100000 in
set_option maxHeartbeats 4000000 in
theorem kX11_again (d : Nat) (hd : 2 ≤ d) (M : Mem) (a0 a1 : Int) : Ct mX11_again d 0 0 [pA a0, pI a1] M dIM (fX11_again M a0 a1) := by
  obtain ⟨d, rfl⟩ : ∃ k, d = k + 1 := ⟨d - 1, by omega⟩
  refine Ct.of 0 (fun _ _ _ => trivial) (by decide +kernel) rfl ?_
  unfold fX11_again
  refine v_aload_n dX11_again_0 rfl ?_
  refine v_iconst dX11_again_1 (by decide) ?_
  refine v_if (fun h1 => ?_)
  refine v_put (x := 0) 10 0 rfl inX11 (by decide) tw1193 (Or.inl rfl) rfl dX11_again_2 h1 rfl id ?_
  refine v_bM (fun M2 e3 => ?_)
  refine v_iload_n dX11_again_5 rfl ?_
  refine v_iconst dX11_again_6 (by decide) ?_
  refine v_iconst dX11_again_7 (by decide) ?_
  refine v_cS (mi := mX11_again) (c0 := 0) (c1 := 0) (As := [pI a1, pI 0, pI 2]) (st := []) (kX11_in d (by omega) _ _ _ _) okX11_in (Or.inl tw1360) tw1361 rfl (Nat.le_of_ble_eq_true rfl) dX11_again_8 (fun r4 => [pI r4]) (fun r4 => M2) (fun _ => rfl) (fun _ => rfl) (fun r4 h5 => ?_) rfl
  refine v_if_eq (tgt := 23) dX11_again_11 (by decide) (fun c6 => ?_) (fun c6 => ?_)
  · refine v_iconst dX11_again_23 (by decide) ?_
    exact v_breturn dX11_again_24 rfl (by decide) rfl
  · refine v_aload_n dX11_again_14 rfl ?_
    refine v_get (v := pA (M2.1 a0 50)) 10 50 rfl inX11 (by decide) tw1243 dX11_again_15 (by rw [e3]; exact h1) rfl ?_
    refine v_iload_n dX11_again_18 rfl ?_
    refine v_if (fun h7 => ?_)
    refine v_baload h7 dX11_again_19 ?_
    refine v_if_ne (tgt := 25) dX11_again_20 (by decide) (fun c8 => ?_) (fun c8 => ?_)
    · refine v_iconst dX11_again_23 (by decide) ?_
      exact v_breturn dX11_again_24 rfl (by decide) rfl
    · refine v_aload_n dX11_again_25 rfl ?_
      refine v_iload_n dX11_again_26 rfl ?_
      refine v_iconst dX11_again_27 (by decide) ?_
      refine v_iadd dX11_again_28 ?_
      refine v_iconst dX11_again_29 (by decide) ?_
      refine v_cV (mi := mX11_again) (c0 := 0) (c1 := 0) (As := [pI (w32 (a1 + 1)), pI 0]) (st := []) (kX11_copyAll d (by omega) _ _ _ _) rfl (by rw [e3]; exact h1) rfl okX11_copyAll (Or.inl tw1882) tw1884 tp116 rfl (Nat.le_of_ble_eq_true rfl) dX11_again_30 (fun r9 => []) (fun r9 => r9) (fun _ => rfl) (fun _ => rfl) (fun r9 h10 => ?_) rfl
      refine v_iconst dX11_again_33 (by decide) ?_
      exact v_breturn dX11_again_34 rfl (by decide) rfl
