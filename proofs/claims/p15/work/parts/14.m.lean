theorem chX9_act_0 : (cX9_act.data.toList.drop 0).take 16 = [43, 180, 0, 92, 28, 46, 62, 43, 180, 0, 95, 28, 46, 54, 4, 43] := by decide +kernel
theorem chX9_act_1 : (cX9_act.data.toList.drop 16).take 16 = [180, 0, 98, 28, 46, 54, 5, 43, 180, 0, 101, 28, 46, 170, 0, 0] := by decide +kernel
theorem chX9_act_3 : (cX9_act.data.toList.drop 48).take 16 = [0, 0, 0, 37, 0, 0, 0, 47, 42, 29, 21, 4, 21, 5, 182, 0] := by decide +kernel
theorem chX9_act_4 : (cX9_act.data.toList.drop 64).take 16 = [104, 172, 42, 29, 21, 4, 21, 5, 182, 0, 108, 172, 42, 29, 21, 4] := by decide +kernel
theorem chX9_act_5 : (cX9_act.data.toList.drop 80).take 16 = [21, 5, 182, 0, 111, 172, 42, 182, 0, 114, 4, 172] := by decide +kernel
theorem dX9_act_0 : decode cX9_act 0 = .ok (.aload_n 1, 1) := oq_43 (byt chX9_act_0 0 rfl)
theorem dX9_act_1 : decode cX9_act 1 = .ok (.getfield 92, 3) := oq_180 (byt chX9_act_0 1 rfl) (byt chX9_act_0 2 rfl) (byt chX9_act_0 3 rfl) rfl
theorem dX9_act_4 : decode cX9_act 4 = .ok (.iload_n 2, 1) := oq_28 (byt chX9_act_0 4 rfl)
theorem dX9_act_5 : decode cX9_act 5 = .ok (.iaload, 1) := oq_46 (byt chX9_act_0 5 rfl)
theorem dX9_act_6 : decode cX9_act 6 = .ok (.istore_n 3, 1) := oq_62 (byt chX9_act_0 6 rfl)
theorem dX9_act_7 : decode cX9_act 7 = .ok (.aload_n 1, 1) := oq_43 (byt chX9_act_0 7 rfl)
theorem dX9_act_8 : decode cX9_act 8 = .ok (.getfield 95, 3) := oq_180 (byt chX9_act_0 8 rfl) (byt chX9_act_0 9 rfl) (byt chX9_act_0 10 rfl) rfl
theorem dX9_act_11 : decode cX9_act 11 = .ok (.iload_n 2, 1) := oq_28 (byt chX9_act_0 11 rfl)
theorem dX9_act_12 : decode cX9_act 12 = .ok (.iaload, 1) := oq_46 (byt chX9_act_0 12 rfl)
theorem dX9_act_13 : decode cX9_act 13 = .ok (.istore 4, 2) := oq_54 (byt chX9_act_0 13 rfl) (byt chX9_act_0 14 rfl) rfl
theorem dX9_act_15 : decode cX9_act 15 = .ok (.aload_n 1, 1) := oq_43 (byt chX9_act_0 15 rfl)
theorem dX9_act_16 : decode cX9_act 16 = .ok (.getfield 98, 3) := oq_180 (byt chX9_act_1 0 rfl) (byt chX9_act_1 1 rfl) (byt chX9_act_1 2 rfl) rfl
theorem dX9_act_19 : decode cX9_act 19 = .ok (.iload_n 2, 1) := oq_28 (byt chX9_act_1 3 rfl)
theorem dX9_act_20 : decode cX9_act 20 = .ok (.iaload, 1) := oq_46 (byt chX9_act_1 4 rfl)
theorem dX9_act_21 : decode cX9_act 21 = .ok (.istore 5, 2) := oq_54 (byt chX9_act_1 5 rfl) (byt chX9_act_1 6 rfl) rfl
theorem dX9_act_23 : decode cX9_act 23 = .ok (.aload_n 1, 1) := oq_43 (byt chX9_act_1 7 rfl)
theorem dX9_act_24 : decode cX9_act 24 = .ok (.getfield 101, 3) := oq_180 (byt chX9_act_1 8 rfl) (byt chX9_act_1 9 rfl) (byt chX9_act_1 10 rfl) rfl
theorem dX9_act_27 : decode cX9_act 27 = .ok (.iload_n 2, 1) := oq_28 (byt chX9_act_1 11 rfl)
theorem dX9_act_28 : decode cX9_act 28 = .ok (.iaload, 1) := oq_46 (byt chX9_act_1 12 rfl)
theorem dX9_act_29 : decode cX9_act 29 = .ok (.tableswitch 57 0 2 #[27, 37, 47], 27) := by decide +kernel
theorem dX9_act_56 : decode cX9_act 56 = .ok (.aload_n 0, 1) := oq_42 (byt chX9_act_3 8 rfl)
theorem dX9_act_57 : decode cX9_act 57 = .ok (.iload_n 3, 1) := oq_29 (byt chX9_act_3 9 rfl)
theorem dX9_act_58 : decode cX9_act 58 = .ok (.iload 4, 2) := oq_21 (byt chX9_act_3 10 rfl) (byt chX9_act_3 11 rfl) rfl
theorem dX9_act_60 : decode cX9_act 60 = .ok (.iload 5, 2) := oq_21 (byt chX9_act_3 12 rfl) (byt chX9_act_3 13 rfl) rfl
theorem dX9_act_62 : decode cX9_act 62 = .ok (.invokevirtual 104, 3) := oq_182 (byt chX9_act_3 14 rfl) (byt chX9_act_3 15 rfl) (byt chX9_act_4 0 rfl) rfl
theorem dX9_act_65 : decode cX9_act 65 = .ok (.ireturn, 1) := oq_172 (byt chX9_act_4 1 rfl)
theorem dX9_act_66 : decode cX9_act 66 = .ok (.aload_n 0, 1) := oq_42 (byt chX9_act_4 2 rfl)
theorem dX9_act_67 : decode cX9_act 67 = .ok (.iload_n 3, 1) := oq_29 (byt chX9_act_4 3 rfl)
theorem dX9_act_68 : decode cX9_act 68 = .ok (.iload 4, 2) := oq_21 (byt chX9_act_4 4 rfl) (byt chX9_act_4 5 rfl) rfl
theorem dX9_act_70 : decode cX9_act 70 = .ok (.iload 5, 2) := oq_21 (byt chX9_act_4 6 rfl) (byt chX9_act_4 7 rfl) rfl
theorem dX9_act_72 : decode cX9_act 72 = .ok (.invokevirtual 108, 3) := oq_182 (byt chX9_act_4 8 rfl) (byt chX9_act_4 9 rfl) (byt chX9_act_4 10 rfl) rfl
theorem dX9_act_75 : decode cX9_act 75 = .ok (.ireturn, 1) := oq_172 (byt chX9_act_4 11 rfl)
theorem dX9_act_76 : decode cX9_act 76 = .ok (.aload_n 0, 1) := oq_42 (byt chX9_act_4 12 rfl)
theorem dX9_act_77 : decode cX9_act 77 = .ok (.iload_n 3, 1) := oq_29 (byt chX9_act_4 13 rfl)
theorem dX9_act_78 : decode cX9_act 78 = .ok (.iload 4, 2) := oq_21 (byt chX9_act_4 14 rfl) (byt chX9_act_4 15 rfl) rfl
theorem dX9_act_80 : decode cX9_act 80 = .ok (.iload 5, 2) := oq_21 (byt chX9_act_5 0 rfl) (byt chX9_act_5 1 rfl) rfl
theorem dX9_act_82 : decode cX9_act 82 = .ok (.invokevirtual 111, 3) := oq_182 (byt chX9_act_5 2 rfl) (byt chX9_act_5 3 rfl) (byt chX9_act_5 4 rfl) rfl
theorem dX9_act_85 : decode cX9_act 85 = .ok (.ireturn, 1) := oq_172 (byt chX9_act_5 5 rfl)
theorem dX9_act_86 : decode cX9_act 86 = .ok (.aload_n 0, 1) := oq_42 (byt chX9_act_5 6 rfl)
theorem dX9_act_87 : decode cX9_act 87 = .ok (.invokevirtual 114, 3) := oq_182 (byt chX9_act_5 7 rfl) (byt chX9_act_5 8 rfl) (byt chX9_act_5 9 rfl) rfl
theorem dX9_act_90 : decode cX9_act 90 = .ok (.iconst 1, 1) := oq_4 (byt chX9_act_5 10 rfl)
theorem dX9_act_91 : decode cX9_act 91 = .ok (.ireturn, 1) := oq_172 (byt chX9_act_5 11 rfl)
abbrev mX9_act : MI := (yX9_act, cX9_act, 6, (some .boolean), noE)
theorem okX9_act : cok mX9_act 2 := ⟨tw752, tw8, by decide, by decide, by decide, by decide +kernel⟩
def fX9_act (M : Mem) (a0 a1 a2 : Int) : Option (Int × Mem) :=
  if M.2.1 a1 = 1 then if M.2.1 (M.1 a1 2) = 12 ∧ (0 : Int) ≤ a2 ∧ a2 < M.2.2.1 (M.1 a1 2) then if M.2.1 (M.1 a1 3) = 12 ∧ (0 : Int) ≤ a2 ∧ a2 < M.2.2.1 (M.1 a1 3) then if M.2.1 (M.1 a1 4) = 12 ∧ (0 : Int) ≤ a2 ∧ a2 < M.2.2.1 (M.1 a1 4) then if M.2.1 (M.1 a1 1) = 12 ∧ (0 : Int) ≤ a2 ∧ a2 < M.2.2.1 (M.1 a1 1) then if M.1 (M.1 a1 1) a2 = 0 then (if M.2.1 a0 = 8 then (fX9_takeOne M a0 (M.1 (M.1 a1 2) a2) (M.1 (M.1 a1 3) a2) (M.1 (M.1 a1 4) a2)).bind fun r7 => if r7.1 = 0 ∨ r7.1 = 1 then some (r7.1, r7.2) else none else none) else if M.1 (M.1 a1 1) a2 = 1 then (if M.2.1 a0 = 8 then (fX9_giveOne M a0 (M.1 (M.1 a1 2) a2) (M.1 (M.1 a1 3) a2) (M.1 (M.1 a1 4) a2)).bind fun r12 => if r12.1 = 0 ∨ r12.1 = 1 then some (r12.1, r12.2) else none else none) else if M.1 (M.1 a1 1) a2 = 2 then (if M.2.1 a0 = 8 then (fX9_setOff M a0 (M.1 (M.1 a1 2) a2) (M.1 (M.1 a1 3) a2) (M.1 (M.1 a1 4) a2)).bind fun r17 => if r17.1 = 0 ∨ r17.1 = 1 then some (r17.1, r17.2) else none else none) else if M.2.1 a0 = 8 then (fX9_nightEnds M a0).bind fun r21 => some (1, r21) else none else none else none else none else none else none
set_option maxRecDepth 100000 in
set_option maxHeartbeats 4000000 in
theorem kX9_act (d : Nat) (hd : 3 ≤ d) (M : Mem) (a0 a1 a2 : Int) : Ct mX9_act d 0 0 [pA a0, pA a1, pI a2] M dIM (fX9_act M a0 a1 a2) := by
  obtain ⟨d, rfl⟩ : ∃ k, d = k + 1 := ⟨d - 1, by omega⟩
  refine Ct.of 3 (fun _ _ _ => trivial) (by decide +kernel) rfl ?_
  unfold fX9_act
  refine v_aload_n dX9_act_0 rfl ?_
  refine v_if (fun h1 => ?_)
  refine v_get (v := pA (M.1 a1 2)) 1 2 rfl inX1 (by decide) tw156 dX9_act_1 h1 rfl ?_
  refine v_iload_n dX9_act_4 rfl ?_
  refine v_if (fun h2 => ?_)
  refine v_iaload h2 dX9_act_5 ?_
  refine v_istore_n (ls' := [some (pA a0), some (pA a1), some (pI a2), some (pI (M.1 (M.1 a1 2) a2)), none, none]) dX9_act_6 (by decide) rfl ?_
  refine v_aload_n dX9_act_7 rfl ?_
  refine v_get (v := pA (M.1 a1 3)) 1 3 rfl inX1 (by decide) tw159 dX9_act_8 h1 rfl ?_
  refine v_iload_n dX9_act_11 rfl ?_
  refine v_if (fun h3 => ?_)
  refine v_iaload h3 dX9_act_12 ?_
  refine v_istore (ls' := [some (pA a0), some (pA a1), some (pI a2), some (pI (M.1 (M.1 a1 2) a2)), some (pI (M.1 (M.1 a1 3) a2)), none]) dX9_act_13 (by decide) rfl ?_
  refine v_aload_n dX9_act_15 rfl ?_
  refine v_get (v := pA (M.1 a1 4)) 1 4 rfl inX1 (by decide) tw162 dX9_act_16 h1 rfl ?_
  refine v_iload_n dX9_act_19 rfl ?_
  refine v_if (fun h4 => ?_)
  refine v_iaload h4 dX9_act_20 ?_
  refine v_istore (ls' := [some (pA a0), some (pA a1), some (pI a2), some (pI (M.1 (M.1 a1 2) a2)), some (pI (M.1 (M.1 a1 3) a2)), some (pI (M.1 (M.1 a1 4) a2))]) dX9_act_21 (by decide) rfl ?_
  refine v_aload_n dX9_act_23 rfl ?_
  refine v_get (v := pA (M.1 a1 1)) 1 1 rfl inX1 (by decide) tw153 dX9_act_24 h1 rfl ?_
  refine v_iload_n dX9_act_27 rfl ?_
  refine v_if (fun h5 => ?_)
  refine v_iaload h5 dX9_act_28 ?_
  refine v_ite (fun h6 => ?_) (fun h6 => ?_)
  · refine v_tabIn (off := 27) (tgt := 56) dX9_act_29 h6 (by decide) ?_
    refine v_aload_n dX9_act_56 rfl ?_
    refine v_iload_n dX9_act_57 rfl ?_
    refine v_iload dX9_act_58 rfl ?_
    refine v_iload dX9_act_60 rfl ?_
    refine v_if (fun h9 => ?_)
    refine v_cV (mi := mX9_act) (c0 := 0) (c1 := 0) (As := [pI (M.1 (M.1 a1 2) a2), pI (M.1 (M.1 a1 3) a2), pI (M.1 (M.1 a1 4) a2)]) (st := []) (kX9_takeOne d (by omega) _ _ _ _ _) rfl h9 rfl okX9_takeOne (Or.inl tw753) tw754 tw755 rfl (Nat.le_of_ble_eq_true rfl) dX9_act_62 (fun r7 => [pI r7.1]) (fun r7 => r7.2) (fun _ => rfl) (fun _ => rfl) (fun r7 h8 => ?_) rfl
    refine v_if (fun h10 => ?_)
    exact v_breturn dX9_act_65 rfl h10 rfl
  · refine v_ite (fun h11 => ?_) (fun h11 => ?_)
    · refine v_tabIn (off := 37) (tgt := 66) dX9_act_29 h11 (by decide) ?_
      refine v_aload_n dX9_act_66 rfl ?_
      refine v_iload_n dX9_act_67 rfl ?_
      refine v_iload dX9_act_68 rfl ?_
      refine v_iload dX9_act_70 rfl ?_
      refine v_if (fun h14 => ?_)
      refine v_cV (mi := mX9_act) (c0 := 0) (c1 := 0) (As := [pI (M.1 (M.1 a1 2) a2), pI (M.1 (M.1 a1 3) a2), pI (M.1 (M.1 a1 4) a2)]) (st := []) (kX9_giveOne d (by omega) _ _ _ _ _) rfl h14 rfl okX9_giveOne (Or.inl tw768) tw769 tw770 rfl (Nat.le_of_ble_eq_true rfl) dX9_act_72 (fun r12 => [pI r12.1]) (fun r12 => r12.2) (fun _ => rfl) (fun _ => rfl) (fun r12 h13 => ?_) rfl
      refine v_if (fun h15 => ?_)
      exact v_breturn dX9_act_75 rfl h15 rfl
    · refine v_ite (fun h16 => ?_) (fun h16 => ?_)
      · refine v_tabIn (off := 47) (tgt := 76) dX9_act_29 h16 (by decide) ?_
        refine v_aload_n dX9_act_76 rfl ?_
        refine v_iload_n dX9_act_77 rfl ?_
        refine v_iload dX9_act_78 rfl ?_
        refine v_iload dX9_act_80 rfl ?_
        refine v_if (fun h19 => ?_)
        refine v_cV (mi := mX9_act) (c0 := 0) (c1 := 0) (As := [pI (M.1 (M.1 a1 2) a2), pI (M.1 (M.1 a1 3) a2), pI (M.1 (M.1 a1 4) a2)]) (st := []) (kX9_setOff d (by omega) _ _ _ _ _) rfl h19 rfl okX9_setOff (Or.inl tw777) tw778 tw779 rfl (Nat.le_of_ble_eq_true rfl) dX9_act_82 (fun r17 => [pI r17.1]) (fun r17 => r17.2) (fun _ => rfl) (fun _ => rfl) (fun r17 h18 => ?_) rfl
        refine v_if (fun h20 => ?_)
        exact v_breturn dX9_act_85 rfl h20 rfl
      · refine v_tabOut (tgt := 86) dX9_act_29 (by omega) (by decide) ?_
        refine v_aload_n dX9_act_86 rfl ?_
        refine v_if (fun h23 => ?_)
        refine v_cV (mi := mX9_act) (c0 := 0) (c1 := 0) (As := []) (st := []) (kX9_nightEnds d (by omega) _ _) rfl h23 rfl okX9_nightEnds (Or.inl tw793) tw794 tw795 rfl (Nat.le_of_ble_eq_true rfl) dX9_act_87 (fun r21 => []) (fun r21 => r21) (fun _ => rfl) (fun _ => rfl) (fun r21 h22 => ?_) rfl
        refine v_iconst dX9_act_90 (by decide) ?_
        exact v_breturn dX9_act_91 rfl (by decide) rfl
theorem chX9_follow_0 : (cX9_follow.data.toList.drop 0).take 16 = [28, 43, 180, 0, 77, 184, 0, 82, 62, 42, 180, 0, 52, 29, 162, 0] := by decide +kernel
theorem chX9_follow_1 : (cX9_follow.data.toList.drop 16).take 16 = [28, 42, 43, 42, 180, 0, 52, 182, 0, 88, 153, 0, 16, 42, 89, 180] := by decide +kernel
theorem chX9_follow_2 : (cX9_follow.data.toList.drop 32).take 16 = [0, 52, 4, 96, 181, 0, 52, 167, 255, 226, 177] := by decide +kernel
theorem dX9_follow_0 : decode cX9_follow 0 = .ok (.iload_n 2, 1) := oq_28 (byt chX9_follow_0 0 rfl)
theorem dX9_follow_1 : decode cX9_follow 1 = .ok (.aload_n 1, 1) := oq_43 (byt chX9_follow_0 1 rfl)
theorem dX9_follow_2 : decode cX9_follow 2 = .ok (.getfield 77, 3) := oq_180 (byt chX9_follow_0 2 rfl) (byt chX9_follow_0 3 rfl) (byt chX9_follow_0 4 rfl) rfl
theorem dX9_follow_5 : decode cX9_follow 5 = .ok (.invokestatic 82, 3) := oq_184 (byt chX9_follow_0 5 rfl) (byt chX9_follow_0 6 rfl) (byt chX9_follow_0 7 rfl) rfl
theorem dX9_follow_8 : decode cX9_follow 8 = .ok (.istore_n 3, 1) := oq_62 (byt chX9_follow_0 8 rfl)
theorem dX9_follow_9 : decode cX9_follow 9 = .ok (.aload_n 0, 1) := oq_42 (byt chX9_follow_0 9 rfl)
theorem dX9_follow_10 : decode cX9_follow 10 = .ok (.getfield 52, 3) := oq_180 (byt chX9_follow_0 10 rfl) (byt chX9_follow_0 11 rfl) (byt chX9_follow_0 12 rfl) rfl
theorem dX9_follow_13 : decode cX9_follow 13 = .ok (.iload_n 3, 1) := oq_29 (byt chX9_follow_0 13 rfl)
theorem dX9_follow_14 : decode cX9_follow 14 = .ok (.if_icmp .ge 28, 3) := oq_162 (byt chX9_follow_0 14 rfl) (byt chX9_follow_0 15 rfl) (byt chX9_follow_1 0 rfl) (by decide +kernel)
theorem dX9_follow_17 : decode cX9_follow 17 = .ok (.aload_n 0, 1) := oq_42 (byt chX9_follow_1 1 rfl)
theorem dX9_follow_18 : decode cX9_follow 18 = .ok (.aload_n 1, 1) := oq_43 (byt chX9_follow_1 2 rfl)
theorem dX9_follow_19 : decode cX9_follow 19 = .ok (.aload_n 0, 1) := oq_42 (byt chX9_follow_1 3 rfl)
theorem dX9_follow_20 : decode cX9_follow 20 = .ok (.getfield 52, 3) := oq_180 (byt chX9_follow_1 4 rfl) (byt chX9_follow_1 5 rfl) (byt chX9_follow_1 6 rfl) rfl
theorem dX9_follow_23 : decode cX9_follow 23 = .ok (.invokevirtual 88, 3) := oq_182 (byt chX9_follow_1 7 rfl) (byt chX9_follow_1 8 rfl) (byt chX9_follow_1 9 rfl) rfl
theorem dX9_follow_26 : decode cX9_follow 26 = .ok (.ifCond .eq 16, 3) := oq_153 (byt chX9_follow_1 10 rfl) (byt chX9_follow_1 11 rfl) (byt chX9_follow_1 12 rfl) (by decide +kernel)
theorem dX9_follow_29 : decode cX9_follow 29 = .ok (.aload_n 0, 1) := oq_42 (byt chX9_follow_1 13 rfl)
theorem dX9_follow_30 : decode cX9_follow 30 = .ok (.dup, 1) := oq_89 (byt chX9_follow_1 14 rfl)
theorem dX9_follow_31 : decode cX9_follow 31 = .ok (.getfield 52, 3) := oq_180 (byt chX9_follow_1 15 rfl) (byt chX9_follow_2 0 rfl) (byt chX9_follow_2 1 rfl) rfl
theorem dX9_follow_34 : decode cX9_follow 34 = .ok (.iconst 1, 1) := oq_4 (byt chX9_follow_2 2 rfl)
theorem dX9_follow_35 : decode cX9_follow 35 = .ok (.iadd, 1) := oq_96 (byt chX9_follow_2 3 rfl)
theorem dX9_follow_36 : decode cX9_follow 36 = .ok (.putfield 52, 3) := oq_181 (byt chX9_follow_2 4 rfl) (byt chX9_follow_2 5 rfl) (byt chX9_follow_2 6 rfl) rfl
theorem dX9_follow_39 : decode cX9_follow 39 = .ok (.goto (-30), 3) := oq_167 (byt chX9_follow_2 7 rfl) (byt chX9_follow_2 8 rfl) (byt chX9_follow_2 9 rfl) (by decide +kernel)
theorem dX9_follow_42 : decode cX9_follow 42 = .ok (.return_, 1) := oq_177 (byt chX9_follow_2 10 rfl)
abbrev mX9_follow : MI := (yX9_follow, cX9_follow, 4, none, noE)
theorem okX9_follow : cok mX9_follow 2 := ⟨tw747, tw8, by decide, by decide, by decide, by decide +kernel⟩
def fX9_follow (M : Mem) (a0 a1 a2 : Int) : Option Mem :=
  if M.2.1 a1 = 1 then iterC (fun (rec2 : Mem → Option Mem) (s3 : Mem) => if s3.2.1 a0 = 8 then if s3.1 a0 15 < imin a2 (M.1 a1 0) then ((fX9_act s3 a0 a1 (s3.1 a0 15)).bind fun r6 => if r6.1 = 0 then (some r6.2) else (if r6.2.2.1 a0 = 8 then bM (mst r6.2 a0 15 (w32 ((r6.2.1 a0 15) + 1))) fun M10 => rec2 M10 else none)) else (some s3) else none) BIG M else none
set_option maxRecDepth 100000 in
set_option maxHeartbeats 4000000 in
theorem kX9_follow (d : Nat) (hd : 4 ≤ d) (M : Mem) (a0 a1 a2 : Int) : Ct mX9_follow d 0 0 [pA a0, pA a1, pI a2] M dV (fX9_follow M a0 a1 a2) := by
  obtain ⟨d, rfl⟩ : ∃ k, d = k + 1 := ⟨d - 1, by omega⟩
  refine Ct.of 1 (fun _ _ _ => trivial) (by decide +kernel) rfl ?_
  unfold fX9_follow
  refine v_iload_n dX9_follow_0 rfl ?_
  refine v_aload_n dX9_follow_1 rfl ?_
  refine v_if (fun h1 => ?_)
  refine v_get (v := pI (M.1 a1 0)) 1 0 rfl inX1 (by decide) tw149 dX9_follow_2 h1 rfl ?_
  refine v_mmin (mi := mX9_follow) tw748 tw469 tw12 tw470 (Nat.le_of_ble_eq_true rfl) dX9_follow_5 ?_
  refine v_istore_n (ls' := [some (pA a0), some (pA a1), some (pI a2), some (pI (imin a2 (M.1 a1 0)))]) dX9_follow_8 (by decide) rfl ?_
  refine v_drop [some (pA a0), some (pA a1), none, some (pI (imin a2 (M.1 a1 0)))] (ls_s (ls_s (ls_n (ls_s ls_e)))) ?_
  refine v_loop (fun (s3 : Mem) => [some (pA a0), some (pA a1), none, some (pI (imin a2 (M.1 a1 0)))]) (fun (s3 : Mem) => s3) (s0 := M) ?_
  intro rec2 hrec2 s3
  refine v_aload_n dX9_follow_9 rfl ?_
  refine v_if (fun h4 => ?_)
  refine v_get (v := pI (s3.1 a0 15)) 8 15 rfl inX9 (by decide) tw346 dX9_follow_10 h4 rfl ?_
  refine v_iload_n dX9_follow_13 rfl ?_
  refine v_icmp_ge (tgt := 42) dX9_follow_14 (by decide) (fun c5 => ?_) (fun c5 => ?_)
  · refine v_aload_n dX9_follow_17 rfl ?_
    refine v_aload_n dX9_follow_18 rfl ?_
    refine v_aload_n dX9_follow_19 rfl ?_
    refine v_get (v := pI (s3.1 a0 15)) 8 15 rfl inX9 (by decide) tw346 dX9_follow_20 h4 rfl ?_
    refine v_cV (mi := mX9_follow) (c0 := 0) (c1 := 0) (As := [pA a1, pI (s3.1 a0 15)]) (st := []) (kX9_act d (by omega) _ _ _ _) rfl h4 rfl okX9_act (Or.inl tw749) tw751 tp15 rfl (Nat.le_of_ble_eq_true rfl) dX9_follow_23 (fun r6 => [pI r6.1]) (fun r6 => r6.2) (fun _ => rfl) (fun _ => rfl) (fun r6 h7 => ?_) rfl
    refine v_if_eq (tgt := 42) dX9_follow_26 (by decide) (fun c8 => ?_) (fun c8 => ?_)
    · exact v_return dX9_follow_42 rfl rfl
    · refine v_aload_n dX9_follow_29 rfl ?_
      refine v_dup dX9_follow_30 (by intro z hz; cases hz) ?_
      refine v_if (fun h9 => ?_)
      refine v_get (v := pI (r6.2.1 a0 15)) 8 15 rfl inX9 (by decide) tw346 dX9_follow_31 h9 rfl ?_
      refine v_iconst dX9_follow_34 (by decide) ?_
      refine v_iadd dX9_follow_35 ?_
      refine v_put (x := w32 ((r6.2.1 a0 15) + 1)) 8 15 rfl inX9 (by decide) tw346 (Or.inl rfl) rfl dX9_follow_36 h9 rfl id ?_
      refine v_bM (fun M10 e11 => ?_)
      refine v_goto (tgt := 9) dX9_follow_39 (by decide) ?_
      exact hrec2 M10
  · exact v_return dX9_follow_42 rfl rfl
theorem chX9_lackOf_0 : (cX9_lackOf.data.toList.drop 0).take 16 = [3, 42, 180, 0, 58, 180, 0, 127, 27, 28, 184, 0, 130, 46, 42, 180] := by decide +kernel
theorem chX9_lackOf_1 : (cX9_lackOf.data.toList.drop 16).take 16 = [0, 9, 27, 28, 184, 0, 130, 46, 100, 184, 0, 133, 172] := by decide +kernel
theorem dX9_lackOf_0 : decode cX9_lackOf 0 = .ok (.iconst 0, 1) := oq_3 (byt chX9_lackOf_0 0 rfl)
theorem dX9_lackOf_1 : decode cX9_lackOf 1 = .ok (.aload_n 0, 1) := oq_42 (byt chX9_lackOf_0 1 rfl)
theorem dX9_lackOf_2 : decode cX9_lackOf 2 = .ok (.getfield 58, 3) := oq_180 (byt chX9_lackOf_0 2 rfl) (byt chX9_lackOf_0 3 rfl) (byt chX9_lackOf_0 4 rfl) rfl
theorem dX9_lackOf_5 : decode cX9_lackOf 5 = .ok (.getfield 127, 3) := oq_180 (byt chX9_lackOf_0 5 rfl) (byt chX9_lackOf_0 6 rfl) (byt chX9_lackOf_0 7 rfl) rfl
theorem dX9_lackOf_8 : decode cX9_lackOf 8 = .ok (.iload_n 1, 1) := oq_27 (byt chX9_lackOf_0 8 rfl)
theorem dX9_lackOf_9 : decode cX9_lackOf 9 = .ok (.iload_n 2, 1) := oq_28 (byt chX9_lackOf_0 9 rfl)
theorem dX9_lackOf_10 : decode cX9_lackOf 10 = .ok (.invokestatic 130, 3) := oq_184 (byt chX9_lackOf_0 10 rfl) (byt chX9_lackOf_0 11 rfl) (byt chX9_lackOf_0 12 rfl) rfl
theorem dX9_lackOf_13 : decode cX9_lackOf 13 = .ok (.iaload, 1) := oq_46 (byt chX9_lackOf_0 13 rfl)
theorem dX9_lackOf_14 : decode cX9_lackOf 14 = .ok (.aload_n 0, 1) := oq_42 (byt chX9_lackOf_0 14 rfl)
theorem dX9_lackOf_15 : decode cX9_lackOf 15 = .ok (.getfield 9, 3) := oq_180 (byt chX9_lackOf_0 15 rfl) (byt chX9_lackOf_1 0 rfl) (byt chX9_lackOf_1 1 rfl) rfl
theorem dX9_lackOf_18 : decode cX9_lackOf 18 = .ok (.iload_n 1, 1) := oq_27 (byt chX9_lackOf_1 2 rfl)
theorem dX9_lackOf_19 : decode cX9_lackOf 19 = .ok (.iload_n 2, 1) := oq_28 (byt chX9_lackOf_1 3 rfl)
theorem dX9_lackOf_20 : decode cX9_lackOf 20 = .ok (.invokestatic 130, 3) := oq_184 (byt chX9_lackOf_1 4 rfl) (byt chX9_lackOf_1 5 rfl) (byt chX9_lackOf_1 6 rfl) rfl
theorem dX9_lackOf_23 : decode cX9_lackOf 23 = .ok (.iaload, 1) := oq_46 (byt chX9_lackOf_1 7 rfl)
theorem dX9_lackOf_24 : decode cX9_lackOf 24 = .ok (.isub, 1) := oq_100 (byt chX9_lackOf_1 8 rfl)
theorem dX9_lackOf_25 : decode cX9_lackOf 25 = .ok (.invokestatic 133, 3) := oq_184 (byt chX9_lackOf_1 9 rfl) (byt chX9_lackOf_1 10 rfl) (byt chX9_lackOf_1 11 rfl) rfl
theorem dX9_lackOf_28 : decode cX9_lackOf 28 = .ok (.ireturn, 1) := oq_172 (byt chX9_lackOf_1 12 rfl)
abbrev mX9_lackOf : MI := (yX9_lackOf, cX9_lackOf, 3, (some .int), noE)
theorem okX9_lackOf : cok mX9_lackOf 2 := ⟨tw827, tw8, by decide, by decide, by decide, by decide +kernel⟩
def fX9_lackOf (M : Mem) (a0 a1 a2 : Int) : Option Int :=
  if M.2.1 a0 = 8 then if M.2.1 (M.1 a0 0) = 7 then (fX10_cell M a1 a2).bind fun r3 => if M.2.1 (M.1 (M.1 a0 0) 3) = 12 ∧ (0 : Int) ≤ r3 ∧ r3 < M.2.2.1 (M.1 (M.1 a0 0) 3) then (fX10_cell M a1 a2).bind fun r6 => if M.2.1 (M.1 a0 2) = 12 ∧ (0 : Int) ≤ r6 ∧ r6 < M.2.2.1 (M.1 a0 2) then some (imax 0 (w32 ((M.1 (M.1 (M.1 a0 0) 3) r3) - (M.1 (M.1 a0 2) r6)))) else none else none else none else none
set_option maxRecDepth 100000 in
set_option maxHeartbeats 4000000 in
theorem kX9_lackOf (d : Nat) (hd : 1 ≤ d) (M : Mem) (a0 a1 a2 : Int) : Ct mX9_lackOf d 0 0 [pA a0, pI a1, pI a2] M (dI M) (fX9_lackOf M a0 a1 a2) := by
  obtain ⟨d, rfl⟩ : ∃ k, d = k + 1 := ⟨d - 1, by omega⟩
  refine Ct.of 0 (fun _ _ _ => trivial) (by decide +kernel) rfl ?_
  unfold fX9_lackOf
  refine v_iconst dX9_lackOf_0 (by decide) ?_
  refine v_aload_n dX9_lackOf_1 rfl ?_
  refine v_if (fun h1 => ?_)
  refine v_get (v := pA (M.1 a0 0)) 8 0 rfl inX9 (by decide) tw315 dX9_lackOf_2 h1 rfl ?_
  refine v_if (fun h2 => ?_)
  refine v_get (v := pA (M.1 (M.1 a0 0) 3)) 7 3 rfl inX7 (by decide) tw73 dX9_lackOf_5 h2 rfl ?_
  refine v_iload_n dX9_lackOf_8 rfl ?_
  refine v_iload_n dX9_lackOf_9 rfl ?_
  refine v_cS (mi := mX9_lackOf) (c0 := 0) (c1 := 0) (As := [pI a1, pI a2]) (st := [pA (M.1 (M.1 a0 0) 3), pI 0]) (kX10_cell d (by omega) _ _ _) okX10_cell (Or.inr nw16) tw621 rfl (Nat.le_of_ble_eq_true rfl) dX9_lackOf_10 (fun r3 => [pI r3, pA (M.1 (M.1 a0 0) 3), pI 0]) (fun r3 => M) (fun _ => rfl) (fun _ => rfl) (fun r3 h4 => ?_) rfl
  refine v_if (fun h5 => ?_)
  refine v_iaload h5 dX9_lackOf_13 ?_
  refine v_aload_n dX9_lackOf_14 rfl ?_
  refine v_get (v := pA (M.1 a0 2)) 8 2 rfl inX9 (by decide) tw320 dX9_lackOf_15 h1 rfl ?_
  refine v_iload_n dX9_lackOf_18 rfl ?_
  refine v_iload_n dX9_lackOf_19 rfl ?_
  refine v_cS (mi := mX9_lackOf) (c0 := 0) (c1 := 0) (As := [pI a1, pI a2]) (st := [pA (M.1 a0 2), pI (M.1 (M.1 (M.1 a0 0) 3) r3), pI 0]) (kX10_cell d (by omega) _ _ _) okX10_cell (Or.inr nw16) tw621 rfl (Nat.le_of_ble_eq_true rfl) dX9_lackOf_20 (fun r6 => [pI r6, pA (M.1 a0 2), pI (M.1 (M.1 (M.1 a0 0) 3) r3), pI 0]) (fun r6 => M) (fun _ => rfl) (fun _ => rfl) (fun r6 h7 => ?_) rfl
  refine v_if (fun h8 => ?_)
  refine v_iaload h8 dX9_lackOf_23 ?_
  refine v_isub dX9_lackOf_24 ?_
  refine v_mmax (mi := mX9_lackOf) tw828 tw624 tw12 tw625 (Nat.le_of_ble_eq_true rfl) dX9_lackOf_25 ?_
  exact v_ireturn dX9_lackOf_28 rfl rfl
theorem chX9_drawBelow_0 : (cX9_drawBelow.data.toList.drop 0).take 16 = [42, 42, 180, 0, 55, 18, 186, 104, 17, 48, 57, 96, 181, 0, 55, 27] := by decide +kernel
theorem chX9_drawBelow_1 : (cX9_drawBelow.data.toList.drop 16).take 16 = [158, 0, 15, 42, 180, 0, 55, 16, 16, 124, 27, 112, 167, 0, 4, 3] := by decide +kernel
theorem chX9_drawBelow_2 : (cX9_drawBelow.data.toList.drop 32).take 16 = [172] := by decide +kernel
theorem dX9_drawBelow_0 : decode cX9_drawBelow 0 = .ok (.aload_n 0, 1) := oq_42 (byt chX9_drawBelow_0 0 rfl)
theorem dX9_drawBelow_1 : decode cX9_drawBelow 1 = .ok (.aload_n 0, 1) := oq_42 (byt chX9_drawBelow_0 1 rfl)
theorem dX9_drawBelow_2 : decode cX9_drawBelow 2 = .ok (.getfield 55, 3) := oq_180 (byt chX9_drawBelow_0 2 rfl) (byt chX9_drawBelow_0 3 rfl) (byt chX9_drawBelow_0 4 rfl) rfl
theorem dX9_drawBelow_5 : decode cX9_drawBelow 5 = .ok (.ldc 186, 2) := oq_18 (byt chX9_drawBelow_0 5 rfl) (byt chX9_drawBelow_0 6 rfl) rfl
theorem dX9_drawBelow_7 : decode cX9_drawBelow 7 = .ok (.imul, 1) := oq_104 (byt chX9_drawBelow_0 7 rfl)
theorem dX9_drawBelow_8 : decode cX9_drawBelow 8 = .ok (.sipush 12345, 3) := oq_17 (byt chX9_drawBelow_0 8 rfl) (byt chX9_drawBelow_0 9 rfl) (byt chX9_drawBelow_0 10 rfl) (by decide +kernel)
theorem dX9_drawBelow_11 : decode cX9_drawBelow 11 = .ok (.iadd, 1) := oq_96 (byt chX9_drawBelow_0 11 rfl)
theorem dX9_drawBelow_12 : decode cX9_drawBelow 12 = .ok (.putfield 55, 3) := oq_181 (byt chX9_drawBelow_0 12 rfl) (byt chX9_drawBelow_0 13 rfl) (byt chX9_drawBelow_0 14 rfl) rfl
theorem dX9_drawBelow_15 : decode cX9_drawBelow 15 = .ok (.iload_n 1, 1) := oq_27 (byt chX9_drawBelow_0 15 rfl)
theorem dX9_drawBelow_16 : decode cX9_drawBelow 16 = .ok (.ifCond .le 15, 3) := oq_158 (byt chX9_drawBelow_1 0 rfl) (byt chX9_drawBelow_1 1 rfl) (byt chX9_drawBelow_1 2 rfl) (by decide +kernel)
theorem dX9_drawBelow_19 : decode cX9_drawBelow 19 = .ok (.aload_n 0, 1) := oq_42 (byt chX9_drawBelow_1 3 rfl)
theorem dX9_drawBelow_20 : decode cX9_drawBelow 20 = .ok (.getfield 55, 3) := oq_180 (byt chX9_drawBelow_1 4 rfl) (byt chX9_drawBelow_1 5 rfl) (byt chX9_drawBelow_1 6 rfl) rfl
theorem dX9_drawBelow_23 : decode cX9_drawBelow 23 = .ok (.bipush 16, 2) := oq_16 (byt chX9_drawBelow_1 7 rfl) (byt chX9_drawBelow_1 8 rfl) rfl
theorem dX9_drawBelow_25 : decode cX9_drawBelow 25 = .ok (.iushr, 1) := oq_124 (byt chX9_drawBelow_1 9 rfl)
theorem dX9_drawBelow_26 : decode cX9_drawBelow 26 = .ok (.iload_n 1, 1) := oq_27 (byt chX9_drawBelow_1 10 rfl)
theorem dX9_drawBelow_27 : decode cX9_drawBelow 27 = .ok (.irem, 1) := oq_112 (byt chX9_drawBelow_1 11 rfl)
theorem dX9_drawBelow_28 : decode cX9_drawBelow 28 = .ok (.goto 4, 3) := oq_167 (byt chX9_drawBelow_1 12 rfl) (byt chX9_drawBelow_1 13 rfl) (byt chX9_drawBelow_1 14 rfl) (by decide +kernel)
theorem dX9_drawBelow_31 : decode cX9_drawBelow 31 = .ok (.iconst 0, 1) := oq_3 (byt chX9_drawBelow_1 15 rfl)
theorem dX9_drawBelow_32 : decode cX9_drawBelow 32 = .ok (.ireturn, 1) := oq_172 (byt chX9_drawBelow_2 0 rfl)
abbrev mX9_drawBelow : MI := (yX9_drawBelow, cX9_drawBelow, 2, (some .int), noE)
theorem okX9_drawBelow : cok mX9_drawBelow 1 := ⟨tw1065, tw8, by decide, by decide, by decide, by decide +kernel⟩
def fX9_drawBelow (M : Mem) (a0 a1 : Int) : Option (Int × Mem) :=
  if M.2.1 a0 = 8 then bM (mst M a0 16 (w32 ((w32 ((M.1 a0 16) * 1103515245)) + 12345))) fun M2 => if 0 < a1 then (if a1 ≠ 0 then some ((bUshr (M2.1 a0 16) 16).tmod a1, M2) else none) else (some (0, M2)) else none
set_option maxRecDepth 100000 in
set_option maxHeartbeats 4000000 in
theorem kX9_drawBelow (d : Nat) (hd : 0 ≤ d) (M : Mem) (a0 a1 : Int) : Ct mX9_drawBelow d 0 0 [pA a0, pI a1] M dIM (fX9_drawBelow M a0 a1) := by
  refine Ct.of 0 (fun _ _ _ => trivial) (by decide +kernel) rfl ?_
  unfold fX9_drawBelow
  refine v_aload_n dX9_drawBelow_0 rfl ?_
  refine v_aload_n dX9_drawBelow_1 rfl ?_
  refine v_if (fun h1 => ?_)
  refine v_get (v := pI (M.1 a0 16)) 8 16 rfl inX9 (by decide) tw348 dX9_drawBelow_2 h1 rfl ?_
  refine v_ldc (n := 1103515245) dX9_drawBelow_5 (by decide) tw1066 ?_
  refine v_imul dX9_drawBelow_7 ?_
  refine v_sipush dX9_drawBelow_8 (by decide) ?_
  refine v_iadd dX9_drawBelow_11 ?_
  refine v_put (x := w32 ((w32 ((M.1 a0 16) * 1103515245)) + 12345)) 8 16 rfl inX9 (by decide) tw348 (Or.inl rfl) rfl dX9_drawBelow_12 h1 rfl id ?_
  refine v_bM (fun M2 e3 => ?_)
  refine v_iload_n dX9_drawBelow_15 rfl ?_
  refine v_if_le (tgt := 31) dX9_drawBelow_16 (by decide) (fun c4 => ?_) (fun c4 => ?_)
  · refine v_aload_n dX9_drawBelow_19 rfl ?_
    refine v_get (v := pI (M2.1 a0 16)) 8 16 rfl inX9 (by decide) tw348 dX9_drawBelow_20 (by rw [e3]; exact h1) rfl ?_
    refine v_bipush dX9_drawBelow_23 (by decide) ?_
    refine v_iushr dX9_drawBelow_25 ?_
    refine v_iload_n dX9_drawBelow_26 rfl ?_
    refine v_if (fun h5 => ?_)
    refine v_irem h5 dX9_drawBelow_27 ?_
    refine v_goto (tgt := 32) dX9_drawBelow_28 (by decide) ?_
    exact v_ireturn dX9_drawBelow_32 rfl rfl
  · refine v_iconst dX9_drawBelow_31 (by decide) ?_
    exact v_ireturn dX9_drawBelow_32 rfl rfl
theorem chX9_giveLeast_0 : (cX9_giveLeast.data.toList.drop 0).take 16 = [3, 61, 28, 8, 162, 0, 40, 3, 62, 29, 42, 180, 0, 58, 180, 0] := by decide +kernel
theorem chX9_giveLeast_1 : (cX9_giveLeast.data.toList.drop 16).take 16 = [177, 162, 0, 21, 42, 27, 29, 28, 182, 0, 108, 153, 0, 5, 4, 172] := by decide +kernel
theorem chX9_giveLeast_2 : (cX9_giveLeast.data.toList.drop 32).take 16 = [132, 3, 1, 167, 255, 230, 132, 2, 1, 167, 255, 217, 3, 172] := by decide +kernel
theorem dX9_giveLeast_0 : decode cX9_giveLeast 0 = .ok (.iconst 0, 1) := oq_3 (byt chX9_giveLeast_0 0 rfl)
theorem dX9_giveLeast_1 : decode cX9_giveLeast 1 = .ok (.istore_n 2, 1) := oq_61 (byt chX9_giveLeast_0 1 rfl)
theorem dX9_giveLeast_2 : decode cX9_giveLeast 2 = .ok (.iload_n 2, 1) := oq_28 (byt chX9_giveLeast_0 2 rfl)
theorem dX9_giveLeast_3 : decode cX9_giveLeast 3 = .ok (.iconst 5, 1) := oq_8 (byt chX9_giveLeast_0 3 rfl)
theorem dX9_giveLeast_4 : decode cX9_giveLeast 4 = .ok (.if_icmp .ge 40, 3) := oq_162 (byt chX9_giveLeast_0 4 rfl) (byt chX9_giveLeast_0 5 rfl) (byt chX9_giveLeast_0 6 rfl) (by decide +kernel)
theorem dX9_giveLeast_7 : decode cX9_giveLeast 7 = .ok (.iconst 0, 1) := oq_3 (byt chX9_giveLeast_0 7 rfl)
theorem dX9_giveLeast_8 : decode cX9_giveLeast 8 = .ok (.istore_n 3, 1) := oq_62 (byt chX9_giveLeast_0 8 rfl)
theorem dX9_giveLeast_9 : decode cX9_giveLeast 9 = .ok (.iload_n 3, 1) := oq_29 (byt chX9_giveLeast_0 9 rfl)
theorem dX9_giveLeast_10 : decode cX9_giveLeast 10 = .ok (.aload_n 0, 1) := oq_42 (byt chX9_giveLeast_0 10 rfl)
theorem dX9_giveLeast_11 : decode cX9_giveLeast 11 = .ok (.getfield 58, 3) := oq_180 (byt chX9_giveLeast_0 11 rfl) (byt chX9_giveLeast_0 12 rfl) (byt chX9_giveLeast_0 13 rfl) rfl
theorem dX9_giveLeast_14 : decode cX9_giveLeast 14 = .ok (.getfield 177, 3) := oq_180 (byt chX9_giveLeast_0 14 rfl) (byt chX9_giveLeast_0 15 rfl) (byt chX9_giveLeast_1 0 rfl) rfl
theorem dX9_giveLeast_17 : decode cX9_giveLeast 17 = .ok (.if_icmp .ge 21, 3) := oq_162 (byt chX9_giveLeast_1 1 rfl) (byt chX9_giveLeast_1 2 rfl) (byt chX9_giveLeast_1 3 rfl) (by decide +kernel)
theorem dX9_giveLeast_20 : decode cX9_giveLeast 20 = .ok (.aload_n 0, 1) := oq_42 (byt chX9_giveLeast_1 4 rfl)
theorem dX9_giveLeast_21 : decode cX9_giveLeast 21 = .ok (.iload_n 1, 1) := oq_27 (byt chX9_giveLeast_1 5 rfl)
theorem dX9_giveLeast_22 : decode cX9_giveLeast 22 = .ok (.iload_n 3, 1) := oq_29 (byt chX9_giveLeast_1 6 rfl)
theorem dX9_giveLeast_23 : decode cX9_giveLeast 23 = .ok (.iload_n 2, 1) := oq_28 (byt chX9_giveLeast_1 7 rfl)
theorem dX9_giveLeast_24 : decode cX9_giveLeast 24 = .ok (.invokevirtual 108, 3) := oq_182 (byt chX9_giveLeast_1 8 rfl) (byt chX9_giveLeast_1 9 rfl) (byt chX9_giveLeast_1 10 rfl) rfl
theorem dX9_giveLeast_27 : decode cX9_giveLeast 27 = .ok (.ifCond .eq 5, 3) := oq_153 (byt chX9_giveLeast_1 11 rfl) (byt chX9_giveLeast_1 12 rfl) (byt chX9_giveLeast_1 13 rfl) (by decide +kernel)
theorem dX9_giveLeast_30 : decode cX9_giveLeast 30 = .ok (.iconst 1, 1) := oq_4 (byt chX9_giveLeast_1 14 rfl)
theorem dX9_giveLeast_31 : decode cX9_giveLeast 31 = .ok (.ireturn, 1) := oq_172 (byt chX9_giveLeast_1 15 rfl)
theorem dX9_giveLeast_32 : decode cX9_giveLeast 32 = .ok (.iinc 3 1, 3) := oq_132 (byt chX9_giveLeast_2 0 rfl) (byt chX9_giveLeast_2 1 rfl) (byt chX9_giveLeast_2 2 rfl) rfl
theorem dX9_giveLeast_35 : decode cX9_giveLeast 35 = .ok (.goto (-26), 3) := oq_167 (byt chX9_giveLeast_2 3 rfl) (byt chX9_giveLeast_2 4 rfl) (byt chX9_giveLeast_2 5 rfl) (by decide +kernel)
theorem dX9_giveLeast_38 : decode cX9_giveLeast 38 = .ok (.iinc 2 1, 3) := oq_132 (byt chX9_giveLeast_2 6 rfl) (byt chX9_giveLeast_2 7 rfl) (byt chX9_giveLeast_2 8 rfl) rfl
theorem dX9_giveLeast_41 : decode cX9_giveLeast 41 = .ok (.goto (-39), 3) := oq_167 (byt chX9_giveLeast_2 9 rfl) (byt chX9_giveLeast_2 10 rfl) (byt chX9_giveLeast_2 11 rfl) (by decide +kernel)
theorem dX9_giveLeast_44 : decode cX9_giveLeast 44 = .ok (.iconst 0, 1) := oq_3 (byt chX9_giveLeast_2 12 rfl)
theorem dX9_giveLeast_45 : decode cX9_giveLeast 45 = .ok (.ireturn, 1) := oq_172 (byt chX9_giveLeast_2 13 rfl)
abbrev mX9_giveLeast : MI := (yX9_giveLeast, cX9_giveLeast, 4, (some .boolean), noE)
theorem okX9_giveLeast : cok mX9_giveLeast 1 := ⟨tw1070, tw8, by decide, by decide, by decide, by decide +kernel⟩
def fX9_giveLeast (M : Mem) (a0 a1 : Int) : Option (Int × Mem) :=
  iterC (fun (rec1 : (Int × Mem) → Option (Int × Mem)) (s2 : Int × Mem) => if s2.1 < 5 then (iterC (fun (rec4 : (Int × Mem) → Option (Int × Mem)) (s5 : Int × Mem) => if s5.2.2.1 a0 = 8 then if s5.2.2.1 (s5.2.1 a0 0) = 7 then if s5.1 < s5.2.1 (s5.2.1 a0 0) 0 then ((fX9_giveOne s5.2 a0 a1 s5.1 s2.1).bind fun r9 => if r9.1 = 0 then (rec4 (w32 (s5.1 + 1), r9.2)) else (some (1, r9.2))) else (rec1 (w32 (s2.1 + 1), s5.2)) else none else none) BIG (0, s2.2)) else (some (0, s2.2))) BIG (0, M)
set_option maxRecDepth 100000 in
set_option maxHeartbeats 4000000 in
theorem kX9_giveLeast (d : Nat) (hd : 3 ≤ d) (M : Mem) (a0 a1 : Int) : Ct mX9_giveLeast d 0 0 [pA a0, pI a1] M dIM (fX9_giveLeast M a0 a1) := by
  obtain ⟨d, rfl⟩ : ∃ k, d = k + 1 := ⟨d - 1, by omega⟩
  refine Ct.of 2 (fun _ _ _ => trivial) (by decide +kernel) rfl ?_
  unfold fX9_giveLeast
  refine v_iconst dX9_giveLeast_0 (by decide) ?_
  refine v_istore_n (ls' := [some (pA a0), some (pI a1), some (pI 0), none]) dX9_giveLeast_1 (by decide) rfl ?_
  refine v_loop (fun (s2 : Int × Mem) => [some (pA a0), some (pI a1), some (pI s2.1), none]) (fun (s2 : Int × Mem) => s2.2) (s0 := (0, M)) ?_
  intro rec1 hrec1 s2
  refine v_iload_n dX9_giveLeast_2 rfl ?_
  refine v_iconst dX9_giveLeast_3 (by decide) ?_
  refine v_icmp_ge (tgt := 44) dX9_giveLeast_4 (by decide) (fun c3 => ?_) (fun c3 => ?_)
  · refine v_iconst dX9_giveLeast_7 (by decide) ?_
    refine v_istore_n (ls' := [some (pA a0), some (pI a1), some (pI s2.1), some (pI 0)]) dX9_giveLeast_8 (by decide) rfl ?_
    refine v_loop (fun (s5 : Int × Mem) => [some (pA a0), some (pI a1), some (pI s2.1), some (pI s5.1)]) (fun (s5 : Int × Mem) => s5.2) (s0 := (0, s2.2)) ?_
    intro rec4 hrec4 s5
    refine v_iload_n dX9_giveLeast_9 rfl ?_
    refine v_aload_n dX9_giveLeast_10 rfl ?_
    refine v_if (fun h6 => ?_)
    refine v_get (v := pA (s5.2.1 a0 0)) 8 0 rfl inX9 (by decide) tw315 dX9_giveLeast_11 h6 rfl ?_
    refine v_if (fun h7 => ?_)
    refine v_get (v := pI (s5.2.1 (s5.2.1 a0 0) 0)) 7 0 rfl inX7 (by decide) tw60 dX9_giveLeast_14 h7 rfl ?_
    refine v_icmp_ge (tgt := 38) dX9_giveLeast_17 (by decide) (fun c8 => ?_) (fun c8 => ?_)
    · refine v_aload_n dX9_giveLeast_20 rfl ?_
      refine v_iload_n dX9_giveLeast_21 rfl ?_
      refine v_iload_n dX9_giveLeast_22 rfl ?_
      refine v_iload_n dX9_giveLeast_23 rfl ?_
      refine v_cV (mi := mX9_giveLeast) (c0 := 0) (c1 := 0) (As := [pI a1, pI s5.1, pI s2.1]) (st := []) (kX9_giveOne d (by omega) _ _ _ _ _) rfl h6 rfl okX9_giveOne (Or.inl tw768) tw769 tw770 rfl (Nat.le_of_ble_eq_true rfl) dX9_giveLeast_24 (fun r9 => [pI r9.1]) (fun r9 => r9.2) (fun _ => rfl) (fun _ => rfl) (fun r9 h10 => ?_) rfl
      refine v_if_eq (tgt := 32) dX9_giveLeast_27 (by decide) (fun c11 => ?_) (fun c11 => ?_)
      · refine v_iinc (ls' := [some (pA a0), some (pI a1), some (pI s2.1), some (pI (w32 (s5.1 + 1)))]) dX9_giveLeast_32 (by decide) rfl rfl ?_
        refine v_goto (tgt := 9) dX9_giveLeast_35 (by decide) ?_
        exact hrec4 (w32 (s5.1 + 1), r9.2)
      · refine v_iconst dX9_giveLeast_30 (by decide) ?_
        exact v_breturn dX9_giveLeast_31 rfl (by decide) rfl
    · refine v_iinc (ls' := [some (pA a0), some (pI a1), some (pI (w32 (s2.1 + 1))), some (pI s5.1)]) dX9_giveLeast_38 (by decide) rfl rfl ?_
      refine v_goto (tgt := 2) dX9_giveLeast_41 (by decide) ?_
      exact v_drop [some (pA a0), some (pI a1), some (pI (w32 (s2.1 + 1))), none] (ls_s (ls_s (ls_s (ls_n ls_e)))) (hrec1 (w32 (s2.1 + 1), s5.2))
  · refine v_iconst dX9_giveLeast_44 (by decide) ?_
    exact v_breturn dX9_giveLeast_45 rfl (by decide) rfl
theorem chX9_drawDeeds_0 : (cX9_drawDeeds.data.toList.drop 0).take 16 = [3, 61, 28, 42, 180, 0, 58, 180, 0, 148, 27, 46, 162, 0, 37, 42] := by decide +kernel
theorem chX9_drawDeeds_1 : (cX9_drawDeeds.data.toList.drop 16).take 16 = [42, 180, 0, 58, 180, 0, 177, 182, 0, 180, 62, 42, 8, 182, 0, 180] := by decide +kernel
theorem chX9_drawDeeds_2 : (cX9_drawDeeds.data.toList.drop 32).take 16 = [54, 4, 42, 27, 29, 21, 4, 182, 0, 104, 87, 132, 2, 1, 167, 255] := by decide +kernel
theorem chX9_drawDeeds_3 : (cX9_drawDeeds.data.toList.drop 48).take 16 = [212, 3, 61, 28, 17, 1, 14, 162, 0, 25, 42, 27, 182, 0, 164, 158] := by decide +kernel
theorem chX9_drawDeeds_4 : (cX9_drawDeeds.data.toList.drop 64).take 16 = [0, 17, 42, 27, 182, 0, 183, 153, 0, 9, 132, 2, 1, 167, 255, 230] := by decide +kernel
theorem chX9_drawDeeds_5 : (cX9_drawDeeds.data.toList.drop 80).take 16 = [177] := by decide +kernel
theorem dX9_drawDeeds_0 : decode cX9_drawDeeds 0 = .ok (.iconst 0, 1) := oq_3 (byt chX9_drawDeeds_0 0 rfl)
theorem dX9_drawDeeds_1 : decode cX9_drawDeeds 1 = .ok (.istore_n 2, 1) := oq_61 (byt chX9_drawDeeds_0 1 rfl)
theorem dX9_drawDeeds_2 : decode cX9_drawDeeds 2 = .ok (.iload_n 2, 1) := oq_28 (byt chX9_drawDeeds_0 2 rfl)
theorem dX9_drawDeeds_3 : decode cX9_drawDeeds 3 = .ok (.aload_n 0, 1) := oq_42 (byt chX9_drawDeeds_0 3 rfl)
theorem dX9_drawDeeds_4 : decode cX9_drawDeeds 4 = .ok (.getfield 58, 3) := oq_180 (byt chX9_drawDeeds_0 4 rfl) (byt chX9_drawDeeds_0 5 rfl) (byt chX9_drawDeeds_0 6 rfl) rfl
theorem dX9_drawDeeds_7 : decode cX9_drawDeeds 7 = .ok (.getfield 148, 3) := oq_180 (byt chX9_drawDeeds_0 7 rfl) (byt chX9_drawDeeds_0 8 rfl) (byt chX9_drawDeeds_0 9 rfl) rfl
theorem dX9_drawDeeds_10 : decode cX9_drawDeeds 10 = .ok (.iload_n 1, 1) := oq_27 (byt chX9_drawDeeds_0 10 rfl)
theorem dX9_drawDeeds_11 : decode cX9_drawDeeds 11 = .ok (.iaload, 1) := oq_46 (byt chX9_drawDeeds_0 11 rfl)
theorem dX9_drawDeeds_12 : decode cX9_drawDeeds 12 = .ok (.if_icmp .ge 37, 3) := oq_162 (byt chX9_drawDeeds_0 12 rfl) (byt chX9_drawDeeds_0 13 rfl) (byt chX9_drawDeeds_0 14 rfl) (by decide +kernel)
theorem dX9_drawDeeds_15 : decode cX9_drawDeeds 15 = .ok (.aload_n 0, 1) := oq_42 (byt chX9_drawDeeds_0 15 rfl)
theorem dX9_drawDeeds_16 : decode cX9_drawDeeds 16 = .ok (.aload_n 0, 1) := oq_42 (byt chX9_drawDeeds_1 0 rfl)
theorem dX9_drawDeeds_17 : decode cX9_drawDeeds 17 = .ok (.getfield 58, 3) := oq_180 (byt chX9_drawDeeds_1 1 rfl) (byt chX9_drawDeeds_1 2 rfl) (byt chX9_drawDeeds_1 3 rfl) rfl
theorem dX9_drawDeeds_20 : decode cX9_drawDeeds 20 = .ok (.getfield 177, 3) := oq_180 (byt chX9_drawDeeds_1 4 rfl) (byt chX9_drawDeeds_1 5 rfl) (byt chX9_drawDeeds_1 6 rfl) rfl
theorem dX9_drawDeeds_23 : decode cX9_drawDeeds 23 = .ok (.invokevirtual 180, 3) := oq_182 (byt chX9_drawDeeds_1 7 rfl) (byt chX9_drawDeeds_1 8 rfl) (byt chX9_drawDeeds_1 9 rfl) rfl
theorem dX9_drawDeeds_26 : decode cX9_drawDeeds 26 = .ok (.istore_n 3, 1) := oq_62 (byt chX9_drawDeeds_1 10 rfl)
theorem dX9_drawDeeds_27 : decode cX9_drawDeeds 27 = .ok (.aload_n 0, 1) := oq_42 (byt chX9_drawDeeds_1 11 rfl)
theorem dX9_drawDeeds_28 : decode cX9_drawDeeds 28 = .ok (.iconst 5, 1) := oq_8 (byt chX9_drawDeeds_1 12 rfl)
theorem dX9_drawDeeds_29 : decode cX9_drawDeeds 29 = .ok (.invokevirtual 180, 3) := oq_182 (byt chX9_drawDeeds_1 13 rfl) (byt chX9_drawDeeds_1 14 rfl) (byt chX9_drawDeeds_1 15 rfl) rfl
theorem dX9_drawDeeds_32 : decode cX9_drawDeeds 32 = .ok (.istore 4, 2) := oq_54 (byt chX9_drawDeeds_2 0 rfl) (byt chX9_drawDeeds_2 1 rfl) rfl
theorem dX9_drawDeeds_34 : decode cX9_drawDeeds 34 = .ok (.aload_n 0, 1) := oq_42 (byt chX9_drawDeeds_2 2 rfl)
theorem dX9_drawDeeds_35 : decode cX9_drawDeeds 35 = .ok (.iload_n 1, 1) := oq_27 (byt chX9_drawDeeds_2 3 rfl)
theorem dX9_drawDeeds_36 : decode cX9_drawDeeds 36 = .ok (.iload_n 3, 1) := oq_29 (byt chX9_drawDeeds_2 4 rfl)
theorem dX9_drawDeeds_37 : decode cX9_drawDeeds 37 = .ok (.iload 4, 2) := oq_21 (byt chX9_drawDeeds_2 5 rfl) (byt chX9_drawDeeds_2 6 rfl) rfl
theorem dX9_drawDeeds_39 : decode cX9_drawDeeds 39 = .ok (.invokevirtual 104, 3) := oq_182 (byt chX9_drawDeeds_2 7 rfl) (byt chX9_drawDeeds_2 8 rfl) (byt chX9_drawDeeds_2 9 rfl) rfl
theorem dX9_drawDeeds_42 : decode cX9_drawDeeds 42 = .ok (.pop, 1) := oq_87 (byt chX9_drawDeeds_2 10 rfl)
theorem dX9_drawDeeds_43 : decode cX9_drawDeeds 43 = .ok (.iinc 2 1, 3) := oq_132 (byt chX9_drawDeeds_2 11 rfl) (byt chX9_drawDeeds_2 12 rfl) (byt chX9_drawDeeds_2 13 rfl) rfl
theorem dX9_drawDeeds_46 : decode cX9_drawDeeds 46 = .ok (.goto (-44), 3) := oq_167 (byt chX9_drawDeeds_2 14 rfl) (byt chX9_drawDeeds_2 15 rfl) (byt chX9_drawDeeds_3 0 rfl) (by decide +kernel)
theorem dX9_drawDeeds_49 : decode cX9_drawDeeds 49 = .ok (.iconst 0, 1) := oq_3 (byt chX9_drawDeeds_3 1 rfl)
theorem dX9_drawDeeds_50 : decode cX9_drawDeeds 50 = .ok (.istore_n 2, 1) := oq_61 (byt chX9_drawDeeds_3 2 rfl)
theorem dX9_drawDeeds_51 : decode cX9_drawDeeds 51 = .ok (.iload_n 2, 1) := oq_28 (byt chX9_drawDeeds_3 3 rfl)
theorem dX9_drawDeeds_52 : decode cX9_drawDeeds 52 = .ok (.sipush 270, 3) := oq_17 (byt chX9_drawDeeds_3 4 rfl) (byt chX9_drawDeeds_3 5 rfl) (byt chX9_drawDeeds_3 6 rfl) (by decide +kernel)
theorem dX9_drawDeeds_55 : decode cX9_drawDeeds 55 = .ok (.if_icmp .ge 25, 3) := oq_162 (byt chX9_drawDeeds_3 7 rfl) (byt chX9_drawDeeds_3 8 rfl) (byt chX9_drawDeeds_3 9 rfl) (by decide +kernel)
theorem dX9_drawDeeds_58 : decode cX9_drawDeeds 58 = .ok (.aload_n 0, 1) := oq_42 (byt chX9_drawDeeds_3 10 rfl)
theorem dX9_drawDeeds_59 : decode cX9_drawDeeds 59 = .ok (.iload_n 1, 1) := oq_27 (byt chX9_drawDeeds_3 11 rfl)
theorem dX9_drawDeeds_60 : decode cX9_drawDeeds 60 = .ok (.invokevirtual 164, 3) := oq_182 (byt chX9_drawDeeds_3 12 rfl) (byt chX9_drawDeeds_3 13 rfl) (byt chX9_drawDeeds_3 14 rfl) rfl
theorem dX9_drawDeeds_63 : decode cX9_drawDeeds 63 = .ok (.ifCond .le 17, 3) := oq_158 (byt chX9_drawDeeds_3 15 rfl) (byt chX9_drawDeeds_4 0 rfl) (byt chX9_drawDeeds_4 1 rfl) (by decide +kernel)
theorem dX9_drawDeeds_66 : decode cX9_drawDeeds 66 = .ok (.aload_n 0, 1) := oq_42 (byt chX9_drawDeeds_4 2 rfl)
theorem dX9_drawDeeds_67 : decode cX9_drawDeeds 67 = .ok (.iload_n 1, 1) := oq_27 (byt chX9_drawDeeds_4 3 rfl)
theorem dX9_drawDeeds_68 : decode cX9_drawDeeds 68 = .ok (.invokevirtual 183, 3) := oq_182 (byt chX9_drawDeeds_4 4 rfl) (byt chX9_drawDeeds_4 5 rfl) (byt chX9_drawDeeds_4 6 rfl) rfl
theorem dX9_drawDeeds_71 : decode cX9_drawDeeds 71 = .ok (.ifCond .eq 9, 3) := oq_153 (byt chX9_drawDeeds_4 7 rfl) (byt chX9_drawDeeds_4 8 rfl) (byt chX9_drawDeeds_4 9 rfl) (by decide +kernel)
theorem dX9_drawDeeds_74 : decode cX9_drawDeeds 74 = .ok (.iinc 2 1, 3) := oq_132 (byt chX9_drawDeeds_4 10 rfl) (byt chX9_drawDeeds_4 11 rfl) (byt chX9_drawDeeds_4 12 rfl) rfl
theorem dX9_drawDeeds_77 : decode cX9_drawDeeds 77 = .ok (.goto (-26), 3) := oq_167 (byt chX9_drawDeeds_4 13 rfl) (byt chX9_drawDeeds_4 14 rfl) (byt chX9_drawDeeds_4 15 rfl) (by decide +kernel)
theorem dX9_drawDeeds_80 : decode cX9_drawDeeds 80 = .ok (.return_, 1) := oq_177 (byt chX9_drawDeeds_5 0 rfl)
abbrev mX9_drawDeeds : MI := (yX9_drawDeeds, cX9_drawDeeds, 5, none, noE)
theorem okX9_drawDeeds : cok mX9_drawDeeds 1 := ⟨tw1061, tw8, by decide, by decide, by decide, by decide +kernel⟩
def fX9_drawDeeds (M : Mem) (a0 a1 : Int) : Option Mem :=
  iterC (fun (rec1 : (Int × Mem) → Option Mem) (s2 : Int × Mem) => if s2.2.2.1 a0 = 8 then if s2.2.2.1 (s2.2.1 a0 0) = 7 then if s2.2.2.1 (s2.2.1 (s2.2.1 a0 0) 8) = 12 ∧ (0 : Int) ≤ a1 ∧ a1 < s2.2.2.2.1 (s2.2.1 (s2.2.1 a0 0) 8) then if s2.1 < s2.2.1 (s2.2.1 (s2.2.1 a0 0) 8) a1 then ((fX9_drawBelow s2.2 a0 (s2.2.1 (s2.2.1 a0 0) 0)).bind fun r7 => if r7.2.2.1 a0 = 8 then (fX9_drawBelow r7.2 a0 5).bind fun r9 => if r9.2.2.1 a0 = 8 then (fX9_takeOne r9.2 a0 a1 r7.1 r9.1).bind fun r12 => rec1 (w32 (s2.1 + 1), r12.2) else none else none) else (iterC (fun (rec15 : (Int × Mem) → Option Mem) (s16 : Int × Mem) => if s16.1 < 270 then (if s16.2.2.1 a0 = 8 then (fX9_owesOf s16.2 a0 a1).bind fun r18 => if 0 < r18 then ((fX9_giveLeast s16.2 a0 a1).bind fun r22 => if r22.1 = 0 then (some r22.2) else (rec15 (w32 (s16.1 + 1), r22.2))) else (some s16.2) else none) else (some s16.2)) BIG (0, s2.2)) else none else none else none) BIG (0, M)
set_option maxRecDepth 100000 in
set_option maxHeartbeats 4000000 in
theorem kX9_drawDeeds (d : Nat) (hd : 4 ≤ d) (M : Mem) (a0 a1 : Int) : Ct mX9_drawDeeds d 0 0 [pA a0, pI a1] M dV (fX9_drawDeeds M a0 a1) := by
  obtain ⟨d, rfl⟩ : ∃ k, d = k + 1 := ⟨d - 1, by omega⟩
  refine Ct.of 3 (fun _ _ _ => trivial) (by decide +kernel) rfl ?_
  unfold fX9_drawDeeds
  refine v_iconst dX9_drawDeeds_0 (by decide) ?_
  refine v_istore_n (ls' := [some (pA a0), some (pI a1), some (pI 0), none, none]) dX9_drawDeeds_1 (by decide) rfl ?_
  refine v_loop (fun (s2 : Int × Mem) => [some (pA a0), some (pI a1), some (pI s2.1), none, none]) (fun (s2 : Int × Mem) => s2.2) (s0 := (0, M)) ?_
  intro rec1 hrec1 s2
  refine v_iload_n dX9_drawDeeds_2 rfl ?_
  refine v_aload_n dX9_drawDeeds_3 rfl ?_
  refine v_if (fun h3 => ?_)
  refine v_get (v := pA (s2.2.1 a0 0)) 8 0 rfl inX9 (by decide) tw315 dX9_drawDeeds_4 h3 rfl ?_
  refine v_if (fun h4 => ?_)
  refine v_get (v := pA (s2.2.1 (s2.2.1 a0 0) 8)) 7 8 rfl inX7 (by decide) tw95 dX9_drawDeeds_7 h4 rfl ?_
  refine v_iload_n dX9_drawDeeds_10 rfl ?_
  refine v_if (fun h5 => ?_)
  refine v_iaload h5 dX9_drawDeeds_11 ?_
  refine v_icmp_ge (tgt := 49) dX9_drawDeeds_12 (by decide) (fun c6 => ?_) (fun c6 => ?_)
  · refine v_aload_n dX9_drawDeeds_15 rfl ?_
    refine v_aload_n dX9_drawDeeds_16 rfl ?_
    refine v_get (v := pA (s2.2.1 a0 0)) 8 0 rfl inX9 (by decide) tw315 dX9_drawDeeds_17 h3 rfl ?_
    refine v_get (v := pI (s2.2.1 (s2.2.1 a0 0) 0)) 7 0 rfl inX7 (by decide) tw60 dX9_drawDeeds_20 h4 rfl ?_
    refine v_cV (mi := mX9_drawDeeds) (c0 := 0) (c1 := 0) (As := [pI (s2.2.1 (s2.2.1 a0 0) 0)]) (st := []) (kX9_drawBelow d (by omega) _ _ _) rfl h3 rfl okX9_drawBelow (Or.inl tw1062) tw1064 tp24 rfl (Nat.le_of_ble_eq_true rfl) dX9_drawDeeds_23 (fun r7 => [pI r7.1]) (fun r7 => r7.2) (fun _ => rfl) (fun _ => rfl) (fun r7 h8 => ?_) rfl
    refine v_istore_n (ls' := [some (pA a0), some (pI a1), some (pI s2.1), some (pI r7.1), none]) dX9_drawDeeds_26 (by decide) rfl ?_
    refine v_aload_n dX9_drawDeeds_27 rfl ?_
    refine v_iconst dX9_drawDeeds_28 (by decide) ?_
    refine v_if (fun h11 => ?_)
    refine v_cV (mi := mX9_drawDeeds) (c0 := 0) (c1 := 0) (As := [pI 5]) (st := []) (kX9_drawBelow d (by omega) _ _ _) rfl h11 rfl okX9_drawBelow (Or.inl tw1062) tw1064 tp24 rfl (Nat.le_of_ble_eq_true rfl) dX9_drawDeeds_29 (fun r9 => [pI r9.1]) (fun r9 => r9.2) (fun _ => rfl) (fun _ => rfl) (fun r9 h10 => ?_) rfl
    refine v_istore (ls' := [some (pA a0), some (pI a1), some (pI s2.1), some (pI r7.1), some (pI r9.1)]) dX9_drawDeeds_32 (by decide) rfl ?_
    refine v_aload_n dX9_drawDeeds_34 rfl ?_
    refine v_iload_n dX9_drawDeeds_35 rfl ?_
    refine v_iload_n dX9_drawDeeds_36 rfl ?_
    refine v_iload dX9_drawDeeds_37 rfl ?_
    refine v_if (fun h14 => ?_)
    refine v_cV (mi := mX9_drawDeeds) (c0 := 0) (c1 := 0) (As := [pI a1, pI r7.1, pI r9.1]) (st := []) (kX9_takeOne d (by omega) _ _ _ _ _) rfl h14 rfl okX9_takeOne (Or.inl tw753) tw754 tw755 rfl (Nat.le_of_ble_eq_true rfl) dX9_drawDeeds_39 (fun r12 => [pI r12.1]) (fun r12 => r12.2) (fun _ => rfl) (fun _ => rfl) (fun r12 h13 => ?_) rfl
    refine v_pop dX9_drawDeeds_42 (by intro z hz; cases hz) ?_
    refine v_iinc (ls' := [some (pA a0), some (pI a1), some (pI (w32 (s2.1 + 1))), some (pI r7.1), some (pI r9.1)]) dX9_drawDeeds_43 (by decide) rfl rfl ?_
    refine v_goto (tgt := 2) dX9_drawDeeds_46 (by decide) ?_
    exact v_drop [some (pA a0), some (pI a1), some (pI (w32 (s2.1 + 1))), none, none] (ls_s (ls_s (ls_s (ls_n (ls_n ls_e))))) (hrec1 (w32 (s2.1 + 1), r12.2))
  · refine v_iconst dX9_drawDeeds_49 (by decide) ?_
    refine v_istore_n (ls' := [some (pA a0), some (pI a1), some (pI 0), none, none]) dX9_drawDeeds_50 (by decide) rfl ?_
    refine v_loop (fun (s16 : Int × Mem) => [some (pA a0), some (pI a1), some (pI s16.1), none, none]) (fun (s16 : Int × Mem) => s16.2) (s0 := (0, s2.2)) ?_
    intro rec15 hrec15 s16
    refine v_iload_n dX9_drawDeeds_51 rfl ?_
    refine v_sipush dX9_drawDeeds_52 (by decide) ?_
    refine v_icmp_ge (tgt := 80) dX9_drawDeeds_55 (by decide) (fun c17 => ?_) (fun c17 => ?_)
    · refine v_aload_n dX9_drawDeeds_58 rfl ?_
      refine v_iload_n dX9_drawDeeds_59 rfl ?_
      refine v_if (fun h20 => ?_)
      refine v_cV (mi := mX9_drawDeeds) (c0 := 0) (c1 := 0) (As := [pI a1]) (st := []) (kX9_owesOf d (by omega) _ _ _) rfl h20 rfl okX9_owesOf (Or.inl tw785) tw786 tw787 rfl (Nat.le_of_ble_eq_true rfl) dX9_drawDeeds_60 (fun r18 => [pI r18]) (fun r18 => s16.2) (fun _ => rfl) (fun _ => rfl) (fun r18 h19 => ?_) rfl
      refine v_if_le (tgt := 80) dX9_drawDeeds_63 (by decide) (fun c21 => ?_) (fun c21 => ?_)
      · refine v_aload_n dX9_drawDeeds_66 rfl ?_
        refine v_iload_n dX9_drawDeeds_67 rfl ?_
        refine v_cV (mi := mX9_drawDeeds) (c0 := 0) (c1 := 0) (As := [pI a1]) (st := []) (kX9_giveLeast d (by omega) _ _ _) rfl h20 rfl okX9_giveLeast (Or.inl tw1067) tw1069 tp25 rfl (Nat.le_of_ble_eq_true rfl) dX9_drawDeeds_68 (fun r22 => [pI r22.1]) (fun r22 => r22.2) (fun _ => rfl) (fun _ => rfl) (fun r22 h23 => ?_) rfl
        refine v_if_eq (tgt := 80) dX9_drawDeeds_71 (by decide) (fun c24 => ?_) (fun c24 => ?_)
        · exact v_return dX9_drawDeeds_80 rfl rfl
        · refine v_iinc (ls' := [some (pA a0), some (pI a1), some (pI (w32 (s16.1 + 1))), none, none]) dX9_drawDeeds_74 (by decide) rfl rfl ?_
          refine v_goto (tgt := 51) dX9_drawDeeds_77 (by decide) ?_
          exact hrec15 (w32 (s16.1 + 1), r22.2)
      · exact v_return dX9_drawDeeds_80 rfl rfl
    · exact v_return dX9_drawDeeds_80 rfl rfl
theorem chX9_drawNights_0 : (cX9_drawNights.data.toList.drop 0).take 16 = [42, 27, 181, 0, 55, 3, 62, 29, 28, 162, 0, 49, 3, 54, 4, 21] := by decide +kernel
theorem chX9_drawNights_1 : (cX9_drawNights.data.toList.drop 16).take 16 = [4, 42, 180, 0, 58, 180, 0, 167, 162, 0, 24, 42, 21, 4, 182, 0] := by decide +kernel
theorem chX9_drawNights_2 : (cX9_drawNights.data.toList.drop 32).take 16 = [139, 153, 0, 9, 42, 21, 4, 182, 0, 173, 132, 4, 1, 167, 255, 226] := by decide +kernel
theorem chX9_drawNights_3 : (cX9_drawNights.data.toList.drop 48).take 16 = [42, 182, 0, 114, 132, 3, 1, 167, 255, 208, 177] := by decide +kernel
theorem dX9_drawNights_0 : decode cX9_drawNights 0 = .ok (.aload_n 0, 1) := oq_42 (byt chX9_drawNights_0 0 rfl)
theorem dX9_drawNights_1 : decode cX9_drawNights 1 = .ok (.iload_n 1, 1) := oq_27 (byt chX9_drawNights_0 1 rfl)
theorem dX9_drawNights_2 : decode cX9_drawNights 2 = .ok (.putfield 55, 3) := oq_181 (byt chX9_drawNights_0 2 rfl) (byt chX9_drawNights_0 3 rfl) (byt chX9_drawNights_0 4 rfl) rfl
theorem dX9_drawNights_5 : decode cX9_drawNights 5 = .ok (.iconst 0, 1) := oq_3 (byt chX9_drawNights_0 5 rfl)
theorem dX9_drawNights_6 : decode cX9_drawNights 6 = .ok (.istore_n 3, 1) := oq_62 (byt chX9_drawNights_0 6 rfl)
theorem dX9_drawNights_7 : decode cX9_drawNights 7 = .ok (.iload_n 3, 1) := oq_29 (byt chX9_drawNights_0 7 rfl)
theorem dX9_drawNights_8 : decode cX9_drawNights 8 = .ok (.iload_n 2, 1) := oq_28 (byt chX9_drawNights_0 8 rfl)
theorem dX9_drawNights_9 : decode cX9_drawNights 9 = .ok (.if_icmp .ge 49, 3) := oq_162 (byt chX9_drawNights_0 9 rfl) (byt chX9_drawNights_0 10 rfl) (byt chX9_drawNights_0 11 rfl) (by decide +kernel)
theorem dX9_drawNights_12 : decode cX9_drawNights 12 = .ok (.iconst 0, 1) := oq_3 (byt chX9_drawNights_0 12 rfl)
theorem dX9_drawNights_13 : decode cX9_drawNights 13 = .ok (.istore 4, 2) := oq_54 (byt chX9_drawNights_0 13 rfl) (byt chX9_drawNights_0 14 rfl) rfl
theorem dX9_drawNights_15 : decode cX9_drawNights 15 = .ok (.iload 4, 2) := oq_21 (byt chX9_drawNights_0 15 rfl) (byt chX9_drawNights_1 0 rfl) rfl
theorem dX9_drawNights_17 : decode cX9_drawNights 17 = .ok (.aload_n 0, 1) := oq_42 (byt chX9_drawNights_1 1 rfl)
theorem dX9_drawNights_18 : decode cX9_drawNights 18 = .ok (.getfield 58, 3) := oq_180 (byt chX9_drawNights_1 2 rfl) (byt chX9_drawNights_1 3 rfl) (byt chX9_drawNights_1 4 rfl) rfl
theorem dX9_drawNights_21 : decode cX9_drawNights 21 = .ok (.getfield 167, 3) := oq_180 (byt chX9_drawNights_1 5 rfl) (byt chX9_drawNights_1 6 rfl) (byt chX9_drawNights_1 7 rfl) rfl
theorem dX9_drawNights_24 : decode cX9_drawNights 24 = .ok (.if_icmp .ge 24, 3) := oq_162 (byt chX9_drawNights_1 8 rfl) (byt chX9_drawNights_1 9 rfl) (byt chX9_drawNights_1 10 rfl) (by decide +kernel)
theorem dX9_drawNights_27 : decode cX9_drawNights 27 = .ok (.aload_n 0, 1) := oq_42 (byt chX9_drawNights_1 11 rfl)
theorem dX9_drawNights_28 : decode cX9_drawNights 28 = .ok (.iload 4, 2) := oq_21 (byt chX9_drawNights_1 12 rfl) (byt chX9_drawNights_1 13 rfl) rfl
theorem dX9_drawNights_30 : decode cX9_drawNights 30 = .ok (.invokevirtual 139, 3) := oq_182 (byt chX9_drawNights_1 14 rfl) (byt chX9_drawNights_1 15 rfl) (byt chX9_drawNights_2 0 rfl) rfl
theorem dX9_drawNights_33 : decode cX9_drawNights 33 = .ok (.ifCond .eq 9, 3) := oq_153 (byt chX9_drawNights_2 1 rfl) (byt chX9_drawNights_2 2 rfl) (byt chX9_drawNights_2 3 rfl) (by decide +kernel)
theorem dX9_drawNights_36 : decode cX9_drawNights 36 = .ok (.aload_n 0, 1) := oq_42 (byt chX9_drawNights_2 4 rfl)
theorem dX9_drawNights_37 : decode cX9_drawNights 37 = .ok (.iload 4, 2) := oq_21 (byt chX9_drawNights_2 5 rfl) (byt chX9_drawNights_2 6 rfl) rfl
theorem dX9_drawNights_39 : decode cX9_drawNights 39 = .ok (.invokevirtual 173, 3) := oq_182 (byt chX9_drawNights_2 7 rfl) (byt chX9_drawNights_2 8 rfl) (byt chX9_drawNights_2 9 rfl) rfl
theorem dX9_drawNights_42 : decode cX9_drawNights 42 = .ok (.iinc 4 1, 3) := oq_132 (byt chX9_drawNights_2 10 rfl) (byt chX9_drawNights_2 11 rfl) (byt chX9_drawNights_2 12 rfl) rfl
theorem dX9_drawNights_45 : decode cX9_drawNights 45 = .ok (.goto (-30), 3) := oq_167 (byt chX9_drawNights_2 13 rfl) (byt chX9_drawNights_2 14 rfl) (byt chX9_drawNights_2 15 rfl) (by decide +kernel)
theorem dX9_drawNights_48 : decode cX9_drawNights 48 = .ok (.aload_n 0, 1) := oq_42 (byt chX9_drawNights_3 0 rfl)
theorem dX9_drawNights_49 : decode cX9_drawNights 49 = .ok (.invokevirtual 114, 3) := oq_182 (byt chX9_drawNights_3 1 rfl) (byt chX9_drawNights_3 2 rfl) (byt chX9_drawNights_3 3 rfl) rfl
theorem dX9_drawNights_52 : decode cX9_drawNights 52 = .ok (.iinc 3 1, 3) := oq_132 (byt chX9_drawNights_3 4 rfl) (byt chX9_drawNights_3 5 rfl) (byt chX9_drawNights_3 6 rfl) rfl
theorem dX9_drawNights_55 : decode cX9_drawNights 55 = .ok (.goto (-48), 3) := oq_167 (byt chX9_drawNights_3 7 rfl) (byt chX9_drawNights_3 8 rfl) (byt chX9_drawNights_3 9 rfl) (by decide +kernel)
theorem dX9_drawNights_58 : decode cX9_drawNights 58 = .ok (.return_, 1) := oq_177 (byt chX9_drawNights_3 10 rfl)
abbrev mX9_drawNights : MI := (yX9_drawNights, cX9_drawNights, 5, none, noE)
theorem okX9_drawNights : cok mX9_drawNights 2 := ⟨tw1057, tw8, by decide, by decide, by decide, by decide +kernel⟩
def fX9_drawNights (M : Mem) (a0 a1 a2 : Int) : Option Mem :=
  if M.2.1 a0 = 8 then bM (mst M a0 16 a1) fun M2 => iterC (fun (rec4 : (Int × Mem) → Option Mem) (s5 : Int × Mem) => if s5.1 < a2 then (iterC (fun (rec7 : (Int × Mem) → Option Mem) (s8 : Int × Mem) => if s8.2.2.1 a0 = 8 then if s8.2.2.1 (s8.2.1 a0 0) = 7 then if s8.1 < s8.2.1 (s8.2.1 a0 0) 1 then ((fX9_isFree s8.2 a0 s8.1).bind fun r12 => if r12 = 0 then (rec7 (w32 (s8.1 + 1), s8.2)) else ((fX9_drawDeeds s8.2 a0 s8.1).bind fun r15 => rec7 (w32 (s8.1 + 1), r15))) else ((fX9_nightEnds s8.2 a0).bind fun r17 => rec4 (w32 (s5.1 + 1), r17)) else none else none) BIG (0, s5.2)) else (some s5.2)) BIG (0, M2) else none
set_option maxRecDepth 100000 in
set_option maxHeartbeats 4000000 in
theorem kX9_drawNights (d : Nat) (hd : 5 ≤ d) (M : Mem) (a0 a1 a2 : Int) : Ct mX9_drawNights d 0 0 [pA a0, pI a1, pI a2] M dV (fX9_drawNights M a0 a1 a2) := by
  obtain ⟨d, rfl⟩ : ∃ k, d = k + 1 := ⟨d - 1, by omega⟩
  refine Ct.of 2 (fun _ _ _ => trivial) (by decide +kernel) rfl ?_
  unfold fX9_drawNights
  refine v_aload_n dX9_drawNights_0 rfl ?_
  refine v_iload_n dX9_drawNights_1 rfl ?_
  refine v_if (fun h1 => ?_)
  refine v_put (x := a1) 8 16 rfl inX9 (by decide) tw348 (Or.inl rfl) rfl dX9_drawNights_2 h1 rfl id ?_
  refine v_bM (fun M2 e3 => ?_)
  refine v_iconst dX9_drawNights_5 (by decide) ?_
  refine v_istore_n (ls' := [some (pA a0), some (pI a1), some (pI a2), some (pI 0), none]) dX9_drawNights_6 (by decide) rfl ?_
  refine v_drop [some (pA a0), none, some (pI a2), some (pI 0), none] (ls_s (ls_n (ls_s (ls_s (ls_n ls_e))))) ?_
  refine v_loop (fun (s5 : Int × Mem) => [some (pA a0), none, some (pI a2), some (pI s5.1), none]) (fun (s5 : Int × Mem) => s5.2) (s0 := (0, M2)) ?_
  intro rec4 hrec4 s5
  refine v_iload_n dX9_drawNights_7 rfl ?_
  refine v_iload_n dX9_drawNights_8 rfl ?_
  refine v_icmp_ge (tgt := 58) dX9_drawNights_9 (by decide) (fun c6 => ?_) (fun c6 => ?_)
  · refine v_iconst dX9_drawNights_12 (by decide) ?_
    refine v_istore (ls' := [some (pA a0), none, some (pI a2), some (pI s5.1), some (pI 0)]) dX9_drawNights_13 (by decide) rfl ?_
    refine v_loop (fun (s8 : Int × Mem) => [some (pA a0), none, some (pI a2), some (pI s5.1), some (pI s8.1)]) (fun (s8 : Int × Mem) => s8.2) (s0 := (0, s5.2)) ?_
    intro rec7 hrec7 s8
    refine v_iload dX9_drawNights_15 rfl ?_
    refine v_aload_n dX9_drawNights_17 rfl ?_
    refine v_if (fun h9 => ?_)
    refine v_get (v := pA (s8.2.1 a0 0)) 8 0 rfl inX9 (by decide) tw315 dX9_drawNights_18 h9 rfl ?_
    refine v_if (fun h10 => ?_)
    refine v_get (v := pI (s8.2.1 (s8.2.1 a0 0) 1)) 7 1 rfl inX7 (by decide) tw65 dX9_drawNights_21 h10 rfl ?_
    refine v_icmp_ge (tgt := 48) dX9_drawNights_24 (by decide) (fun c11 => ?_) (fun c11 => ?_)
    · refine v_aload_n dX9_drawNights_27 rfl ?_
      refine v_iload dX9_drawNights_28 rfl ?_
      refine v_cV (mi := mX9_drawNights) (c0 := 0) (c1 := 0) (As := [pI s8.1]) (st := []) (kX9_isFree d (by omega) _ _ _) rfl h9 rfl okX9_isFree (Or.inl tw757) tw758 tw759 rfl (Nat.le_of_ble_eq_true rfl) dX9_drawNights_30 (fun r12 => [pI r12]) (fun r12 => s8.2) (fun _ => rfl) (fun _ => rfl) (fun r12 h13 => ?_) rfl
      refine v_if_eq (tgt := 42) dX9_drawNights_33 (by decide) (fun c14 => ?_) (fun c14 => ?_)
      · refine v_iinc (ls' := [some (pA a0), none, some (pI a2), some (pI s5.1), some (pI (w32 (s8.1 + 1)))]) dX9_drawNights_42 (by decide) rfl rfl ?_
        refine v_goto (tgt := 15) dX9_drawNights_45 (by decide) ?_
        exact hrec7 (w32 (s8.1 + 1), s8.2)
      · refine v_aload_n dX9_drawNights_36 rfl ?_
        refine v_iload dX9_drawNights_37 rfl ?_
        refine v_cV (mi := mX9_drawNights) (c0 := 0) (c1 := 0) (As := [pI s8.1]) (st := []) (kX9_drawDeeds d (by omega) _ _ _) rfl h9 rfl okX9_drawDeeds (Or.inl tw1058) tw1060 tp23 rfl (Nat.le_of_ble_eq_true rfl) dX9_drawNights_39 (fun r15 => []) (fun r15 => r15) (fun _ => rfl) (fun _ => rfl) (fun r15 h16 => ?_) rfl
        refine v_iinc (ls' := [some (pA a0), none, some (pI a2), some (pI s5.1), some (pI (w32 (s8.1 + 1)))]) dX9_drawNights_42 (by decide) rfl rfl ?_
        refine v_goto (tgt := 15) dX9_drawNights_45 (by decide) ?_
        exact hrec7 (w32 (s8.1 + 1), r15)
    · refine v_aload_n dX9_drawNights_48 rfl ?_
      refine v_cV (mi := mX9_drawNights) (c0 := 0) (c1 := 0) (As := []) (st := []) (kX9_nightEnds d (by omega) _ _) rfl h9 rfl okX9_nightEnds (Or.inl tw793) tw794 tw795 rfl (Nat.le_of_ble_eq_true rfl) dX9_drawNights_49 (fun r17 => []) (fun r17 => r17) (fun _ => rfl) (fun _ => rfl) (fun r17 h18 => ?_) rfl
      refine v_iinc (ls' := [some (pA a0), none, some (pI a2), some (pI (w32 (s5.1 + 1))), some (pI s8.1)]) dX9_drawNights_52 (by decide) rfl rfl ?_
      refine v_goto (tgt := 7) dX9_drawNights_55 (by decide) ?_
      exact v_drop [some (pA a0), none, some (pI a2), some (pI (w32 (s5.1 + 1))), none] (ls_s (ls_n (ls_s (ls_s (ls_n ls_e))))) (hrec4 (w32 (s5.1 + 1), r17))
  · exact v_return dX9_drawNights_58 rfl rfl
theorem chX8_want_0 : (cX8_want.data.toList.drop 0).take 16 = [3, 60, 3, 61, 28, 42, 180, 0, 28, 180, 0, 59, 162, 0, 31, 3] := by decide +kernel
theorem chX8_want_1 : (cX8_want.data.toList.drop 16).take 16 = [62, 29, 8, 162, 0, 18, 27, 42, 28, 29, 182, 0, 62, 96, 60, 132] := by decide +kernel
theorem chX8_want_2 : (cX8_want.data.toList.drop 32).take 16 = [3, 1, 167, 255, 239, 132, 2, 1, 167, 255, 220, 27, 172] := by decide +kernel
theorem dX8_want_0 : decode cX8_want 0 = .ok (.iconst 0, 1) := oq_3 (byt chX8_want_0 0 rfl)
theorem dX8_want_1 : decode cX8_want 1 = .ok (.istore_n 1, 1) := oq_60 (byt chX8_want_0 1 rfl)
theorem dX8_want_2 : decode cX8_want 2 = .ok (.iconst 0, 1) := oq_3 (byt chX8_want_0 2 rfl)
theorem dX8_want_3 : decode cX8_want 3 = .ok (.istore_n 2, 1) := oq_61 (byt chX8_want_0 3 rfl)
theorem dX8_want_4 : decode cX8_want 4 = .ok (.iload_n 2, 1) := oq_28 (byt chX8_want_0 4 rfl)
theorem dX8_want_5 : decode cX8_want 5 = .ok (.aload_n 0, 1) := oq_42 (byt chX8_want_0 5 rfl)
theorem dX8_want_6 : decode cX8_want 6 = .ok (.getfield 28, 3) := oq_180 (byt chX8_want_0 6 rfl) (byt chX8_want_0 7 rfl) (byt chX8_want_0 8 rfl) rfl
theorem dX8_want_9 : decode cX8_want 9 = .ok (.getfield 59, 3) := oq_180 (byt chX8_want_0 9 rfl) (byt chX8_want_0 10 rfl) (byt chX8_want_0 11 rfl) rfl
theorem dX8_want_12 : decode cX8_want 12 = .ok (.if_icmp .ge 31, 3) := oq_162 (byt chX8_want_0 12 rfl) (byt chX8_want_0 13 rfl) (byt chX8_want_0 14 rfl) (by decide +kernel)
theorem dX8_want_15 : decode cX8_want 15 = .ok (.iconst 0, 1) := oq_3 (byt chX8_want_0 15 rfl)
theorem dX8_want_16 : decode cX8_want 16 = .ok (.istore_n 3, 1) := oq_62 (byt chX8_want_1 0 rfl)
theorem dX8_want_17 : decode cX8_want 17 = .ok (.iload_n 3, 1) := oq_29 (byt chX8_want_1 1 rfl)
theorem dX8_want_18 : decode cX8_want 18 = .ok (.iconst 5, 1) := oq_8 (byt chX8_want_1 2 rfl)
theorem dX8_want_19 : decode cX8_want 19 = .ok (.if_icmp .ge 18, 3) := oq_162 (byt chX8_want_1 3 rfl) (byt chX8_want_1 4 rfl) (byt chX8_want_1 5 rfl) (by decide +kernel)
theorem dX8_want_22 : decode cX8_want 22 = .ok (.iload_n 1, 1) := oq_27 (byt chX8_want_1 6 rfl)
theorem dX8_want_23 : decode cX8_want 23 = .ok (.aload_n 0, 1) := oq_42 (byt chX8_want_1 7 rfl)
theorem dX8_want_24 : decode cX8_want 24 = .ok (.iload_n 2, 1) := oq_28 (byt chX8_want_1 8 rfl)
theorem dX8_want_25 : decode cX8_want 25 = .ok (.iload_n 3, 1) := oq_29 (byt chX8_want_1 9 rfl)
theorem dX8_want_26 : decode cX8_want 26 = .ok (.invokevirtual 62, 3) := oq_182 (byt chX8_want_1 10 rfl) (byt chX8_want_1 11 rfl) (byt chX8_want_1 12 rfl) rfl
theorem dX8_want_29 : decode cX8_want 29 = .ok (.iadd, 1) := oq_96 (byt chX8_want_1 13 rfl)
theorem dX8_want_30 : decode cX8_want 30 = .ok (.istore_n 1, 1) := oq_60 (byt chX8_want_1 14 rfl)
theorem dX8_want_31 : decode cX8_want 31 = .ok (.iinc 3 1, 3) := oq_132 (byt chX8_want_1 15 rfl) (byt chX8_want_2 0 rfl) (byt chX8_want_2 1 rfl) rfl
theorem dX8_want_34 : decode cX8_want 34 = .ok (.goto (-17), 3) := oq_167 (byt chX8_want_2 2 rfl) (byt chX8_want_2 3 rfl) (byt chX8_want_2 4 rfl) (by decide +kernel)
theorem dX8_want_37 : decode cX8_want 37 = .ok (.iinc 2 1, 3) := oq_132 (byt chX8_want_2 5 rfl) (byt chX8_want_2 6 rfl) (byt chX8_want_2 7 rfl) rfl
theorem dX8_want_40 : decode cX8_want 40 = .ok (.goto (-36), 3) := oq_167 (byt chX8_want_2 8 rfl) (byt chX8_want_2 9 rfl) (byt chX8_want_2 10 rfl) (by decide +kernel)
theorem dX8_want_43 : decode cX8_want 43 = .ok (.iload_n 1, 1) := oq_27 (byt chX8_want_2 11 rfl)
theorem dX8_want_44 : decode cX8_want 44 = .ok (.ireturn, 1) := oq_172 (byt chX8_want_2 12 rfl)
abbrev mX8_want : MI := (yX8_want, cX8_want, 4, (some .int), noE)
theorem okX8_want : cok mX8_want 1 := ⟨tw823, tw18, by decide, by decide, by decide, by decide +kernel⟩
def fX8_want (M : Mem) (a0 : Int) : Option Int :=
  iterC (fun (rec1 : (Int × Int) → Option Int) (s2 : Int × Int) => if M.2.1 a0 = 8 then if M.2.1 (M.1 a0 0) = 7 then if s2.2 < M.1 (M.1 a0 0) 0 then (iterC (fun (rec6 : (Int × Int) → Option Int) (s7 : Int × Int) => if s7.2 < 5 then ((fX9_lackOf M a0 s2.2 s7.2).bind fun r9 => rec6 (w32 (s7.1 + r9), w32 (s7.2 + 1))) else (rec1 (s7.1, w32 (s2.2 + 1)))) BIG (s2.1, 0)) else (some s2.1) else none else none) BIG (0, 0)
set_option maxRecDepth 100000 in
set_option maxHeartbeats 4000000 in
theorem kX8_want (d : Nat) (hd : 2 ≤ d) (M : Mem) (a0 : Int) : Ct mX8_want d 0 0 [pA a0] M (dI M) (fX8_want M a0) := by
  obtain ⟨d, rfl⟩ : ∃ k, d = k + 1 := ⟨d - 1, by omega⟩
  refine Ct.of 3 (fun _ _ _ => trivial) (by decide +kernel) rfl ?_
  unfold fX8_want
  refine v_iconst dX8_want_0 (by decide) ?_
  refine v_istore_n (ls' := [some (pA a0), some (pI 0), none, none]) dX8_want_1 (by decide) rfl ?_
  refine v_iconst dX8_want_2 (by decide) ?_
  refine v_istore_n (ls' := [some (pA a0), some (pI 0), some (pI 0), none]) dX8_want_3 (by decide) rfl ?_
  refine v_loop (fun (s2 : Int × Int) => [some (pA a0), some (pI s2.1), some (pI s2.2), none]) (fun (s2 : Int × Int) => M) (s0 := (0, 0)) ?_
  intro rec1 hrec1 s2
  refine v_iload_n dX8_want_4 rfl ?_
  refine v_aload_n dX8_want_5 rfl ?_
  refine v_if (fun h3 => ?_)
  refine v_get (v := pA (M.1 a0 0)) 8 0 rfl inX9 (by decide) tw316 dX8_want_6 h3 rfl ?_
  refine v_if (fun h4 => ?_)
  refine v_get (v := pI (M.1 (M.1 a0 0) 0)) 7 0 rfl inX7 (by decide) tw57 dX8_want_9 h4 rfl ?_
  refine v_icmp_ge (tgt := 43) dX8_want_12 (by decide) (fun c5 => ?_) (fun c5 => ?_)
  · refine v_iconst dX8_want_15 (by decide) ?_
    refine v_istore_n (ls' := [some (pA a0), some (pI s2.1), some (pI s2.2), some (pI 0)]) dX8_want_16 (by decide) rfl ?_
    refine v_loop (fun (s7 : Int × Int) => [some (pA a0), some (pI s7.1), some (pI s2.2), some (pI s7.2)]) (fun (s7 : Int × Int) => M) (s0 := (s2.1, 0)) ?_
    intro rec6 hrec6 s7
    refine v_iload_n dX8_want_17 rfl ?_
    refine v_iconst dX8_want_18 (by decide) ?_
    refine v_icmp_ge (tgt := 37) dX8_want_19 (by decide) (fun c8 => ?_) (fun c8 => ?_)
    · refine v_iload_n dX8_want_22 rfl ?_
      refine v_aload_n dX8_want_23 rfl ?_
      refine v_iload_n dX8_want_24 rfl ?_
      refine v_iload_n dX8_want_25 rfl ?_
      refine v_cV (mi := mX8_want) (c0 := 0) (c1 := 0) (As := [pI s2.2, pI s7.2]) (st := [pI s7.1]) (kX9_lackOf d (by omega) _ _ _ _) rfl h3 rfl okX9_lackOf (Or.inl tw824) tw825 tw826 rfl (Nat.le_of_ble_eq_true rfl) dX8_want_26 (fun r9 => [pI r9, pI s7.1]) (fun r9 => M) (fun _ => rfl) (fun _ => rfl) (fun r9 h10 => ?_) rfl
      refine v_iadd dX8_want_29 ?_
      refine v_istore_n (ls' := [some (pA a0), some (pI (w32 (s7.1 + r9))), some (pI s2.2), some (pI s7.2)]) dX8_want_30 (by decide) rfl ?_
      refine v_iinc (ls' := [some (pA a0), some (pI (w32 (s7.1 + r9))), some (pI s2.2), some (pI (w32 (s7.2 + 1)))]) dX8_want_31 (by decide) rfl rfl ?_
      refine v_goto (tgt := 17) dX8_want_34 (by decide) ?_
      exact hrec6 (w32 (s7.1 + r9), w32 (s7.2 + 1))
    · refine v_iinc (ls' := [some (pA a0), some (pI s7.1), some (pI (w32 (s2.2 + 1))), some (pI s7.2)]) dX8_want_37 (by decide) rfl rfl ?_
      refine v_goto (tgt := 4) dX8_want_40 (by decide) ?_
      exact v_drop [some (pA a0), some (pI s7.1), some (pI (w32 (s2.2 + 1))), none] (ls_s (ls_s (ls_s (ls_n ls_e)))) (hrec1 (s7.1, w32 (s2.2 + 1)))
  · refine v_iload_n dX8_want_43 rfl ?_
    exact v_ireturn dX8_want_44 rfl rfl
theorem chX8_pious_0 : (cX8_pious.data.toList.drop 0).take 16 = [2, 60, 3, 61, 28, 42, 180, 0, 28, 180, 0, 66, 162, 0, 29, 27] := by decide +kernel
theorem chX8_pious_1 : (cX8_pious.data.toList.drop 16).take 16 = [2, 159, 0, 16, 42, 28, 182, 0, 52, 42, 27, 182, 0, 52, 162, 0] := by decide +kernel
theorem chX8_pious_2 : (cX8_pious.data.toList.drop 32).take 16 = [5, 28, 60, 132, 2, 1, 167, 255, 222, 27, 172] := by decide +kernel
theorem dX8_pious_0 : decode cX8_pious 0 = .ok (.iconst (-1), 1) := oq_2 (byt chX8_pious_0 0 rfl)
theorem dX8_pious_1 : decode cX8_pious 1 = .ok (.istore_n 1, 1) := oq_60 (byt chX8_pious_0 1 rfl)
theorem dX8_pious_2 : decode cX8_pious 2 = .ok (.iconst 0, 1) := oq_3 (byt chX8_pious_0 2 rfl)
theorem dX8_pious_3 : decode cX8_pious 3 = .ok (.istore_n 2, 1) := oq_61 (byt chX8_pious_0 3 rfl)
theorem dX8_pious_4 : decode cX8_pious 4 = .ok (.iload_n 2, 1) := oq_28 (byt chX8_pious_0 4 rfl)
theorem dX8_pious_5 : decode cX8_pious 5 = .ok (.aload_n 0, 1) := oq_42 (byt chX8_pious_0 5 rfl)
theorem dX8_pious_6 : decode cX8_pious 6 = .ok (.getfield 28, 3) := oq_180 (byt chX8_pious_0 6 rfl) (byt chX8_pious_0 7 rfl) (byt chX8_pious_0 8 rfl) rfl
theorem dX8_pious_9 : decode cX8_pious 9 = .ok (.getfield 66, 3) := oq_180 (byt chX8_pious_0 9 rfl) (byt chX8_pious_0 10 rfl) (byt chX8_pious_0 11 rfl) rfl
theorem dX8_pious_12 : decode cX8_pious 12 = .ok (.if_icmp .ge 29, 3) := oq_162 (byt chX8_pious_0 12 rfl) (byt chX8_pious_0 13 rfl) (byt chX8_pious_0 14 rfl) (by decide +kernel)
theorem dX8_pious_15 : decode cX8_pious 15 = .ok (.iload_n 1, 1) := oq_27 (byt chX8_pious_0 15 rfl)
theorem dX8_pious_16 : decode cX8_pious 16 = .ok (.iconst (-1), 1) := oq_2 (byt chX8_pious_1 0 rfl)
theorem dX8_pious_17 : decode cX8_pious 17 = .ok (.if_icmp .eq 16, 3) := oq_159 (byt chX8_pious_1 1 rfl) (byt chX8_pious_1 2 rfl) (byt chX8_pious_1 3 rfl) (by decide +kernel)
theorem dX8_pious_20 : decode cX8_pious 20 = .ok (.aload_n 0, 1) := oq_42 (byt chX8_pious_1 4 rfl)
theorem dX8_pious_21 : decode cX8_pious 21 = .ok (.iload_n 2, 1) := oq_28 (byt chX8_pious_1 5 rfl)
theorem dX8_pious_22 : decode cX8_pious 22 = .ok (.invokevirtual 52, 3) := oq_182 (byt chX8_pious_1 6 rfl) (byt chX8_pious_1 7 rfl) (byt chX8_pious_1 8 rfl) rfl
theorem dX8_pious_25 : decode cX8_pious 25 = .ok (.aload_n 0, 1) := oq_42 (byt chX8_pious_1 9 rfl)
theorem dX8_pious_26 : decode cX8_pious 26 = .ok (.iload_n 1, 1) := oq_27 (byt chX8_pious_1 10 rfl)
theorem dX8_pious_27 : decode cX8_pious 27 = .ok (.invokevirtual 52, 3) := oq_182 (byt chX8_pious_1 11 rfl) (byt chX8_pious_1 12 rfl) (byt chX8_pious_1 13 rfl) rfl
theorem dX8_pious_30 : decode cX8_pious 30 = .ok (.if_icmp .ge 5, 3) := oq_162 (byt chX8_pious_1 14 rfl) (byt chX8_pious_1 15 rfl) (byt chX8_pious_2 0 rfl) (by decide +kernel)
theorem dX8_pious_33 : decode cX8_pious 33 = .ok (.iload_n 2, 1) := oq_28 (byt chX8_pious_2 1 rfl)
theorem dX8_pious_34 : decode cX8_pious 34 = .ok (.istore_n 1, 1) := oq_60 (byt chX8_pious_2 2 rfl)
theorem dX8_pious_35 : decode cX8_pious 35 = .ok (.iinc 2 1, 3) := oq_132 (byt chX8_pious_2 3 rfl) (byt chX8_pious_2 4 rfl) (byt chX8_pious_2 5 rfl) rfl
theorem dX8_pious_38 : decode cX8_pious 38 = .ok (.goto (-34), 3) := oq_167 (byt chX8_pious_2 6 rfl) (byt chX8_pious_2 7 rfl) (byt chX8_pious_2 8 rfl) (by decide +kernel)
theorem dX8_pious_41 : decode cX8_pious 41 = .ok (.iload_n 1, 1) := oq_27 (byt chX8_pious_2 9 rfl)
theorem dX8_pious_42 : decode cX8_pious 42 = .ok (.ireturn, 1) := oq_172 (byt chX8_pious_2 10 rfl)
abbrev mX8_pious : MI := (yX8_pious, cX8_pious, 3, (some .int), noE)
theorem okX8_pious : cok mX8_pious 1 := ⟨tw831, tw18, by decide, by decide, by decide, by decide +kernel⟩
def fX8_pious (M : Mem) (a0 : Int) : Option Int :=
  iterC (fun (rec1 : (Int × Int) → Option Int) (s2 : Int × Int) => if M.2.1 a0 = 8 then if M.2.1 (M.1 a0 0) = 7 then if s2.2 < M.1 (M.1 a0 0) 1 then (if s2.1 = (-1) then (rec1 (s2.2, w32 (s2.2 + 1))) else ((fX9_owesOf M a0 s2.2).bind fun r7 => (fX9_owesOf M a0 s2.1).bind fun r9 => if r7 < r9 then (rec1 (s2.2, w32 (s2.2 + 1))) else (rec1 (s2.1, w32 (s2.2 + 1))))) else (some s2.1) else none else none) BIG ((-1), 0)
set_option maxRecDepth 100000 in
set_option maxHeartbeats 4000000 in
theorem kX8_pious (d : Nat) (hd : 2 ≤ d) (M : Mem) (a0 : Int) : Ct mX8_pious d 0 0 [pA a0] M (dI M) (fX8_pious M a0) := by
  obtain ⟨d, rfl⟩ : ∃ k, d = k + 1 := ⟨d - 1, by omega⟩
  refine Ct.of 2 (fun _ _ _ => trivial) (by decide +kernel) rfl ?_
  unfold fX8_pious
  refine v_iconst dX8_pious_0 (by decide) ?_
  refine v_istore_n (ls' := [some (pA a0), some (pI (-1)), none]) dX8_pious_1 (by decide) rfl ?_
  refine v_iconst dX8_pious_2 (by decide) ?_
  refine v_istore_n (ls' := [some (pA a0), some (pI (-1)), some (pI 0)]) dX8_pious_3 (by decide) rfl ?_
  refine v_loop (fun (s2 : Int × Int) => [some (pA a0), some (pI s2.1), some (pI s2.2)]) (fun (s2 : Int × Int) => M) (s0 := ((-1), 0)) ?_
  intro rec1 hrec1 s2
  refine v_iload_n dX8_pious_4 rfl ?_
  refine v_aload_n dX8_pious_5 rfl ?_
  refine v_if (fun h3 => ?_)
  refine v_get (v := pA (M.1 a0 0)) 8 0 rfl inX9 (by decide) tw316 dX8_pious_6 h3 rfl ?_
  refine v_if (fun h4 => ?_)
  refine v_get (v := pI (M.1 (M.1 a0 0) 1)) 7 1 rfl inX7 (by decide) tw63 dX8_pious_9 h4 rfl ?_
  refine v_icmp_ge (tgt := 41) dX8_pious_12 (by decide) (fun c5 => ?_) (fun c5 => ?_)
  · refine v_iload_n dX8_pious_15 rfl ?_
    refine v_iconst dX8_pious_16 (by decide) ?_
    refine v_icmp_eq (tgt := 33) dX8_pious_17 (by decide) (fun c6 => ?_) (fun c6 => ?_)
    · refine v_iload_n dX8_pious_33 rfl ?_
      refine v_istore_n (ls' := [some (pA a0), some (pI s2.2), some (pI s2.2)]) dX8_pious_34 (by decide) rfl ?_
      refine v_iinc (ls' := [some (pA a0), some (pI s2.2), some (pI (w32 (s2.2 + 1)))]) dX8_pious_35 (by decide) rfl rfl ?_
      refine v_goto (tgt := 4) dX8_pious_38 (by decide) ?_
      exact hrec1 (s2.2, w32 (s2.2 + 1))
    · refine v_aload_n dX8_pious_20 rfl ?_
      refine v_iload_n dX8_pious_21 rfl ?_
      refine v_cV (mi := mX8_pious) (c0 := 0) (c1 := 0) (As := [pI s2.2]) (st := []) (kX9_owesOf d (by omega) _ _ _) rfl h3 rfl okX9_owesOf (Or.inl tw832) tw786 tw787 rfl (Nat.le_of_ble_eq_true rfl) dX8_pious_22 (fun r7 => [pI r7]) (fun r7 => M) (fun _ => rfl) (fun _ => rfl) (fun r7 h8 => ?_) rfl
      refine v_aload_n dX8_pious_25 rfl ?_
      refine v_iload_n dX8_pious_26 rfl ?_
      refine v_cV (mi := mX8_pious) (c0 := 0) (c1 := 0) (As := [pI s2.1]) (st := [pI r7]) (kX9_owesOf d (by omega) _ _ _) rfl h3 rfl okX9_owesOf (Or.inl tw832) tw786 tw787 rfl (Nat.le_of_ble_eq_true rfl) dX8_pious_27 (fun r9 => [pI r9, pI r7]) (fun r9 => M) (fun _ => rfl) (fun _ => rfl) (fun r9 h10 => ?_) rfl
      refine v_icmp_ge (tgt := 35) dX8_pious_30 (by decide) (fun c11 => ?_) (fun c11 => ?_)
      · refine v_iload_n dX8_pious_33 rfl ?_
        refine v_istore_n (ls' := [some (pA a0), some (pI s2.2), some (pI s2.2)]) dX8_pious_34 (by decide) rfl ?_
        refine v_iinc (ls' := [some (pA a0), some (pI s2.2), some (pI (w32 (s2.2 + 1)))]) dX8_pious_35 (by decide) rfl rfl ?_
        refine v_goto (tgt := 4) dX8_pious_38 (by decide) ?_
        exact hrec1 (s2.2, w32 (s2.2 + 1))
      · refine v_iinc (ls' := [some (pA a0), some (pI s2.1), some (pI (w32 (s2.2 + 1)))]) dX8_pious_35 (by decide) rfl rfl ?_
        refine v_goto (tgt := 4) dX8_pious_38 (by decide) ?_
        exact hrec1 (s2.1, w32 (s2.2 + 1))
  · refine v_iload_n dX8_pious_41 rfl ?_
    exact v_ireturn dX8_pious_42 rfl rfl
theorem chX8_tookFrom_0 : (cX8_tookFrom.data.toList.drop 0).take 16 = [3, 62, 3, 54, 4, 21, 4, 8, 162, 0, 24, 29, 42, 180, 0, 72] := by decide +kernel
theorem chX8_tookFrom_1 : (cX8_tookFrom.data.toList.drop 16).take 16 = [27, 28, 21, 4, 184, 0, 75, 46, 96, 62, 132, 4, 1, 167, 255, 232] := by decide +kernel
theorem chX8_tookFrom_2 : (cX8_tookFrom.data.toList.drop 32).take 16 = [29, 172] := by decide +kernel
theorem dX8_tookFrom_0 : decode cX8_tookFrom 0 = .ok (.iconst 0, 1) := oq_3 (byt chX8_tookFrom_0 0 rfl)
theorem dX8_tookFrom_1 : decode cX8_tookFrom 1 = .ok (.istore_n 3, 1) := oq_62 (byt chX8_tookFrom_0 1 rfl)
theorem dX8_tookFrom_2 : decode cX8_tookFrom 2 = .ok (.iconst 0, 1) := oq_3 (byt chX8_tookFrom_0 2 rfl)
theorem dX8_tookFrom_3 : decode cX8_tookFrom 3 = .ok (.istore 4, 2) := oq_54 (byt chX8_tookFrom_0 3 rfl) (byt chX8_tookFrom_0 4 rfl) rfl
theorem dX8_tookFrom_5 : decode cX8_tookFrom 5 = .ok (.iload 4, 2) := oq_21 (byt chX8_tookFrom_0 5 rfl) (byt chX8_tookFrom_0 6 rfl) rfl
theorem dX8_tookFrom_7 : decode cX8_tookFrom 7 = .ok (.iconst 5, 1) := oq_8 (byt chX8_tookFrom_0 7 rfl)
theorem dX8_tookFrom_8 : decode cX8_tookFrom 8 = .ok (.if_icmp .ge 24, 3) := oq_162 (byt chX8_tookFrom_0 8 rfl) (byt chX8_tookFrom_0 9 rfl) (byt chX8_tookFrom_0 10 rfl) (by decide +kernel)
theorem dX8_tookFrom_11 : decode cX8_tookFrom 11 = .ok (.iload_n 3, 1) := oq_29 (byt chX8_tookFrom_0 11 rfl)
theorem dX8_tookFrom_12 : decode cX8_tookFrom 12 = .ok (.aload_n 0, 1) := oq_42 (byt chX8_tookFrom_0 12 rfl)
theorem dX8_tookFrom_13 : decode cX8_tookFrom 13 = .ok (.getfield 72, 3) := oq_180 (byt chX8_tookFrom_0 13 rfl) (byt chX8_tookFrom_0 14 rfl) (byt chX8_tookFrom_0 15 rfl) rfl
theorem dX8_tookFrom_16 : decode cX8_tookFrom 16 = .ok (.iload_n 1, 1) := oq_27 (byt chX8_tookFrom_1 0 rfl)
theorem dX8_tookFrom_17 : decode cX8_tookFrom 17 = .ok (.iload_n 2, 1) := oq_28 (byt chX8_tookFrom_1 1 rfl)
theorem dX8_tookFrom_18 : decode cX8_tookFrom 18 = .ok (.iload 4, 2) := oq_21 (byt chX8_tookFrom_1 2 rfl) (byt chX8_tookFrom_1 3 rfl) rfl
theorem dX8_tookFrom_20 : decode cX8_tookFrom 20 = .ok (.invokestatic 75, 3) := oq_184 (byt chX8_tookFrom_1 4 rfl) (byt chX8_tookFrom_1 5 rfl) (byt chX8_tookFrom_1 6 rfl) rfl
theorem dX8_tookFrom_23 : decode cX8_tookFrom 23 = .ok (.iaload, 1) := oq_46 (byt chX8_tookFrom_1 7 rfl)
theorem dX8_tookFrom_24 : decode cX8_tookFrom 24 = .ok (.iadd, 1) := oq_96 (byt chX8_tookFrom_1 8 rfl)
theorem dX8_tookFrom_25 : decode cX8_tookFrom 25 = .ok (.istore_n 3, 1) := oq_62 (byt chX8_tookFrom_1 9 rfl)
theorem dX8_tookFrom_26 : decode cX8_tookFrom 26 = .ok (.iinc 4 1, 3) := oq_132 (byt chX8_tookFrom_1 10 rfl) (byt chX8_tookFrom_1 11 rfl) (byt chX8_tookFrom_1 12 rfl) rfl
theorem dX8_tookFrom_29 : decode cX8_tookFrom 29 = .ok (.goto (-24), 3) := oq_167 (byt chX8_tookFrom_1 13 rfl) (byt chX8_tookFrom_1 14 rfl) (byt chX8_tookFrom_1 15 rfl) (by decide +kernel)
theorem dX8_tookFrom_32 : decode cX8_tookFrom 32 = .ok (.iload_n 3, 1) := oq_29 (byt chX8_tookFrom_2 0 rfl)
theorem dX8_tookFrom_33 : decode cX8_tookFrom 33 = .ok (.ireturn, 1) := oq_172 (byt chX8_tookFrom_2 1 rfl)
abbrev mX8_tookFrom : MI := (yX8_tookFrom, cX8_tookFrom, 5, (some .int), noE)
theorem okX8_tookFrom : cok mX8_tookFrom 3 := ⟨tw842, tw18, by decide, by decide, by decide, by decide +kernel⟩
def fX8_tookFrom (M : Mem) (a0 a1 a2 : Int) : Option Int :=
  iterC (fun (rec1 : (Int × Int) → Option Int) (s2 : Int × Int) => if s2.2 < 5 then (if M.2.1 a0 = 8 then (fX10_cell_ M a1 a2 s2.2).bind fun r5 => if M.2.1 (M.1 a0 4) = 12 ∧ (0 : Int) ≤ r5 ∧ r5 < M.2.2.1 (M.1 a0 4) then rec1 (w32 (s2.1 + (M.1 (M.1 a0 4) r5)), w32 (s2.2 + 1)) else none else none) else (some s2.1)) BIG (0, 0)
set_option maxRecDepth 100000 in
set_option maxHeartbeats 4000000 in
theorem kX8_tookFrom (d : Nat) (hd : 1 ≤ d) (M : Mem) (a0 a1 a2 : Int) : Ct mX8_tookFrom d 0 0 [pA a0, pI a1, pI a2] M (dI M) (fX8_tookFrom M a0 a1 a2) := by
  obtain ⟨d, rfl⟩ : ∃ k, d = k + 1 := ⟨d - 1, by omega⟩
  refine Ct.of 2 (fun _ _ _ => trivial) (by decide +kernel) rfl ?_
  unfold fX8_tookFrom
  refine v_iconst dX8_tookFrom_0 (by decide) ?_
  refine v_istore_n (ls' := [some (pA a0), some (pI a1), some (pI a2), some (pI 0), none]) dX8_tookFrom_1 (by decide) rfl ?_
  refine v_iconst dX8_tookFrom_2 (by decide) ?_
  refine v_istore (ls' := [some (pA a0), some (pI a1), some (pI a2), some (pI 0), some (pI 0)]) dX8_tookFrom_3 (by decide) rfl ?_
  refine v_loop (fun (s2 : Int × Int) => [some (pA a0), some (pI a1), some (pI a2), some (pI s2.1), some (pI s2.2)]) (fun (s2 : Int × Int) => M) (s0 := (0, 0)) ?_
  intro rec1 hrec1 s2
  refine v_iload dX8_tookFrom_5 rfl ?_
  refine v_iconst dX8_tookFrom_7 (by decide) ?_
  refine v_icmp_ge (tgt := 32) dX8_tookFrom_8 (by decide) (fun c3 => ?_) (fun c3 => ?_)
  · refine v_iload_n dX8_tookFrom_11 rfl ?_
    refine v_aload_n dX8_tookFrom_12 rfl ?_
    refine v_if (fun h4 => ?_)
    refine v_get (v := pA (M.1 a0 4)) 8 4 rfl inX9 (by decide) tw327 dX8_tookFrom_13 h4 rfl ?_
    refine v_iload_n dX8_tookFrom_16 rfl ?_
    refine v_iload_n dX8_tookFrom_17 rfl ?_
    refine v_iload dX8_tookFrom_18 rfl ?_
    refine v_cS (mi := mX8_tookFrom) (c0 := 0) (c1 := 0) (As := [pI a1, pI a2, pI s2.2]) (st := [pA (M.1 a0 4), pI s2.1]) (kX10_cell_ d (by omega) _ _ _ _) okX10_cell_ (Or.inr nw18) tw766 rfl (Nat.le_of_ble_eq_true rfl) dX8_tookFrom_20 (fun r5 => [pI r5, pA (M.1 a0 4), pI s2.1]) (fun r5 => M) (fun _ => rfl) (fun _ => rfl) (fun r5 h6 => ?_) rfl
    refine v_if (fun h7 => ?_)
    refine v_iaload h7 dX8_tookFrom_23 ?_
    refine v_iadd dX8_tookFrom_24 ?_
    refine v_istore_n (ls' := [some (pA a0), some (pI a1), some (pI a2), some (pI (w32 (s2.1 + (M.1 (M.1 a0 4) r5)))), some (pI s2.2)]) dX8_tookFrom_25 (by decide) rfl ?_
    refine v_iinc (ls' := [some (pA a0), some (pI a1), some (pI a2), some (pI (w32 (s2.1 + (M.1 (M.1 a0 4) r5)))), some (pI (w32 (s2.2 + 1)))]) dX8_tookFrom_26 (by decide) rfl rfl ?_
    refine v_goto (tgt := 5) dX8_tookFrom_29 (by decide) ?_
    exact hrec1 (w32 (s2.1 + (M.1 (M.1 a0 4) r5)), w32 (s2.2 + 1))
  · refine v_iload_n dX8_tookFrom_32 rfl ?_
    exact v_ireturn dX8_tookFrom_33 rfl rfl
theorem chX8_lost_0 : (cX8_lost.data.toList.drop 0).take 16 = [3, 61, 3, 62, 29, 42, 180, 0, 28, 180, 0, 66, 162, 0, 18, 28] := by decide +kernel
theorem chX8_lost_1 : (cX8_lost.data.toList.drop 16).take 16 = [42, 29, 27, 184, 0, 69, 96, 61, 132, 3, 1, 167, 255, 233, 28, 172] := by decide +kernel
theorem dX8_lost_0 : decode cX8_lost 0 = .ok (.iconst 0, 1) := oq_3 (byt chX8_lost_0 0 rfl)
theorem dX8_lost_1 : decode cX8_lost 1 = .ok (.istore_n 2, 1) := oq_61 (byt chX8_lost_0 1 rfl)
theorem dX8_lost_2 : decode cX8_lost 2 = .ok (.iconst 0, 1) := oq_3 (byt chX8_lost_0 2 rfl)
theorem dX8_lost_3 : decode cX8_lost 3 = .ok (.istore_n 3, 1) := oq_62 (byt chX8_lost_0 3 rfl)
theorem dX8_lost_4 : decode cX8_lost 4 = .ok (.iload_n 3, 1) := oq_29 (byt chX8_lost_0 4 rfl)
theorem dX8_lost_5 : decode cX8_lost 5 = .ok (.aload_n 0, 1) := oq_42 (byt chX8_lost_0 5 rfl)
theorem dX8_lost_6 : decode cX8_lost 6 = .ok (.getfield 28, 3) := oq_180 (byt chX8_lost_0 6 rfl) (byt chX8_lost_0 7 rfl) (byt chX8_lost_0 8 rfl) rfl
theorem dX8_lost_9 : decode cX8_lost 9 = .ok (.getfield 66, 3) := oq_180 (byt chX8_lost_0 9 rfl) (byt chX8_lost_0 10 rfl) (byt chX8_lost_0 11 rfl) rfl
theorem dX8_lost_12 : decode cX8_lost 12 = .ok (.if_icmp .ge 18, 3) := oq_162 (byt chX8_lost_0 12 rfl) (byt chX8_lost_0 13 rfl) (byt chX8_lost_0 14 rfl) (by decide +kernel)
theorem dX8_lost_15 : decode cX8_lost 15 = .ok (.iload_n 2, 1) := oq_28 (byt chX8_lost_0 15 rfl)
theorem dX8_lost_16 : decode cX8_lost 16 = .ok (.aload_n 0, 1) := oq_42 (byt chX8_lost_1 0 rfl)
theorem dX8_lost_17 : decode cX8_lost 17 = .ok (.iload_n 3, 1) := oq_29 (byt chX8_lost_1 1 rfl)
theorem dX8_lost_18 : decode cX8_lost 18 = .ok (.iload_n 1, 1) := oq_27 (byt chX8_lost_1 2 rfl)
theorem dX8_lost_19 : decode cX8_lost 19 = .ok (.invokestatic 69, 3) := oq_184 (byt chX8_lost_1 3 rfl) (byt chX8_lost_1 4 rfl) (byt chX8_lost_1 5 rfl) rfl
theorem dX8_lost_22 : decode cX8_lost 22 = .ok (.iadd, 1) := oq_96 (byt chX8_lost_1 6 rfl)
theorem dX8_lost_23 : decode cX8_lost 23 = .ok (.istore_n 2, 1) := oq_61 (byt chX8_lost_1 7 rfl)
theorem dX8_lost_24 : decode cX8_lost 24 = .ok (.iinc 3 1, 3) := oq_132 (byt chX8_lost_1 8 rfl) (byt chX8_lost_1 9 rfl) (byt chX8_lost_1 10 rfl) rfl
theorem dX8_lost_27 : decode cX8_lost 27 = .ok (.goto (-23), 3) := oq_167 (byt chX8_lost_1 11 rfl) (byt chX8_lost_1 12 rfl) (byt chX8_lost_1 13 rfl) (by decide +kernel)
theorem dX8_lost_30 : decode cX8_lost 30 = .ok (.iload_n 2, 1) := oq_28 (byt chX8_lost_1 14 rfl)
theorem dX8_lost_31 : decode cX8_lost 31 = .ok (.ireturn, 1) := oq_172 (byt chX8_lost_1 15 rfl)
abbrev mX8_lost : MI := (yX8_lost, cX8_lost, 4, (some .int), noE)
theorem okX8_lost : cok mX8_lost 2 := ⟨tw839, tw18, by decide, by decide, by decide, by decide +kernel⟩
def fX8_lost (M : Mem) (a0 a1 : Int) : Option Int :=
  iterC (fun (rec1 : (Int × Int) → Option Int) (s2 : Int × Int) => if M.2.1 a0 = 8 then if M.2.1 (M.1 a0 0) = 7 then if s2.2 < M.1 (M.1 a0 0) 1 then ((fX8_tookFrom M a0 s2.2 a1).bind fun r6 => rec1 (w32 (s2.1 + r6), w32 (s2.2 + 1))) else (some s2.1) else none else none) BIG (0, 0)
set_option maxRecDepth 100000 in
set_option maxHeartbeats 4000000 in
theorem kX8_lost (d : Nat) (hd : 2 ≤ d) (M : Mem) (a0 a1 : Int) : Ct mX8_lost d 0 0 [pA a0, pI a1] M (dI M) (fX8_lost M a0 a1) := by
  obtain ⟨d, rfl⟩ : ∃ k, d = k + 1 := ⟨d - 1, by omega⟩
  refine Ct.of 2 (fun _ _ _ => trivial) (by decide +kernel) rfl ?_
  unfold fX8_lost
  refine v_iconst dX8_lost_0 (by decide) ?_
  refine v_istore_n (ls' := [some (pA a0), some (pI a1), some (pI 0), none]) dX8_lost_1 (by decide) rfl ?_
  refine v_iconst dX8_lost_2 (by decide) ?_
  refine v_istore_n (ls' := [some (pA a0), some (pI a1), some (pI 0), some (pI 0)]) dX8_lost_3 (by decide) rfl ?_
  refine v_loop (fun (s2 : Int × Int) => [some (pA a0), some (pI a1), some (pI s2.1), some (pI s2.2)]) (fun (s2 : Int × Int) => M) (s0 := (0, 0)) ?_
  intro rec1 hrec1 s2
  refine v_iload_n dX8_lost_4 rfl ?_
  refine v_aload_n dX8_lost_5 rfl ?_
  refine v_if (fun h3 => ?_)
  refine v_get (v := pA (M.1 a0 0)) 8 0 rfl inX9 (by decide) tw316 dX8_lost_6 h3 rfl ?_
  refine v_if (fun h4 => ?_)
  refine v_get (v := pI (M.1 (M.1 a0 0) 1)) 7 1 rfl inX7 (by decide) tw63 dX8_lost_9 h4 rfl ?_
  refine v_icmp_ge (tgt := 30) dX8_lost_12 (by decide) (fun c5 => ?_) (fun c5 => ?_)
  · refine v_iload_n dX8_lost_15 rfl ?_
    refine v_aload_n dX8_lost_16 rfl ?_
    refine v_iload_n dX8_lost_17 rfl ?_
    refine v_iload_n dX8_lost_18 rfl ?_
    refine v_cS (mi := mX8_lost) (c0 := 0) (c1 := 0) (As := [pA a0, pI s2.2, pI a1]) (st := [pI s2.1]) (kX8_tookFrom d (by omega) _ _ _ _) okX8_tookFrom (Or.inl tw840) tw841 rfl (Nat.le_of_ble_eq_true rfl) dX8_lost_19 (fun r6 => [pI r6, pI s2.1]) (fun r6 => M) (fun _ => rfl) (fun _ => rfl) (fun r6 h7 => ?_) rfl
    refine v_iadd dX8_lost_22 ?_
    refine v_istore_n (ls' := [some (pA a0), some (pI a1), some (pI (w32 (s2.1 + r6))), some (pI s2.2)]) dX8_lost_23 (by decide) rfl ?_
    refine v_iinc (ls' := [some (pA a0), some (pI a1), some (pI (w32 (s2.1 + r6))), some (pI (w32 (s2.2 + 1)))]) dX8_lost_24 (by decide) rfl rfl ?_
    refine v_goto (tgt := 4) dX8_lost_27 (by decide) ?_
    exact hrec1 (w32 (s2.1 + r6), w32 (s2.2 + 1))
  · refine v_iload_n dX8_lost_30 rfl ?_
    exact v_ireturn dX8_lost_31 rfl rfl
theorem chX8_seenOf_0 : (cX8_seenOf.data.toList.drop 0).take 16 = [27, 16, 6, 160, 0, 26, 42, 180, 0, 28, 28, 182, 0, 32, 153, 0] := by decide +kernel
theorem chX8_seenOf_1 : (cX8_seenOf.data.toList.drop 16).take 16 = [11, 42, 28, 184, 0, 38, 167, 0, 6, 17, 252, 24, 172, 42, 180, 0] := by decide +kernel
theorem chX8_seenOf_2 : (cX8_seenOf.data.toList.drop 32).take 16 = [28, 28, 182, 0, 42, 154, 0, 7, 17, 252, 24, 172, 27, 170, 0, 0] := by decide +kernel
theorem chX8_seenOf_4 : (cX8_seenOf.data.toList.drop 64).take 16 = [0, 0, 0, 34, 0, 0, 0, 41, 42, 180, 0, 45, 28, 46, 172, 42] := by decide +kernel
theorem chX8_seenOf_5 : (cX8_seenOf.data.toList.drop 80).take 16 = [180, 0, 49, 28, 46, 172, 42, 28, 182, 0, 52, 172, 42, 180, 0, 56] := by decide +kernel
theorem chX8_seenOf_6 : (cX8_seenOf.data.toList.drop 96).take 16 = [28, 46, 172] := by decide +kernel
theorem dX8_seenOf_0 : decode cX8_seenOf 0 = .ok (.iload_n 1, 1) := oq_27 (byt chX8_seenOf_0 0 rfl)
theorem dX8_seenOf_1 : decode cX8_seenOf 1 = .ok (.bipush 6, 2) := oq_16 (byt chX8_seenOf_0 1 rfl) (byt chX8_seenOf_0 2 rfl) rfl
theorem dX8_seenOf_3 : decode cX8_seenOf 3 = .ok (.if_icmp .ne 26, 3) := oq_160 (byt chX8_seenOf_0 3 rfl) (byt chX8_seenOf_0 4 rfl) (byt chX8_seenOf_0 5 rfl) (by decide +kernel)
theorem dX8_seenOf_6 : decode cX8_seenOf 6 = .ok (.aload_n 0, 1) := oq_42 (byt chX8_seenOf_0 6 rfl)
theorem dX8_seenOf_7 : decode cX8_seenOf 7 = .ok (.getfield 28, 3) := oq_180 (byt chX8_seenOf_0 7 rfl) (byt chX8_seenOf_0 8 rfl) (byt chX8_seenOf_0 9 rfl) rfl
theorem dX8_seenOf_10 : decode cX8_seenOf 10 = .ok (.iload_n 2, 1) := oq_28 (byt chX8_seenOf_0 10 rfl)
theorem dX8_seenOf_11 : decode cX8_seenOf 11 = .ok (.invokevirtual 32, 3) := oq_182 (byt chX8_seenOf_0 11 rfl) (byt chX8_seenOf_0 12 rfl) (byt chX8_seenOf_0 13 rfl) rfl
theorem dX8_seenOf_14 : decode cX8_seenOf 14 = .ok (.ifCond .eq 11, 3) := oq_153 (byt chX8_seenOf_0 14 rfl) (byt chX8_seenOf_0 15 rfl) (byt chX8_seenOf_1 0 rfl) (by decide +kernel)
theorem dX8_seenOf_17 : decode cX8_seenOf 17 = .ok (.aload_n 0, 1) := oq_42 (byt chX8_seenOf_1 1 rfl)
theorem dX8_seenOf_18 : decode cX8_seenOf 18 = .ok (.iload_n 2, 1) := oq_28 (byt chX8_seenOf_1 2 rfl)
theorem dX8_seenOf_19 : decode cX8_seenOf 19 = .ok (.invokestatic 38, 3) := oq_184 (byt chX8_seenOf_1 3 rfl) (byt chX8_seenOf_1 4 rfl) (byt chX8_seenOf_1 5 rfl) rfl
theorem dX8_seenOf_22 : decode cX8_seenOf 22 = .ok (.goto 6, 3) := oq_167 (byt chX8_seenOf_1 6 rfl) (byt chX8_seenOf_1 7 rfl) (byt chX8_seenOf_1 8 rfl) (by decide +kernel)
theorem dX8_seenOf_25 : decode cX8_seenOf 25 = .ok (.sipush (-1000), 3) := oq_17 (byt chX8_seenOf_1 9 rfl) (byt chX8_seenOf_1 10 rfl) (byt chX8_seenOf_1 11 rfl) (by decide +kernel)
theorem dX8_seenOf_28 : decode cX8_seenOf 28 = .ok (.ireturn, 1) := oq_172 (byt chX8_seenOf_1 12 rfl)
theorem dX8_seenOf_29 : decode cX8_seenOf 29 = .ok (.aload_n 0, 1) := oq_42 (byt chX8_seenOf_1 13 rfl)
theorem dX8_seenOf_30 : decode cX8_seenOf 30 = .ok (.getfield 28, 3) := oq_180 (byt chX8_seenOf_1 14 rfl) (byt chX8_seenOf_1 15 rfl) (byt chX8_seenOf_2 0 rfl) rfl
theorem dX8_seenOf_33 : decode cX8_seenOf 33 = .ok (.iload_n 2, 1) := oq_28 (byt chX8_seenOf_2 1 rfl)
theorem dX8_seenOf_34 : decode cX8_seenOf 34 = .ok (.invokevirtual 42, 3) := oq_182 (byt chX8_seenOf_2 2 rfl) (byt chX8_seenOf_2 3 rfl) (byt chX8_seenOf_2 4 rfl) rfl
theorem dX8_seenOf_37 : decode cX8_seenOf 37 = .ok (.ifCond .ne 7, 3) := oq_154 (byt chX8_seenOf_2 5 rfl) (byt chX8_seenOf_2 6 rfl) (byt chX8_seenOf_2 7 rfl) (by decide +kernel)
theorem dX8_seenOf_40 : decode cX8_seenOf 40 = .ok (.sipush (-1000), 3) := oq_17 (byt chX8_seenOf_2 8 rfl) (byt chX8_seenOf_2 9 rfl) (byt chX8_seenOf_2 10 rfl) (by decide +kernel)
theorem dX8_seenOf_43 : decode cX8_seenOf 43 = .ok (.ireturn, 1) := oq_172 (byt chX8_seenOf_2 11 rfl)
theorem dX8_seenOf_44 : decode cX8_seenOf 44 = .ok (.iload_n 1, 1) := oq_27 (byt chX8_seenOf_2 12 rfl)
theorem dX8_seenOf_45 : decode cX8_seenOf 45 = .ok (.tableswitch 47 2 4 #[27, 34, 41], 27) := by decide +kernel
theorem dX8_seenOf_72 : decode cX8_seenOf 72 = .ok (.aload_n 0, 1) := oq_42 (byt chX8_seenOf_4 8 rfl)
theorem dX8_seenOf_73 : decode cX8_seenOf 73 = .ok (.getfield 45, 3) := oq_180 (byt chX8_seenOf_4 9 rfl) (byt chX8_seenOf_4 10 rfl) (byt chX8_seenOf_4 11 rfl) rfl
theorem dX8_seenOf_76 : decode cX8_seenOf 76 = .ok (.iload_n 2, 1) := oq_28 (byt chX8_seenOf_4 12 rfl)
theorem dX8_seenOf_77 : decode cX8_seenOf 77 = .ok (.iaload, 1) := oq_46 (byt chX8_seenOf_4 13 rfl)
theorem dX8_seenOf_78 : decode cX8_seenOf 78 = .ok (.ireturn, 1) := oq_172 (byt chX8_seenOf_4 14 rfl)
theorem dX8_seenOf_79 : decode cX8_seenOf 79 = .ok (.aload_n 0, 1) := oq_42 (byt chX8_seenOf_4 15 rfl)
theorem dX8_seenOf_80 : decode cX8_seenOf 80 = .ok (.getfield 49, 3) := oq_180 (byt chX8_seenOf_5 0 rfl) (byt chX8_seenOf_5 1 rfl) (byt chX8_seenOf_5 2 rfl) rfl
theorem dX8_seenOf_83 : decode cX8_seenOf 83 = .ok (.iload_n 2, 1) := oq_28 (byt chX8_seenOf_5 3 rfl)
theorem dX8_seenOf_84 : decode cX8_seenOf 84 = .ok (.iaload, 1) := oq_46 (byt chX8_seenOf_5 4 rfl)
theorem dX8_seenOf_85 : decode cX8_seenOf 85 = .ok (.ireturn, 1) := oq_172 (byt chX8_seenOf_5 5 rfl)
theorem dX8_seenOf_86 : decode cX8_seenOf 86 = .ok (.aload_n 0, 1) := oq_42 (byt chX8_seenOf_5 6 rfl)
theorem dX8_seenOf_87 : decode cX8_seenOf 87 = .ok (.iload_n 2, 1) := oq_28 (byt chX8_seenOf_5 7 rfl)
theorem dX8_seenOf_88 : decode cX8_seenOf 88 = .ok (.invokevirtual 52, 3) := oq_182 (byt chX8_seenOf_5 8 rfl) (byt chX8_seenOf_5 9 rfl) (byt chX8_seenOf_5 10 rfl) rfl
theorem dX8_seenOf_91 : decode cX8_seenOf 91 = .ok (.ireturn, 1) := oq_172 (byt chX8_seenOf_5 11 rfl)
theorem dX8_seenOf_92 : decode cX8_seenOf 92 = .ok (.aload_n 0, 1) := oq_42 (byt chX8_seenOf_5 12 rfl)
theorem dX8_seenOf_93 : decode cX8_seenOf 93 = .ok (.getfield 56, 3) := oq_180 (byt chX8_seenOf_5 13 rfl) (byt chX8_seenOf_5 14 rfl) (byt chX8_seenOf_5 15 rfl) rfl
theorem dX8_seenOf_96 : decode cX8_seenOf 96 = .ok (.iload_n 2, 1) := oq_28 (byt chX8_seenOf_6 0 rfl)
theorem dX8_seenOf_97 : decode cX8_seenOf 97 = .ok (.iaload, 1) := oq_46 (byt chX8_seenOf_6 1 rfl)
theorem dX8_seenOf_98 : decode cX8_seenOf 98 = .ok (.ireturn, 1) := oq_172 (byt chX8_seenOf_6 2 rfl)
abbrev mX8_seenOf : MI := (yX8_seenOf, cX8_seenOf, 3, (some .int), noE)
theorem okX8_seenOf : cok mX8_seenOf 3 := ⟨tw835, tw18, by decide, by decide, by decide, by decide +kernel⟩
def fX8_seenOf (M : Mem) (a0 a1 a2 : Int) : Option Int :=
  if a1 = 6 then (if M.2.1 a0 = 8 then if M.2.1 (M.1 a0 0) = 7 then (fX7_isHouse M (M.1 a0 0) a2).bind fun r3 => if r3 = 0 then (some (-1000)) else ((fX8_lost M a0 a2).bind fun r7 => some r7) else none else none) else (if M.2.1 a0 = 8 then if M.2.1 (M.1 a0 0) = 7 then (fX7_isThief M (M.1 a0 0) a2).bind fun r10 => if r10 = 0 then (some (-1000)) else (if a1 = 2 then (if M.2.1 (M.1 a0 6) = 12 ∧ (0 : Int) ≤ a2 ∧ a2 < M.2.2.1 (M.1 a0 6) then some (M.1 (M.1 a0 6) a2) else none) else if a1 = 3 then (if M.2.1 (M.1 a0 7) = 12 ∧ (0 : Int) ≤ a2 ∧ a2 < M.2.2.1 (M.1 a0 7) then some (M.1 (M.1 a0 7) a2) else none) else if a1 = 4 then ((fX9_owesOf M a0 a2).bind fun r19 => some r19) else if M.2.1 (M.1 a0 8) = 12 ∧ (0 : Int) ≤ a2 ∧ a2 < M.2.2.1 (M.1 a0 8) then some (M.1 (M.1 a0 8) a2) else none) else none else none)
set_option maxRecDepth 100000 in
set_option maxHeartbeats 4000000 in
theorem kX8_seenOf (d : Nat) (hd : 3 ≤ d) (M : Mem) (a0 a1 a2 : Int) : Ct mX8_seenOf d 0 0 [pA a0, pI a1, pI a2] M (dI M) (fX8_seenOf M a0 a1 a2) := by
  obtain ⟨d, rfl⟩ : ∃ k, d = k + 1 := ⟨d - 1, by omega⟩
  refine Ct.of 0 (fun _ _ _ => trivial) (by decide +kernel) rfl ?_
  unfold fX8_seenOf
  refine v_iload_n dX8_seenOf_0 rfl ?_
  refine v_bipush dX8_seenOf_1 (by decide) ?_
  refine v_icmp_ne (tgt := 29) dX8_seenOf_3 (by decide) (fun c1 => ?_) (fun c1 => ?_)
  · refine v_aload_n dX8_seenOf_6 rfl ?_
    refine v_if (fun h2 => ?_)
    refine v_get (v := pA (M.1 a0 0)) 8 0 rfl inX9 (by decide) tw316 dX8_seenOf_7 h2 rfl ?_
    refine v_iload_n dX8_seenOf_10 rfl ?_
    refine v_if (fun h5 => ?_)
    refine v_cV (mi := mX8_seenOf) (c0 := 0) (c1 := 0) (As := [pI a2]) (st := []) (kX7_isHouse d (by omega) _ _ _) rfl h5 rfl okX7_isHouse (Or.inl tw836) tw685 tw686 rfl (Nat.le_of_ble_eq_true rfl) dX8_seenOf_11 (fun r3 => [pI r3]) (fun r3 => M) (fun _ => rfl) (fun _ => rfl) (fun r3 h4 => ?_) rfl
    refine v_if_eq (tgt := 25) dX8_seenOf_14 (by decide) (fun c6 => ?_) (fun c6 => ?_)
    · refine v_sipush dX8_seenOf_25 (by decide) ?_
      exact v_ireturn dX8_seenOf_28 rfl rfl
    · refine v_aload_n dX8_seenOf_17 rfl ?_
      refine v_iload_n dX8_seenOf_18 rfl ?_
      refine v_cS (mi := mX8_seenOf) (c0 := 0) (c1 := 0) (As := [pA a0, pI a2]) (st := []) (kX8_lost d (by omega) _ _ _) okX8_lost (Or.inl tw837) tw838 rfl (Nat.le_of_ble_eq_true rfl) dX8_seenOf_19 (fun r7 => [pI r7]) (fun r7 => M) (fun _ => rfl) (fun _ => rfl) (fun r7 h8 => ?_) rfl
      refine v_goto (tgt := 28) dX8_seenOf_22 (by decide) ?_
      exact v_ireturn dX8_seenOf_28 rfl rfl
  · refine v_aload_n dX8_seenOf_29 rfl ?_
    refine v_if (fun h9 => ?_)
    refine v_get (v := pA (M.1 a0 0)) 8 0 rfl inX9 (by decide) tw316 dX8_seenOf_30 h9 rfl ?_
    refine v_iload_n dX8_seenOf_33 rfl ?_
    refine v_if (fun h12 => ?_)
    refine v_cV (mi := mX8_seenOf) (c0 := 0) (c1 := 0) (As := [pI a2]) (st := []) (kX7_isThief d (by omega) _ _ _) rfl h12 rfl okX7_isThief (Or.inl tw844) tw692 tw693 rfl (Nat.le_of_ble_eq_true rfl) dX8_seenOf_34 (fun r10 => [pI r10]) (fun r10 => M) (fun _ => rfl) (fun _ => rfl) (fun r10 h11 => ?_) rfl
    refine v_if_ne (tgt := 44) dX8_seenOf_37 (by decide) (fun c13 => ?_) (fun c13 => ?_)
    · refine v_sipush dX8_seenOf_40 (by decide) ?_
      exact v_ireturn dX8_seenOf_43 rfl rfl
    · refine v_iload_n dX8_seenOf_44 rfl ?_
      refine v_ite (fun h14 => ?_) (fun h14 => ?_)
      · refine v_tabIn (off := 27) (tgt := 72) dX8_seenOf_45 h14 (by decide) ?_
        refine v_aload_n dX8_seenOf_72 rfl ?_
        refine v_get (v := pA (M.1 a0 6)) 8 6 rfl inX9 (by decide) tw332 dX8_seenOf_73 h9 rfl ?_
        refine v_iload_n dX8_seenOf_76 rfl ?_
        refine v_if (fun h15 => ?_)
        refine v_iaload h15 dX8_seenOf_77 ?_
        exact v_ireturn dX8_seenOf_78 rfl rfl
      · refine v_ite (fun h16 => ?_) (fun h16 => ?_)
        · refine v_tabIn (off := 34) (tgt := 79) dX8_seenOf_45 h16 (by decide) ?_
          refine v_aload_n dX8_seenOf_79 rfl ?_
          refine v_get (v := pA (M.1 a0 7)) 8 7 rfl inX9 (by decide) tw334 dX8_seenOf_80 h9 rfl ?_
          refine v_iload_n dX8_seenOf_83 rfl ?_
          refine v_if (fun h17 => ?_)
          refine v_iaload h17 dX8_seenOf_84 ?_
          exact v_ireturn dX8_seenOf_85 rfl rfl
        · refine v_ite (fun h18 => ?_) (fun h18 => ?_)
          · refine v_tabIn (off := 41) (tgt := 86) dX8_seenOf_45 h18 (by decide) ?_
            refine v_aload_n dX8_seenOf_86 rfl ?_
            refine v_iload_n dX8_seenOf_87 rfl ?_
            refine v_cV (mi := mX8_seenOf) (c0 := 0) (c1 := 0) (As := [pI a2]) (st := []) (kX9_owesOf d (by omega) _ _ _) rfl h9 rfl okX9_owesOf (Or.inl tw832) tw786 tw787 rfl (Nat.le_of_ble_eq_true rfl) dX8_seenOf_88 (fun r19 => [pI r19]) (fun r19 => M) (fun _ => rfl) (fun _ => rfl) (fun r19 h20 => ?_) rfl
            exact v_ireturn dX8_seenOf_91 rfl rfl
          · refine v_tabOut (tgt := 92) dX8_seenOf_45 (by omega) (by decide) ?_
            refine v_aload_n dX8_seenOf_92 rfl ?_
            refine v_get (v := pA (M.1 a0 8)) 8 8 rfl inX9 (by decide) tw336 dX8_seenOf_93 h9 rfl ?_
            refine v_iload_n dX8_seenOf_96 rfl ?_
            refine v_if (fun h21 => ?_)
            refine v_iaload h21 dX8_seenOf_97 ?_
            exact v_ireturn dX8_seenOf_98 rfl rfl
theorem chX8_seen_0 : (cX8_seen.data.toList.drop 0).take 16 = [27, 170, 0, 0, 0, 0, 0, 42, 0, 0, 0, 1, 0, 0, 0, 3] := by decide +kernel
theorem chX8_seen_1 : (cX8_seen.data.toList.drop 16).take 16 = [0, 0, 0, 27, 0, 0, 0, 32, 0, 0, 0, 37, 42, 184, 0, 9] := by decide +kernel
theorem chX8_seen_2 : (cX8_seen.data.toList.drop 32).take 16 = [172, 42, 180, 0, 15, 172, 42, 184, 0, 21, 172, 27, 16, 20, 161, 0] := by decide +kernel
theorem chX8_seen_3 : (cX8_seen.data.toList.drop 48).take 16 = [24, 27, 16, 70, 162, 0, 18, 42, 27, 16, 10, 108, 27, 16, 10, 112] := by decide +kernel
theorem chX8_seen_4 : (cX8_seen.data.toList.drop 64).take 16 = [184, 0, 24, 167, 0, 6, 17, 252, 24, 172] := by decide +kernel
theorem dX8_seen_0 : decode cX8_seen 0 = .ok (.iload_n 1, 1) := oq_27 (byt chX8_seen_0 0 rfl)
theorem dX8_seen_1 : decode cX8_seen 1 = .ok (.tableswitch 42 1 3 #[27, 32, 37], 27) := by decide +kernel
theorem dX8_seen_28 : decode cX8_seen 28 = .ok (.aload_n 0, 1) := oq_42 (byt chX8_seen_1 12 rfl)
theorem dX8_seen_29 : decode cX8_seen 29 = .ok (.invokestatic 9, 3) := oq_184 (byt chX8_seen_1 13 rfl) (byt chX8_seen_1 14 rfl) (byt chX8_seen_1 15 rfl) rfl
theorem dX8_seen_32 : decode cX8_seen 32 = .ok (.ireturn, 1) := oq_172 (byt chX8_seen_2 0 rfl)
theorem dX8_seen_33 : decode cX8_seen 33 = .ok (.aload_n 0, 1) := oq_42 (byt chX8_seen_2 1 rfl)
theorem dX8_seen_34 : decode cX8_seen 34 = .ok (.getfield 15, 3) := oq_180 (byt chX8_seen_2 2 rfl) (byt chX8_seen_2 3 rfl) (byt chX8_seen_2 4 rfl) rfl
theorem dX8_seen_37 : decode cX8_seen 37 = .ok (.ireturn, 1) := oq_172 (byt chX8_seen_2 5 rfl)
theorem dX8_seen_38 : decode cX8_seen 38 = .ok (.aload_n 0, 1) := oq_42 (byt chX8_seen_2 6 rfl)
theorem dX8_seen_39 : decode cX8_seen 39 = .ok (.invokestatic 21, 3) := oq_184 (byt chX8_seen_2 7 rfl) (byt chX8_seen_2 8 rfl) (byt chX8_seen_2 9 rfl) rfl
theorem dX8_seen_42 : decode cX8_seen 42 = .ok (.ireturn, 1) := oq_172 (byt chX8_seen_2 10 rfl)
theorem dX8_seen_43 : decode cX8_seen 43 = .ok (.iload_n 1, 1) := oq_27 (byt chX8_seen_2 11 rfl)
theorem dX8_seen_44 : decode cX8_seen 44 = .ok (.bipush 20, 2) := oq_16 (byt chX8_seen_2 12 rfl) (byt chX8_seen_2 13 rfl) rfl
theorem dX8_seen_46 : decode cX8_seen 46 = .ok (.if_icmp .lt 24, 3) := oq_161 (byt chX8_seen_2 14 rfl) (byt chX8_seen_2 15 rfl) (byt chX8_seen_3 0 rfl) (by decide +kernel)
theorem dX8_seen_49 : decode cX8_seen 49 = .ok (.iload_n 1, 1) := oq_27 (byt chX8_seen_3 1 rfl)
theorem dX8_seen_50 : decode cX8_seen 50 = .ok (.bipush 70, 2) := oq_16 (byt chX8_seen_3 2 rfl) (byt chX8_seen_3 3 rfl) rfl
theorem dX8_seen_52 : decode cX8_seen 52 = .ok (.if_icmp .ge 18, 3) := oq_162 (byt chX8_seen_3 4 rfl) (byt chX8_seen_3 5 rfl) (byt chX8_seen_3 6 rfl) (by decide +kernel)
theorem dX8_seen_55 : decode cX8_seen 55 = .ok (.aload_n 0, 1) := oq_42 (byt chX8_seen_3 7 rfl)
theorem dX8_seen_56 : decode cX8_seen 56 = .ok (.iload_n 1, 1) := oq_27 (byt chX8_seen_3 8 rfl)
theorem dX8_seen_57 : decode cX8_seen 57 = .ok (.bipush 10, 2) := oq_16 (byt chX8_seen_3 9 rfl) (byt chX8_seen_3 10 rfl) rfl
theorem dX8_seen_59 : decode cX8_seen 59 = .ok (.idiv, 1) := oq_108 (byt chX8_seen_3 11 rfl)
theorem dX8_seen_60 : decode cX8_seen 60 = .ok (.iload_n 1, 1) := oq_27 (byt chX8_seen_3 12 rfl)
theorem dX8_seen_61 : decode cX8_seen 61 = .ok (.bipush 10, 2) := oq_16 (byt chX8_seen_3 13 rfl) (byt chX8_seen_3 14 rfl) rfl
theorem dX8_seen_63 : decode cX8_seen 63 = .ok (.irem, 1) := oq_112 (byt chX8_seen_3 15 rfl)
theorem dX8_seen_64 : decode cX8_seen 64 = .ok (.invokestatic 24, 3) := oq_184 (byt chX8_seen_4 0 rfl) (byt chX8_seen_4 1 rfl) (byt chX8_seen_4 2 rfl) rfl
theorem dX8_seen_67 : decode cX8_seen 67 = .ok (.goto 6, 3) := oq_167 (byt chX8_seen_4 3 rfl) (byt chX8_seen_4 4 rfl) (byt chX8_seen_4 5 rfl) (by decide +kernel)
theorem dX8_seen_70 : decode cX8_seen 70 = .ok (.sipush (-1000), 3) := oq_17 (byt chX8_seen_4 6 rfl) (byt chX8_seen_4 7 rfl) (byt chX8_seen_4 8 rfl) (by decide +kernel)
theorem dX8_seen_73 : decode cX8_seen 73 = .ok (.ireturn, 1) := oq_172 (byt chX8_seen_4 9 rfl)
abbrev mX8_seen : MI := (yX8_seen, cX8_seen, 2, (some .int), noE)
theorem okX8_seen : cok mX8_seen 2 := ⟨tw820, tw18, by decide, by decide, by decide, by decide +kernel⟩
def fX8_seen (M : Mem) (a0 a1 : Int) : Option Int :=
  if a1 = 1 then ((fX8_want M a0).bind fun r2 => some r2) else if a1 = 2 then (if M.2.1 a0 = 8 then some (M.1 a0 13) else none) else if a1 = 3 then ((fX8_pious M a0).bind fun r7 => some r7) else if a1 < 20 then (some (-1000)) else (if a1 < 70 then ((fX8_seenOf M a0 (w32 (a1.tdiv 10)) (a1.tmod 10)).bind fun r11 => some r11) else (some (-1000)))
set_option maxRecDepth 100000 in
set_option maxHeartbeats 4000000 in
theorem kX8_seen (d : Nat) (hd : 4 ≤ d) (M : Mem) (a0 a1 : Int) : Ct mX8_seen d 0 0 [pA a0, pI a1] M (dI M) (fX8_seen M a0 a1) := by
  obtain ⟨d, rfl⟩ : ∃ k, d = k + 1 := ⟨d - 1, by omega⟩
  refine Ct.of 0 (fun _ _ _ => trivial) (by decide +kernel) rfl ?_
  unfold fX8_seen
  refine v_iload_n dX8_seen_0 rfl ?_
  refine v_ite (fun h1 => ?_) (fun h1 => ?_)
  · refine v_tabIn (off := 27) (tgt := 28) dX8_seen_1 h1 (by decide) ?_
    refine v_aload_n dX8_seen_28 rfl ?_
    refine v_cS (mi := mX8_seen) (c0 := 0) (c1 := 0) (As := [pA a0]) (st := []) (kX8_want d (by omega) _ _) okX8_want (Or.inl tw821) tw822 rfl (Nat.le_of_ble_eq_true rfl) dX8_seen_29 (fun r2 => [pI r2]) (fun r2 => M) (fun _ => rfl) (fun _ => rfl) (fun r2 h3 => ?_) rfl
    exact v_ireturn dX8_seen_32 rfl rfl
  · refine v_ite (fun h4 => ?_) (fun h4 => ?_)
    · refine v_tabIn (off := 32) (tgt := 33) dX8_seen_1 h4 (by decide) ?_
      refine v_aload_n dX8_seen_33 rfl ?_
      refine v_if (fun h5 => ?_)
      refine v_get (v := pI (M.1 a0 13)) 8 13 rfl inX9 (by decide) tw343 dX8_seen_34 h5 rfl ?_
      exact v_ireturn dX8_seen_37 rfl rfl
    · refine v_ite (fun h6 => ?_) (fun h6 => ?_)
      · refine v_tabIn (off := 37) (tgt := 38) dX8_seen_1 h6 (by decide) ?_
        refine v_aload_n dX8_seen_38 rfl ?_
        refine v_cS (mi := mX8_seen) (c0 := 0) (c1 := 0) (As := [pA a0]) (st := []) (kX8_pious d (by omega) _ _) okX8_pious (Or.inl tw829) tw830 rfl (Nat.le_of_ble_eq_true rfl) dX8_seen_39 (fun r7 => [pI r7]) (fun r7 => M) (fun _ => rfl) (fun _ => rfl) (fun r7 h8 => ?_) rfl
        exact v_ireturn dX8_seen_42 rfl rfl
      · refine v_tabOut (tgt := 43) dX8_seen_1 (by omega) (by decide) ?_
        refine v_iload_n dX8_seen_43 rfl ?_
        refine v_bipush dX8_seen_44 (by decide) ?_
        refine v_icmp_lt (tgt := 70) dX8_seen_46 (by decide) (fun c9 => ?_) (fun c9 => ?_)
        · refine v_sipush dX8_seen_70 (by decide) ?_
          exact v_ireturn dX8_seen_73 rfl rfl
        · refine v_iload_n dX8_seen_49 rfl ?_
          refine v_bipush dX8_seen_50 (by decide) ?_
          refine v_icmp_ge (tgt := 70) dX8_seen_52 (by decide) (fun c10 => ?_) (fun c10 => ?_)
          · refine v_aload_n dX8_seen_55 rfl ?_
            refine v_iload_n dX8_seen_56 rfl ?_
            refine v_bipush dX8_seen_57 (by decide) ?_
            refine v_idiv (by decide) dX8_seen_59 ?_
            refine v_iload_n dX8_seen_60 rfl ?_
            refine v_bipush dX8_seen_61 (by decide) ?_
            refine v_irem (by decide) dX8_seen_63 ?_
            refine v_cS (mi := mX8_seen) (c0 := 0) (c1 := 0) (As := [pA a0, pI (w32 (a1.tdiv 10)), pI (a1.tmod 10)]) (st := []) (kX8_seenOf d (by omega) _ _ _ _) okX8_seenOf (Or.inl tw833) tw834 rfl (Nat.le_of_ble_eq_true rfl) dX8_seen_64 (fun r11 => [pI r11]) (fun r11 => M) (fun _ => rfl) (fun _ => rfl) (fun r11 h12 => ?_) rfl
            refine v_goto (tgt := 73) dX8_seen_67 (by decide) ?_
            exact v_ireturn dX8_seen_73 rfl rfl
          · refine v_sipush dX8_seen_70 (by decide) ?_
            exact v_ireturn dX8_seen_73 rfl rfl
theorem chX8_isOdd_0 : (cX8_isOdd.data.toList.drop 0).take 16 = [42, 180, 0, 86, 42, 180, 0, 45, 27, 46, 182, 0, 90, 158, 0, 7] := by decide +kernel
theorem chX8_isOdd_1 : (cX8_isOdd.data.toList.drop 16).take 16 = [4, 167, 0, 4, 3, 172] := by decide +kernel
theorem dX8_isOdd_0 : decode cX8_isOdd 0 = .ok (.aload_n 0, 1) := oq_42 (byt chX8_isOdd_0 0 rfl)
theorem dX8_isOdd_1 : decode cX8_isOdd 1 = .ok (.getfield 86, 3) := oq_180 (byt chX8_isOdd_0 1 rfl) (byt chX8_isOdd_0 2 rfl) (byt chX8_isOdd_0 3 rfl) rfl
theorem dX8_isOdd_4 : decode cX8_isOdd 4 = .ok (.aload_n 0, 1) := oq_42 (byt chX8_isOdd_0 4 rfl)
theorem dX8_isOdd_5 : decode cX8_isOdd 5 = .ok (.getfield 45, 3) := oq_180 (byt chX8_isOdd_0 5 rfl) (byt chX8_isOdd_0 6 rfl) (byt chX8_isOdd_0 7 rfl) rfl
theorem dX8_isOdd_8 : decode cX8_isOdd 8 = .ok (.iload_n 1, 1) := oq_27 (byt chX8_isOdd_0 8 rfl)
theorem dX8_isOdd_9 : decode cX8_isOdd 9 = .ok (.iaload, 1) := oq_46 (byt chX8_isOdd_0 9 rfl)
theorem dX8_isOdd_10 : decode cX8_isOdd 10 = .ok (.invokevirtual 90, 3) := oq_182 (byt chX8_isOdd_0 10 rfl) (byt chX8_isOdd_0 11 rfl) (byt chX8_isOdd_0 12 rfl) rfl
theorem dX8_isOdd_13 : decode cX8_isOdd 13 = .ok (.ifCond .le 7, 3) := oq_158 (byt chX8_isOdd_0 13 rfl) (byt chX8_isOdd_0 14 rfl) (byt chX8_isOdd_0 15 rfl) (by decide +kernel)
theorem dX8_isOdd_16 : decode cX8_isOdd 16 = .ok (.iconst 1, 1) := oq_4 (byt chX8_isOdd_1 0 rfl)
theorem dX8_isOdd_17 : decode cX8_isOdd 17 = .ok (.goto 4, 3) := oq_167 (byt chX8_isOdd_1 1 rfl) (byt chX8_isOdd_1 2 rfl) (byt chX8_isOdd_1 3 rfl) (by decide +kernel)
theorem dX8_isOdd_20 : decode cX8_isOdd 20 = .ok (.iconst 0, 1) := oq_3 (byt chX8_isOdd_1 4 rfl)
theorem dX8_isOdd_21 : decode cX8_isOdd 21 = .ok (.ireturn, 1) := oq_172 (byt chX8_isOdd_1 5 rfl)
abbrev mX8_isOdd : MI := (yX8_isOdd, cX8_isOdd, 2, (some .boolean), noE)
theorem okX8_isOdd : cok mX8_isOdd 2 := ⟨tw810, tw18, by decide, by decide, by decide, by decide +kernel⟩
def fX8_isOdd (M : Mem) (a0 a1 : Int) : Option Int :=
  if M.2.1 a0 = 8 then if M.2.1 (M.1 a0 6) = 12 ∧ (0 : Int) ≤ a1 ∧ a1 < M.2.2.1 (M.1 a0 6) then if M.2.1 (M.1 a0 1) = 0 then (fX0_oddOf M (M.1 a0 1) (M.1 (M.1 a0 6) a1)).bind fun r3 => if 0 < r3 then (some 1) else (some 0) else none else none else none
set_option maxRecDepth 100000 in
set_option maxHeartbeats 4000000 in
theorem kX8_isOdd (d : Nat) (hd : 1 ≤ d) (M : Mem) (a0 a1 : Int) : Ct mX8_isOdd d 0 0 [pA a0, pI a1] M (dI M) (fX8_isOdd M a0 a1) := by
  obtain ⟨d, rfl⟩ : ∃ k, d = k + 1 := ⟨d - 1, by omega⟩
  refine Ct.of 0 (fun _ _ _ => trivial) (by decide +kernel) rfl ?_
  unfold fX8_isOdd
  refine v_aload_n dX8_isOdd_0 rfl ?_
  refine v_if (fun h1 => ?_)
  refine v_get (v := pA (M.1 a0 1)) 8 1 rfl inX9 (by decide) tw319 dX8_isOdd_1 h1 rfl ?_
  refine v_aload_n dX8_isOdd_4 rfl ?_
  refine v_get (v := pA (M.1 a0 6)) 8 6 rfl inX9 (by decide) tw332 dX8_isOdd_5 h1 rfl ?_
  refine v_iload_n dX8_isOdd_8 rfl ?_
  refine v_if (fun h2 => ?_)
  refine v_iaload h2 dX8_isOdd_9 ?_
  refine v_if (fun h5 => ?_)
  refine v_cV (mi := mX8_isOdd) (c0 := 0) (c1 := 0) (As := [pI (M.1 (M.1 a0 6) a1)]) (st := []) (kX0_oddOf d (by omega) _ _ _) rfl h5 rfl okX0_oddOf (Or.inl tw811) tw812 tw813 rfl (Nat.le_of_ble_eq_true rfl) dX8_isOdd_10 (fun r3 => [pI r3]) (fun r3 => M) (fun _ => rfl) (fun _ => rfl) (fun r3 h4 => ?_) rfl
  refine v_if_le (tgt := 20) dX8_isOdd_13 (by decide) (fun c6 => ?_) (fun c6 => ?_)
  · refine v_iconst dX8_isOdd_16 (by decide) ?_
    refine v_goto (tgt := 21) dX8_isOdd_17 (by decide) ?_
    exact v_breturn dX8_isOdd_21 rfl (by decide) rfl
  · refine v_iconst dX8_isOdd_20 (by decide) ?_
    exact v_breturn dX8_isOdd_21 rfl (by decide) rfl
theorem chX8_placeInQueue_0 : (cX8_placeInQueue.data.toList.drop 0).take 16 = [3, 61, 3, 62, 29, 42, 180, 0, 28, 180, 0, 66, 162, 0, 35, 42] := by decide +kernel
theorem chX8_placeInQueue_1 : (cX8_placeInQueue.data.toList.drop 16).take 16 = [29, 184, 0, 79, 153, 0, 21, 42, 180, 0, 95, 29, 46, 42, 180, 0] := by decide +kernel
theorem chX8_placeInQueue_2 : (cX8_placeInQueue.data.toList.drop 32).take 16 = [95, 27, 46, 162, 0, 6, 132, 2, 1, 132, 3, 1, 167, 255, 216, 28] := by decide +kernel
theorem chX8_placeInQueue_3 : (cX8_placeInQueue.data.toList.drop 48).take 16 = [172] := by decide +kernel
theorem dX8_placeInQueue_0 : decode cX8_placeInQueue 0 = .ok (.iconst 0, 1) := oq_3 (byt chX8_placeInQueue_0 0 rfl)
theorem dX8_placeInQueue_1 : decode cX8_placeInQueue 1 = .ok (.istore_n 2, 1) := oq_61 (byt chX8_placeInQueue_0 1 rfl)
theorem dX8_placeInQueue_2 : decode cX8_placeInQueue 2 = .ok (.iconst 0, 1) := oq_3 (byt chX8_placeInQueue_0 2 rfl)
theorem dX8_placeInQueue_3 : decode cX8_placeInQueue 3 = .ok (.istore_n 3, 1) := oq_62 (byt chX8_placeInQueue_0 3 rfl)
theorem dX8_placeInQueue_4 : decode cX8_placeInQueue 4 = .ok (.iload_n 3, 1) := oq_29 (byt chX8_placeInQueue_0 4 rfl)
theorem dX8_placeInQueue_5 : decode cX8_placeInQueue 5 = .ok (.aload_n 0, 1) := oq_42 (byt chX8_placeInQueue_0 5 rfl)
theorem dX8_placeInQueue_6 : decode cX8_placeInQueue 6 = .ok (.getfield 28, 3) := oq_180 (byt chX8_placeInQueue_0 6 rfl) (byt chX8_placeInQueue_0 7 rfl) (byt chX8_placeInQueue_0 8 rfl) rfl
theorem dX8_placeInQueue_9 : decode cX8_placeInQueue 9 = .ok (.getfield 66, 3) := oq_180 (byt chX8_placeInQueue_0 9 rfl) (byt chX8_placeInQueue_0 10 rfl) (byt chX8_placeInQueue_0 11 rfl) rfl
theorem dX8_placeInQueue_12 : decode cX8_placeInQueue 12 = .ok (.if_icmp .ge 35, 3) := oq_162 (byt chX8_placeInQueue_0 12 rfl) (byt chX8_placeInQueue_0 13 rfl) (byt chX8_placeInQueue_0 14 rfl) (by decide +kernel)
theorem dX8_placeInQueue_15 : decode cX8_placeInQueue 15 = .ok (.aload_n 0, 1) := oq_42 (byt chX8_placeInQueue_0 15 rfl)
theorem dX8_placeInQueue_16 : decode cX8_placeInQueue 16 = .ok (.iload_n 3, 1) := oq_29 (byt chX8_placeInQueue_1 0 rfl)
theorem dX8_placeInQueue_17 : decode cX8_placeInQueue 17 = .ok (.invokestatic 79, 3) := oq_184 (byt chX8_placeInQueue_1 1 rfl) (byt chX8_placeInQueue_1 2 rfl) (byt chX8_placeInQueue_1 3 rfl) rfl
theorem dX8_placeInQueue_20 : decode cX8_placeInQueue 20 = .ok (.ifCond .eq 21, 3) := oq_153 (byt chX8_placeInQueue_1 4 rfl) (byt chX8_placeInQueue_1 5 rfl) (byt chX8_placeInQueue_1 6 rfl) (by decide +kernel)
theorem dX8_placeInQueue_23 : decode cX8_placeInQueue 23 = .ok (.aload_n 0, 1) := oq_42 (byt chX8_placeInQueue_1 7 rfl)
theorem dX8_placeInQueue_24 : decode cX8_placeInQueue 24 = .ok (.getfield 95, 3) := oq_180 (byt chX8_placeInQueue_1 8 rfl) (byt chX8_placeInQueue_1 9 rfl) (byt chX8_placeInQueue_1 10 rfl) rfl
theorem dX8_placeInQueue_27 : decode cX8_placeInQueue 27 = .ok (.iload_n 3, 1) := oq_29 (byt chX8_placeInQueue_1 11 rfl)
theorem dX8_placeInQueue_28 : decode cX8_placeInQueue 28 = .ok (.iaload, 1) := oq_46 (byt chX8_placeInQueue_1 12 rfl)
theorem dX8_placeInQueue_29 : decode cX8_placeInQueue 29 = .ok (.aload_n 0, 1) := oq_42 (byt chX8_placeInQueue_1 13 rfl)
theorem dX8_placeInQueue_30 : decode cX8_placeInQueue 30 = .ok (.getfield 95, 3) := oq_180 (byt chX8_placeInQueue_1 14 rfl) (byt chX8_placeInQueue_1 15 rfl) (byt chX8_placeInQueue_2 0 rfl) rfl
theorem dX8_placeInQueue_33 : decode cX8_placeInQueue 33 = .ok (.iload_n 1, 1) := oq_27 (byt chX8_placeInQueue_2 1 rfl)
theorem dX8_placeInQueue_34 : decode cX8_placeInQueue 34 = .ok (.iaload, 1) := oq_46 (byt chX8_placeInQueue_2 2 rfl)
theorem dX8_placeInQueue_35 : decode cX8_placeInQueue 35 = .ok (.if_icmp .ge 6, 3) := oq_162 (byt chX8_placeInQueue_2 3 rfl) (byt chX8_placeInQueue_2 4 rfl) (byt chX8_placeInQueue_2 5 rfl) (by decide +kernel)
theorem dX8_placeInQueue_38 : decode cX8_placeInQueue 38 = .ok (.iinc 2 1, 3) := oq_132 (byt chX8_placeInQueue_2 6 rfl) (byt chX8_placeInQueue_2 7 rfl) (byt chX8_placeInQueue_2 8 rfl) rfl
theorem dX8_placeInQueue_41 : decode cX8_placeInQueue 41 = .ok (.iinc 3 1, 3) := oq_132 (byt chX8_placeInQueue_2 9 rfl) (byt chX8_placeInQueue_2 10 rfl) (byt chX8_placeInQueue_2 11 rfl) rfl
theorem dX8_placeInQueue_44 : decode cX8_placeInQueue 44 = .ok (.goto (-40), 3) := oq_167 (byt chX8_placeInQueue_2 12 rfl) (byt chX8_placeInQueue_2 13 rfl) (byt chX8_placeInQueue_2 14 rfl) (by decide +kernel)
theorem dX8_placeInQueue_47 : decode cX8_placeInQueue 47 = .ok (.iload_n 2, 1) := oq_28 (byt chX8_placeInQueue_2 15 rfl)
theorem dX8_placeInQueue_48 : decode cX8_placeInQueue 48 = .ok (.ireturn, 1) := oq_172 (byt chX8_placeInQueue_3 0 rfl)
abbrev mX8_placeInQueue : MI := (yX8_placeInQueue, cX8_placeInQueue, 4, (some .int), noE)
theorem okX8_placeInQueue : cok mX8_placeInQueue 2 := ⟨tw817, tw18, by decide, by decide, by decide, by decide +kernel⟩
def fX8_placeInQueue (M : Mem) (a0 a1 : Int) : Option Int :=
  iterC (fun (rec1 : (Int × Int) → Option Int) (s2 : Int × Int) => if M.2.1 a0 = 8 then if M.2.1 (M.1 a0 0) = 7 then if s2.2 < M.1 (M.1 a0 0) 1 then ((fX8_isOdd M a0 s2.2).bind fun r6 => if r6 = 0 then (rec1 (s2.1, w32 (s2.2 + 1))) else (if M.2.1 (M.1 a0 11) = 12 ∧ (0 : Int) ≤ s2.2 ∧ s2.2 < M.2.2.1 (M.1 a0 11) then if M.2.1 (M.1 a0 11) = 12 ∧ (0 : Int) ≤ a1 ∧ a1 < M.2.2.1 (M.1 a0 11) then if M.1 (M.1 a0 11) s2.2 < M.1 (M.1 a0 11) a1 then (rec1 (w32 (s2.1 + 1), w32 (s2.2 + 1))) else (rec1 (s2.1, w32 (s2.2 + 1))) else none else none)) else (some s2.1) else none else none) BIG (0, 0)
set_option maxRecDepth 100000 in
set_option maxHeartbeats 4000000 in
theorem kX8_placeInQueue (d : Nat) (hd : 2 ≤ d) (M : Mem) (a0 a1 : Int) : Ct mX8_placeInQueue d 0 0 [pA a0, pI a1] M (dI M) (fX8_placeInQueue M a0 a1) := by
  obtain ⟨d, rfl⟩ : ∃ k, d = k + 1 := ⟨d - 1, by omega⟩
  refine Ct.of 2 (fun _ _ _ => trivial) (by decide +kernel) rfl ?_
  unfold fX8_placeInQueue
  refine v_iconst dX8_placeInQueue_0 (by decide) ?_
  refine v_istore_n (ls' := [some (pA a0), some (pI a1), some (pI 0), none]) dX8_placeInQueue_1 (by decide) rfl ?_
  refine v_iconst dX8_placeInQueue_2 (by decide) ?_
  refine v_istore_n (ls' := [some (pA a0), some (pI a1), some (pI 0), some (pI 0)]) dX8_placeInQueue_3 (by decide) rfl ?_
  refine v_loop (fun (s2 : Int × Int) => [some (pA a0), some (pI a1), some (pI s2.1), some (pI s2.2)]) (fun (s2 : Int × Int) => M) (s0 := (0, 0)) ?_
  intro rec1 hrec1 s2
  refine v_iload_n dX8_placeInQueue_4 rfl ?_
  refine v_aload_n dX8_placeInQueue_5 rfl ?_
  refine v_if (fun h3 => ?_)
  refine v_get (v := pA (M.1 a0 0)) 8 0 rfl inX9 (by decide) tw316 dX8_placeInQueue_6 h3 rfl ?_
  refine v_if (fun h4 => ?_)
  refine v_get (v := pI (M.1 (M.1 a0 0) 1)) 7 1 rfl inX7 (by decide) tw63 dX8_placeInQueue_9 h4 rfl ?_
  refine v_icmp_ge (tgt := 47) dX8_placeInQueue_12 (by decide) (fun c5 => ?_) (fun c5 => ?_)
  · refine v_aload_n dX8_placeInQueue_15 rfl ?_
    refine v_iload_n dX8_placeInQueue_16 rfl ?_
    refine v_cS (mi := mX8_placeInQueue) (c0 := 0) (c1 := 0) (As := [pA a0, pI s2.2]) (st := []) (kX8_isOdd d (by omega) _ _ _) okX8_isOdd (Or.inl tw808) tw809 rfl (Nat.le_of_ble_eq_true rfl) dX8_placeInQueue_17 (fun r6 => [pI r6]) (fun r6 => M) (fun _ => rfl) (fun _ => rfl) (fun r6 h7 => ?_) rfl
    refine v_if_eq (tgt := 41) dX8_placeInQueue_20 (by decide) (fun c8 => ?_) (fun c8 => ?_)
    · refine v_iinc (ls' := [some (pA a0), some (pI a1), some (pI s2.1), some (pI (w32 (s2.2 + 1)))]) dX8_placeInQueue_41 (by decide) rfl rfl ?_
      refine v_goto (tgt := 4) dX8_placeInQueue_44 (by decide) ?_
      exact hrec1 (s2.1, w32 (s2.2 + 1))
    · refine v_aload_n dX8_placeInQueue_23 rfl ?_
      refine v_get (v := pA (M.1 a0 11)) 8 11 rfl inX9 (by decide) tw340 dX8_placeInQueue_24 h3 rfl ?_
      refine v_iload_n dX8_placeInQueue_27 rfl ?_
      refine v_if (fun h9 => ?_)
      refine v_iaload h9 dX8_placeInQueue_28 ?_
      refine v_aload_n dX8_placeInQueue_29 rfl ?_
      refine v_get (v := pA (M.1 a0 11)) 8 11 rfl inX9 (by decide) tw340 dX8_placeInQueue_30 h3 rfl ?_
      refine v_iload_n dX8_placeInQueue_33 rfl ?_
      refine v_if (fun h10 => ?_)
      refine v_iaload h10 dX8_placeInQueue_34 ?_
      refine v_icmp_ge (tgt := 41) dX8_placeInQueue_35 (by decide) (fun c11 => ?_) (fun c11 => ?_)
      · refine v_iinc (ls' := [some (pA a0), some (pI a1), some (pI (w32 (s2.1 + 1))), some (pI s2.2)]) dX8_placeInQueue_38 (by decide) rfl rfl ?_
        refine v_iinc (ls' := [some (pA a0), some (pI a1), some (pI (w32 (s2.1 + 1))), some (pI (w32 (s2.2 + 1)))]) dX8_placeInQueue_41 (by decide) rfl rfl ?_
        refine v_goto (tgt := 4) dX8_placeInQueue_44 (by decide) ?_
        exact hrec1 (w32 (s2.1 + 1), w32 (s2.2 + 1))
      · refine v_iinc (ls' := [some (pA a0), some (pI a1), some (pI s2.1), some (pI (w32 (s2.2 + 1)))]) dX8_placeInQueue_41 (by decide) rfl rfl ?_
        refine v_goto (tgt := 4) dX8_placeInQueue_44 (by decide) ?_
        exact hrec1 (s2.1, w32 (s2.2 + 1))
  · refine v_iload_n dX8_placeInQueue_47 rfl ?_
    exact v_ireturn dX8_placeInQueue_48 rfl rfl
theorem chX8_queued_0 : (cX8_queued.data.toList.drop 0).take 16 = [3, 61, 28, 42, 180, 0, 28, 180, 0, 66, 162, 0, 28, 42, 28, 184] := by decide +kernel
theorem chX8_queued_1 : (cX8_queued.data.toList.drop 16).take 16 = [0, 79, 153, 0, 14, 42, 28, 184, 0, 83, 27, 160, 0, 5, 28, 172] := by decide +kernel
theorem chX8_queued_2 : (cX8_queued.data.toList.drop 32).take 16 = [132, 2, 1, 167, 255, 223, 2, 172] := by decide +kernel
theorem dX8_queued_0 : decode cX8_queued 0 = .ok (.iconst 0, 1) := oq_3 (byt chX8_queued_0 0 rfl)
theorem dX8_queued_1 : decode cX8_queued 1 = .ok (.istore_n 2, 1) := oq_61 (byt chX8_queued_0 1 rfl)
theorem dX8_queued_2 : decode cX8_queued 2 = .ok (.iload_n 2, 1) := oq_28 (byt chX8_queued_0 2 rfl)
theorem dX8_queued_3 : decode cX8_queued 3 = .ok (.aload_n 0, 1) := oq_42 (byt chX8_queued_0 3 rfl)
theorem dX8_queued_4 : decode cX8_queued 4 = .ok (.getfield 28, 3) := oq_180 (byt chX8_queued_0 4 rfl) (byt chX8_queued_0 5 rfl) (byt chX8_queued_0 6 rfl) rfl
theorem dX8_queued_7 : decode cX8_queued 7 = .ok (.getfield 66, 3) := oq_180 (byt chX8_queued_0 7 rfl) (byt chX8_queued_0 8 rfl) (byt chX8_queued_0 9 rfl) rfl
theorem dX8_queued_10 : decode cX8_queued 10 = .ok (.if_icmp .ge 28, 3) := oq_162 (byt chX8_queued_0 10 rfl) (byt chX8_queued_0 11 rfl) (byt chX8_queued_0 12 rfl) (by decide +kernel)
theorem dX8_queued_13 : decode cX8_queued 13 = .ok (.aload_n 0, 1) := oq_42 (byt chX8_queued_0 13 rfl)
theorem dX8_queued_14 : decode cX8_queued 14 = .ok (.iload_n 2, 1) := oq_28 (byt chX8_queued_0 14 rfl)
theorem dX8_queued_15 : decode cX8_queued 15 = .ok (.invokestatic 79, 3) := oq_184 (byt chX8_queued_0 15 rfl) (byt chX8_queued_1 0 rfl) (byt chX8_queued_1 1 rfl) rfl
theorem dX8_queued_18 : decode cX8_queued 18 = .ok (.ifCond .eq 14, 3) := oq_153 (byt chX8_queued_1 2 rfl) (byt chX8_queued_1 3 rfl) (byt chX8_queued_1 4 rfl) (by decide +kernel)
theorem dX8_queued_21 : decode cX8_queued 21 = .ok (.aload_n 0, 1) := oq_42 (byt chX8_queued_1 5 rfl)
theorem dX8_queued_22 : decode cX8_queued 22 = .ok (.iload_n 2, 1) := oq_28 (byt chX8_queued_1 6 rfl)
theorem dX8_queued_23 : decode cX8_queued 23 = .ok (.invokestatic 83, 3) := oq_184 (byt chX8_queued_1 7 rfl) (byt chX8_queued_1 8 rfl) (byt chX8_queued_1 9 rfl) rfl
theorem dX8_queued_26 : decode cX8_queued 26 = .ok (.iload_n 1, 1) := oq_27 (byt chX8_queued_1 10 rfl)
theorem dX8_queued_27 : decode cX8_queued 27 = .ok (.if_icmp .ne 5, 3) := oq_160 (byt chX8_queued_1 11 rfl) (byt chX8_queued_1 12 rfl) (byt chX8_queued_1 13 rfl) (by decide +kernel)
theorem dX8_queued_30 : decode cX8_queued 30 = .ok (.iload_n 2, 1) := oq_28 (byt chX8_queued_1 14 rfl)
theorem dX8_queued_31 : decode cX8_queued 31 = .ok (.ireturn, 1) := oq_172 (byt chX8_queued_1 15 rfl)
theorem dX8_queued_32 : decode cX8_queued 32 = .ok (.iinc 2 1, 3) := oq_132 (byt chX8_queued_2 0 rfl) (byt chX8_queued_2 1 rfl) (byt chX8_queued_2 2 rfl) rfl
theorem dX8_queued_35 : decode cX8_queued 35 = .ok (.goto (-33), 3) := oq_167 (byt chX8_queued_2 3 rfl) (byt chX8_queued_2 4 rfl) (byt chX8_queued_2 5 rfl) (by decide +kernel)
theorem dX8_queued_38 : decode cX8_queued 38 = .ok (.iconst (-1), 1) := oq_2 (byt chX8_queued_2 6 rfl)
theorem dX8_queued_39 : decode cX8_queued 39 = .ok (.ireturn, 1) := oq_172 (byt chX8_queued_2 7 rfl)
abbrev mX8_queued : MI := (yX8_queued, cX8_queued, 3, (some .int), noE)
theorem okX8_queued : cok mX8_queued 2 := ⟨tw807, tw18, by decide, by decide, by decide, by decide +kernel⟩
def fX8_queued (M : Mem) (a0 a1 : Int) : Option Int :=
  iterC (fun (rec1 : Int → Option Int) (s2 : Int) => if M.2.1 a0 = 8 then if M.2.1 (M.1 a0 0) = 7 then if s2 < M.1 (M.1 a0 0) 1 then ((fX8_isOdd M a0 s2).bind fun r6 => if r6 = 0 then (rec1 (w32 (s2 + 1))) else ((fX8_placeInQueue M a0 s2).bind fun r9 => if r9 = a1 then (some s2) else (rec1 (w32 (s2 + 1))))) else (some (-1)) else none else none) BIG 0
set_option maxRecDepth 100000 in
set_option maxHeartbeats 4000000 in
theorem kX8_queued (d : Nat) (hd : 3 ≤ d) (M : Mem) (a0 a1 : Int) : Ct mX8_queued d 0 0 [pA a0, pI a1] M (dI M) (fX8_queued M a0 a1) := by
  obtain ⟨d, rfl⟩ : ∃ k, d = k + 1 := ⟨d - 1, by omega⟩
  refine Ct.of 1 (fun _ _ _ => trivial) (by decide +kernel) rfl ?_
  unfold fX8_queued
  refine v_iconst dX8_queued_0 (by decide) ?_
  refine v_istore_n (ls' := [some (pA a0), some (pI a1), some (pI 0)]) dX8_queued_1 (by decide) rfl ?_
  refine v_loop (fun (s2 : Int) => [some (pA a0), some (pI a1), some (pI s2)]) (fun (s2 : Int) => M) (s0 := 0) ?_
  intro rec1 hrec1 s2
  refine v_iload_n dX8_queued_2 rfl ?_
  refine v_aload_n dX8_queued_3 rfl ?_
  refine v_if (fun h3 => ?_)
  refine v_get (v := pA (M.1 a0 0)) 8 0 rfl inX9 (by decide) tw316 dX8_queued_4 h3 rfl ?_
  refine v_if (fun h4 => ?_)
  refine v_get (v := pI (M.1 (M.1 a0 0) 1)) 7 1 rfl inX7 (by decide) tw63 dX8_queued_7 h4 rfl ?_
  refine v_icmp_ge (tgt := 38) dX8_queued_10 (by decide) (fun c5 => ?_) (fun c5 => ?_)
  · refine v_aload_n dX8_queued_13 rfl ?_
    refine v_iload_n dX8_queued_14 rfl ?_
    refine v_cS (mi := mX8_queued) (c0 := 0) (c1 := 0) (As := [pA a0, pI s2]) (st := []) (kX8_isOdd d (by omega) _ _ _) okX8_isOdd (Or.inl tw808) tw809 rfl (Nat.le_of_ble_eq_true rfl) dX8_queued_15 (fun r6 => [pI r6]) (fun r6 => M) (fun _ => rfl) (fun _ => rfl) (fun r6 h7 => ?_) rfl
    refine v_if_eq (tgt := 32) dX8_queued_18 (by decide) (fun c8 => ?_) (fun c8 => ?_)
    · refine v_iinc (ls' := [some (pA a0), some (pI a1), some (pI (w32 (s2 + 1)))]) dX8_queued_32 (by decide) rfl rfl ?_
      refine v_goto (tgt := 2) dX8_queued_35 (by decide) ?_
      exact hrec1 (w32 (s2 + 1))
    · refine v_aload_n dX8_queued_21 rfl ?_
      refine v_iload_n dX8_queued_22 rfl ?_
      refine v_cS (mi := mX8_queued) (c0 := 0) (c1 := 0) (As := [pA a0, pI s2]) (st := []) (kX8_placeInQueue d (by omega) _ _ _) okX8_placeInQueue (Or.inl tw815) tw816 rfl (Nat.le_of_ble_eq_true rfl) dX8_queued_23 (fun r9 => [pI r9]) (fun r9 => M) (fun _ => rfl) (fun _ => rfl) (fun r9 h10 => ?_) rfl
      refine v_iload_n dX8_queued_26 rfl ?_
      refine v_icmp_ne (tgt := 32) dX8_queued_27 (by decide) (fun c11 => ?_) (fun c11 => ?_)
      · refine v_iload_n dX8_queued_30 rfl ?_
        exact v_ireturn dX8_queued_31 rfl rfl
      · refine v_iinc (ls' := [some (pA a0), some (pI a1), some (pI (w32 (s2 + 1)))]) dX8_queued_32 (by decide) rfl rfl ?_
        refine v_goto (tgt := 2) dX8_queued_35 (by decide) ?_
        exact hrec1 (w32 (s2 + 1))
  · refine v_iconst dX8_queued_38 (by decide) ?_
    exact v_ireturn dX8_queued_39 rfl rfl
theorem chX8_isReached_0 : (cX8_isReached.data.toList.drop 0).take 16 = [3, 62, 29, 42, 180, 0, 28, 180, 0, 66, 162, 0, 60, 27, 29, 122] := by decide +kernel
theorem chX8_isReached_1 : (cX8_isReached.data.toList.drop 16).take 16 = [4, 126, 4, 160, 0, 23, 42, 29, 182, 0, 131, 153, 0, 15, 42, 29] := by decide +kernel
theorem chX8_isReached_2 : (cX8_isReached.data.toList.drop 32).take 16 = [182, 0, 52, 158, 0, 7, 4, 167, 0, 4, 3, 54, 4, 21, 4, 153] := by decide +kernel
theorem chX8_isReached_3 : (cX8_isReached.data.toList.drop 48).take 16 = [0, 17, 42, 180, 0, 28, 29, 28, 182, 0, 138, 154, 0, 5, 4, 172] := by decide +kernel
theorem chX8_isReached_4 : (cX8_isReached.data.toList.drop 64).take 16 = [132, 3, 1, 167, 255, 191, 3, 172] := by decide +kernel
theorem dX8_isReached_0 : decode cX8_isReached 0 = .ok (.iconst 0, 1) := oq_3 (byt chX8_isReached_0 0 rfl)
theorem dX8_isReached_1 : decode cX8_isReached 1 = .ok (.istore_n 3, 1) := oq_62 (byt chX8_isReached_0 1 rfl)
theorem dX8_isReached_2 : decode cX8_isReached 2 = .ok (.iload_n 3, 1) := oq_29 (byt chX8_isReached_0 2 rfl)
theorem dX8_isReached_3 : decode cX8_isReached 3 = .ok (.aload_n 0, 1) := oq_42 (byt chX8_isReached_0 3 rfl)
theorem dX8_isReached_4 : decode cX8_isReached 4 = .ok (.getfield 28, 3) := oq_180 (byt chX8_isReached_0 4 rfl) (byt chX8_isReached_0 5 rfl) (byt chX8_isReached_0 6 rfl) rfl
theorem dX8_isReached_7 : decode cX8_isReached 7 = .ok (.getfield 66, 3) := oq_180 (byt chX8_isReached_0 7 rfl) (byt chX8_isReached_0 8 rfl) (byt chX8_isReached_0 9 rfl) rfl
theorem dX8_isReached_10 : decode cX8_isReached 10 = .ok (.if_icmp .ge 60, 3) := oq_162 (byt chX8_isReached_0 10 rfl) (byt chX8_isReached_0 11 rfl) (byt chX8_isReached_0 12 rfl) (by decide +kernel)
theorem dX8_isReached_13 : decode cX8_isReached 13 = .ok (.iload_n 1, 1) := oq_27 (byt chX8_isReached_0 13 rfl)
theorem dX8_isReached_14 : decode cX8_isReached 14 = .ok (.iload_n 3, 1) := oq_29 (byt chX8_isReached_0 14 rfl)
theorem dX8_isReached_15 : decode cX8_isReached 15 = .ok (.ishr, 1) := oq_122 (byt chX8_isReached_0 15 rfl)
theorem dX8_isReached_16 : decode cX8_isReached 16 = .ok (.iconst 1, 1) := oq_4 (byt chX8_isReached_1 0 rfl)
theorem dX8_isReached_17 : decode cX8_isReached 17 = .ok (.iand, 1) := oq_126 (byt chX8_isReached_1 1 rfl)
theorem dX8_isReached_18 : decode cX8_isReached 18 = .ok (.iconst 1, 1) := oq_4 (byt chX8_isReached_1 2 rfl)
theorem dX8_isReached_19 : decode cX8_isReached 19 = .ok (.if_icmp .ne 23, 3) := oq_160 (byt chX8_isReached_1 3 rfl) (byt chX8_isReached_1 4 rfl) (byt chX8_isReached_1 5 rfl) (by decide +kernel)
theorem dX8_isReached_22 : decode cX8_isReached 22 = .ok (.aload_n 0, 1) := oq_42 (byt chX8_isReached_1 6 rfl)
theorem dX8_isReached_23 : decode cX8_isReached 23 = .ok (.iload_n 3, 1) := oq_29 (byt chX8_isReached_1 7 rfl)
theorem dX8_isReached_24 : decode cX8_isReached 24 = .ok (.invokevirtual 131, 3) := oq_182 (byt chX8_isReached_1 8 rfl) (byt chX8_isReached_1 9 rfl) (byt chX8_isReached_1 10 rfl) rfl
theorem dX8_isReached_27 : decode cX8_isReached 27 = .ok (.ifCond .eq 15, 3) := oq_153 (byt chX8_isReached_1 11 rfl) (byt chX8_isReached_1 12 rfl) (byt chX8_isReached_1 13 rfl) (by decide +kernel)
theorem dX8_isReached_30 : decode cX8_isReached 30 = .ok (.aload_n 0, 1) := oq_42 (byt chX8_isReached_1 14 rfl)
theorem dX8_isReached_31 : decode cX8_isReached 31 = .ok (.iload_n 3, 1) := oq_29 (byt chX8_isReached_1 15 rfl)
theorem dX8_isReached_32 : decode cX8_isReached 32 = .ok (.invokevirtual 52, 3) := oq_182 (byt chX8_isReached_2 0 rfl) (byt chX8_isReached_2 1 rfl) (byt chX8_isReached_2 2 rfl) rfl
theorem dX8_isReached_35 : decode cX8_isReached 35 = .ok (.ifCond .le 7, 3) := oq_158 (byt chX8_isReached_2 3 rfl) (byt chX8_isReached_2 4 rfl) (byt chX8_isReached_2 5 rfl) (by decide +kernel)
theorem dX8_isReached_38 : decode cX8_isReached 38 = .ok (.iconst 1, 1) := oq_4 (byt chX8_isReached_2 6 rfl)
theorem dX8_isReached_39 : decode cX8_isReached 39 = .ok (.goto 4, 3) := oq_167 (byt chX8_isReached_2 7 rfl) (byt chX8_isReached_2 8 rfl) (byt chX8_isReached_2 9 rfl) (by decide +kernel)
theorem dX8_isReached_42 : decode cX8_isReached 42 = .ok (.iconst 0, 1) := oq_3 (byt chX8_isReached_2 10 rfl)
theorem dX8_isReached_43 : decode cX8_isReached 43 = .ok (.istore 4, 2) := oq_54 (byt chX8_isReached_2 11 rfl) (byt chX8_isReached_2 12 rfl) rfl
theorem dX8_isReached_45 : decode cX8_isReached 45 = .ok (.iload 4, 2) := oq_21 (byt chX8_isReached_2 13 rfl) (byt chX8_isReached_2 14 rfl) rfl
theorem dX8_isReached_47 : decode cX8_isReached 47 = .ok (.ifCond .eq 17, 3) := oq_153 (byt chX8_isReached_2 15 rfl) (byt chX8_isReached_3 0 rfl) (byt chX8_isReached_3 1 rfl) (by decide +kernel)
theorem dX8_isReached_50 : decode cX8_isReached 50 = .ok (.aload_n 0, 1) := oq_42 (byt chX8_isReached_3 2 rfl)
theorem dX8_isReached_51 : decode cX8_isReached 51 = .ok (.getfield 28, 3) := oq_180 (byt chX8_isReached_3 3 rfl) (byt chX8_isReached_3 4 rfl) (byt chX8_isReached_3 5 rfl) rfl
theorem dX8_isReached_54 : decode cX8_isReached 54 = .ok (.iload_n 3, 1) := oq_29 (byt chX8_isReached_3 6 rfl)
theorem dX8_isReached_55 : decode cX8_isReached 55 = .ok (.iload_n 2, 1) := oq_28 (byt chX8_isReached_3 7 rfl)
theorem dX8_isReached_56 : decode cX8_isReached 56 = .ok (.invokevirtual 138, 3) := oq_182 (byt chX8_isReached_3 8 rfl) (byt chX8_isReached_3 9 rfl) (byt chX8_isReached_3 10 rfl) rfl
theorem dX8_isReached_59 : decode cX8_isReached 59 = .ok (.ifCond .ne 5, 3) := oq_154 (byt chX8_isReached_3 11 rfl) (byt chX8_isReached_3 12 rfl) (byt chX8_isReached_3 13 rfl) (by decide +kernel)
theorem dX8_isReached_62 : decode cX8_isReached 62 = .ok (.iconst 1, 1) := oq_4 (byt chX8_isReached_3 14 rfl)
theorem dX8_isReached_63 : decode cX8_isReached 63 = .ok (.ireturn, 1) := oq_172 (byt chX8_isReached_3 15 rfl)
theorem dX8_isReached_64 : decode cX8_isReached 64 = .ok (.iinc 3 1, 3) := oq_132 (byt chX8_isReached_4 0 rfl) (byt chX8_isReached_4 1 rfl) (byt chX8_isReached_4 2 rfl) rfl
theorem dX8_isReached_67 : decode cX8_isReached 67 = .ok (.goto (-65), 3) := oq_167 (byt chX8_isReached_4 3 rfl) (byt chX8_isReached_4 4 rfl) (byt chX8_isReached_4 5 rfl) (by decide +kernel)
theorem dX8_isReached_70 : decode cX8_isReached 70 = .ok (.iconst 0, 1) := oq_3 (byt chX8_isReached_4 6 rfl)
theorem dX8_isReached_71 : decode cX8_isReached 71 = .ok (.ireturn, 1) := oq_172 (byt chX8_isReached_4 7 rfl)
abbrev mX8_isReached : MI := (yX8_isReached, cX8_isReached, 5, (some .boolean), noE)
theorem okX8_isReached : cok mX8_isReached 3 := ⟨tw1087, tw18, by decide, by decide, by decide, by decide +kernel⟩
def fX8_isReached (M : Mem) (a0 a1 a2 : Int) : Option Int :=
  iterC (fun (rec1 : Int → Option Int) (s2 : Int) => if M.2.1 a0 = 8 then if M.2.1 (M.1 a0 0) = 7 then if s2 < M.1 (M.1 a0 0) 1 then (jn (fun (t7 : Int) => if t7 = 0 then (rec1 (w32 (s2 + 1))) else ((fX7_areKin M (M.1 a0 0) s2 a2).bind fun r9 => if r9 = 0 then (some 1) else (rec1 (w32 (s2 + 1))))) (fun (j6 : Int → Option Int) => jn (fun (t13 : Unit) => j6 0) (fun (j12 : Unit → Option Int) => if bAnd (bShr a1 s2) 1 = 1 then ((fX9_isFree M a0 s2).bind fun r15 => if r15 = 0 then (j12 ()) else ((fX9_owesOf M a0 s2).bind fun r18 => if 0 < r18 then (j6 1) else (j12 ()))) else (j12 ())))) else (some 0) else none else none) BIG 0
set_option maxRecDepth 100000 in
set_option maxHeartbeats 4000000 in
theorem kX8_isReached (d : Nat) (hd : 2 ≤ d) (M : Mem) (a0 a1 a2 : Int) : Ct mX8_isReached d 0 0 [pA a0, pI a1, pI a2] M (dI M) (fX8_isReached M a0 a1 a2) := by
  obtain ⟨d, rfl⟩ : ∃ k, d = k + 1 := ⟨d - 1, by omega⟩
  refine Ct.of 2 (fun _ _ _ => trivial) (by decide +kernel) rfl ?_
  unfold fX8_isReached
  refine v_iconst dX8_isReached_0 (by decide) ?_
  refine v_istore_n (ls' := [some (pA a0), some (pI a1), some (pI a2), some (pI 0), none]) dX8_isReached_1 (by decide) rfl ?_
  refine v_loop (fun (s2 : Int) => [some (pA a0), some (pI a1), some (pI a2), some (pI s2), none]) (fun (s2 : Int) => M) (s0 := 0) ?_
  intro rec1 hrec1 s2
  refine v_iload_n dX8_isReached_2 rfl ?_
  refine v_aload_n dX8_isReached_3 rfl ?_
  refine v_if (fun h3 => ?_)
  refine v_get (v := pA (M.1 a0 0)) 8 0 rfl inX9 (by decide) tw316 dX8_isReached_4 h3 rfl ?_
  refine v_if (fun h4 => ?_)
  refine v_get (v := pI (M.1 (M.1 a0 0) 1)) 7 1 rfl inX7 (by decide) tw63 dX8_isReached_7 h4 rfl ?_
  refine v_icmp_ge (tgt := 70) dX8_isReached_10 (by decide) (fun c5 => ?_) (fun c5 => ?_)
  · refine v_iload_n dX8_isReached_13 rfl ?_
    refine v_iload_n dX8_isReached_14 rfl ?_
    refine v_ishr dX8_isReached_15 ?_
    refine v_iconst dX8_isReached_16 (by decide) ?_
    refine v_iand dX8_isReached_17 ?_
    refine v_iconst dX8_isReached_18 (by decide) ?_
    refine v_join (fun (t7 : Int) => [some (pA a0), some (pI a1), some (pI a2), some (pI s2), none]) (fun (t7 : Int) => [pI t7]) (fun (t7 : Int) => M) 43 (fun t7 => ?_) (fun j6 hj6 => ?_)
    · refine v_istore (ls' := [some (pA a0), some (pI a1), some (pI a2), some (pI s2), some (pI t7)]) dX8_isReached_43 (by decide) rfl ?_
      refine v_iload dX8_isReached_45 rfl ?_
      refine v_if_eq (tgt := 64) dX8_isReached_47 (by decide) (fun c8 => ?_) (fun c8 => ?_)
      · refine v_iinc (ls' := [some (pA a0), some (pI a1), some (pI a2), some (pI (w32 (s2 + 1))), some (pI t7)]) dX8_isReached_64 (by decide) rfl rfl ?_
        refine v_goto (tgt := 2) dX8_isReached_67 (by decide) ?_
        exact v_drop [some (pA a0), some (pI a1), some (pI a2), some (pI (w32 (s2 + 1))), none] (ls_s (ls_s (ls_s (ls_s (ls_n ls_e))))) (hrec1 (w32 (s2 + 1)))
      · refine v_aload_n dX8_isReached_50 rfl ?_
        refine v_get (v := pA (M.1 a0 0)) 8 0 rfl inX9 (by decide) tw316 dX8_isReached_51 h3 rfl ?_
        refine v_iload_n dX8_isReached_54 rfl ?_
        refine v_iload_n dX8_isReached_55 rfl ?_
        refine v_cV (mi := mX8_isReached) (c0 := 0) (c1 := 0) (As := [pI s2, pI a2]) (st := []) (kX7_areKin d (by omega) _ _ _ _) rfl h4 rfl okX7_areKin (Or.inl tw1088) tw782 tw783 rfl (Nat.le_of_ble_eq_true rfl) dX8_isReached_56 (fun r9 => [pI r9]) (fun r9 => M) (fun _ => rfl) (fun _ => rfl) (fun r9 h10 => ?_) rfl
        refine v_if_ne (tgt := 64) dX8_isReached_59 (by decide) (fun c11 => ?_) (fun c11 => ?_)
        · refine v_iconst dX8_isReached_62 (by decide) ?_
          exact v_breturn dX8_isReached_63 rfl (by decide) rfl
        · refine v_iinc (ls' := [some (pA a0), some (pI a1), some (pI a2), some (pI (w32 (s2 + 1))), some (pI t7)]) dX8_isReached_64 (by decide) rfl rfl ?_
          refine v_goto (tgt := 2) dX8_isReached_67 (by decide) ?_
          exact v_drop [some (pA a0), some (pI a1), some (pI a2), some (pI (w32 (s2 + 1))), none] (ls_s (ls_s (ls_s (ls_s (ls_n ls_e))))) (hrec1 (w32 (s2 + 1)))
    · refine v_join (fun (t13 : Unit) => [some (pA a0), some (pI a1), some (pI a2), some (pI s2), none]) (fun (t13 : Unit) => []) (fun (t13 : Unit) => M) 42 (fun t13 => ?_) (fun j12 hj12 => ?_)
      · refine v_iconst dX8_isReached_42 (by decide) ?_
        exact hj6 0
      · refine v_icmp_ne (tgt := 42) dX8_isReached_19 (by decide) (fun c14 => ?_) (fun c14 => ?_)
        · refine v_aload_n dX8_isReached_22 rfl ?_
          refine v_iload_n dX8_isReached_23 rfl ?_
          refine v_cV (mi := mX8_isReached) (c0 := 0) (c1 := 0) (As := [pI s2]) (st := []) (kX9_isFree d (by omega) _ _ _) rfl h3 rfl okX9_isFree (Or.inl tw1084) tw758 tw759 rfl (Nat.le_of_ble_eq_true rfl) dX8_isReached_24 (fun r15 => [pI r15]) (fun r15 => M) (fun _ => rfl) (fun _ => rfl) (fun r15 h16 => ?_) rfl
          refine v_if_eq (tgt := 42) dX8_isReached_27 (by decide) (fun c17 => ?_) (fun c17 => ?_)
          · exact hj12 ()
          · refine v_aload_n dX8_isReached_30 rfl ?_
            refine v_iload_n dX8_isReached_31 rfl ?_
            refine v_cV (mi := mX8_isReached) (c0 := 0) (c1 := 0) (As := [pI s2]) (st := []) (kX9_owesOf d (by omega) _ _ _) rfl h3 rfl okX9_owesOf (Or.inl tw832) tw786 tw787 rfl (Nat.le_of_ble_eq_true rfl) dX8_isReached_32 (fun r18 => [pI r18]) (fun r18 => M) (fun _ => rfl) (fun _ => rfl) (fun r18 h19 => ?_) rfl
            refine v_if_le (tgt := 42) dX8_isReached_35 (by decide) (fun c20 => ?_) (fun c20 => ?_)
            · refine v_iconst dX8_isReached_38 (by decide) ?_
              refine v_goto (tgt := 43) dX8_isReached_39 (by decide) ?_
              exact hj6 1
            · exact hj12 ()
        · exact hj12 ()
  · refine v_iconst dX8_isReached_70 (by decide) ?_
    exact v_breturn dX8_isReached_71 rfl (by decide) rfl
theorem chX8_cut_0 : (cX8_cut.data.toList.drop 0).take 16 = [3, 61, 3, 62, 29, 42, 180, 0, 28, 180, 0, 66, 162, 0, 67, 42] := by decide +kernel
theorem chX8_cut_1 : (cX8_cut.data.toList.drop 16).take 16 = [29, 182, 0, 52, 54, 4, 42, 29, 182, 0, 131, 154, 0, 6, 167, 0] := by decide +kernel
theorem chX8_cut_2 : (cX8_cut.data.toList.drop 32).take 16 = [43, 21, 4, 158, 0, 19, 27, 29, 122, 4, 126, 154, 0, 11, 28, 21] := by decide +kernel
theorem chX8_cut_3 : (cX8_cut.data.toList.drop 48).take 16 = [4, 96, 61, 167, 0, 22, 21, 4, 156, 0, 17, 42, 27, 29, 184, 0] := by decide +kernel
theorem chX8_cut_4 : (cX8_cut.data.toList.drop 64).take 16 = [134, 153, 0, 8, 28, 21, 4, 100, 61, 132, 3, 1, 167, 255, 184, 28] := by decide +kernel
theorem chX8_cut_5 : (cX8_cut.data.toList.drop 80).take 16 = [172] := by decide +kernel
theorem dX8_cut_0 : decode cX8_cut 0 = .ok (.iconst 0, 1) := oq_3 (byt chX8_cut_0 0 rfl)
theorem dX8_cut_1 : decode cX8_cut 1 = .ok (.istore_n 2, 1) := oq_61 (byt chX8_cut_0 1 rfl)
theorem dX8_cut_2 : decode cX8_cut 2 = .ok (.iconst 0, 1) := oq_3 (byt chX8_cut_0 2 rfl)
theorem dX8_cut_3 : decode cX8_cut 3 = .ok (.istore_n 3, 1) := oq_62 (byt chX8_cut_0 3 rfl)
theorem dX8_cut_4 : decode cX8_cut 4 = .ok (.iload_n 3, 1) := oq_29 (byt chX8_cut_0 4 rfl)
theorem dX8_cut_5 : decode cX8_cut 5 = .ok (.aload_n 0, 1) := oq_42 (byt chX8_cut_0 5 rfl)
theorem dX8_cut_6 : decode cX8_cut 6 = .ok (.getfield 28, 3) := oq_180 (byt chX8_cut_0 6 rfl) (byt chX8_cut_0 7 rfl) (byt chX8_cut_0 8 rfl) rfl
theorem dX8_cut_9 : decode cX8_cut 9 = .ok (.getfield 66, 3) := oq_180 (byt chX8_cut_0 9 rfl) (byt chX8_cut_0 10 rfl) (byt chX8_cut_0 11 rfl) rfl
theorem dX8_cut_12 : decode cX8_cut 12 = .ok (.if_icmp .ge 67, 3) := oq_162 (byt chX8_cut_0 12 rfl) (byt chX8_cut_0 13 rfl) (byt chX8_cut_0 14 rfl) (by decide +kernel)
theorem dX8_cut_15 : decode cX8_cut 15 = .ok (.aload_n 0, 1) := oq_42 (byt chX8_cut_0 15 rfl)
theorem dX8_cut_16 : decode cX8_cut 16 = .ok (.iload_n 3, 1) := oq_29 (byt chX8_cut_1 0 rfl)
theorem dX8_cut_17 : decode cX8_cut 17 = .ok (.invokevirtual 52, 3) := oq_182 (byt chX8_cut_1 1 rfl) (byt chX8_cut_1 2 rfl) (byt chX8_cut_1 3 rfl) rfl
theorem dX8_cut_20 : decode cX8_cut 20 = .ok (.istore 4, 2) := oq_54 (byt chX8_cut_1 4 rfl) (byt chX8_cut_1 5 rfl) rfl
theorem dX8_cut_22 : decode cX8_cut 22 = .ok (.aload_n 0, 1) := oq_42 (byt chX8_cut_1 6 rfl)
theorem dX8_cut_23 : decode cX8_cut 23 = .ok (.iload_n 3, 1) := oq_29 (byt chX8_cut_1 7 rfl)
theorem dX8_cut_24 : decode cX8_cut 24 = .ok (.invokevirtual 131, 3) := oq_182 (byt chX8_cut_1 8 rfl) (byt chX8_cut_1 9 rfl) (byt chX8_cut_1 10 rfl) rfl
theorem dX8_cut_27 : decode cX8_cut 27 = .ok (.ifCond .ne 6, 3) := oq_154 (byt chX8_cut_1 11 rfl) (byt chX8_cut_1 12 rfl) (byt chX8_cut_1 13 rfl) (by decide +kernel)
theorem dX8_cut_30 : decode cX8_cut 30 = .ok (.goto 43, 3) := oq_167 (byt chX8_cut_1 14 rfl) (byt chX8_cut_1 15 rfl) (byt chX8_cut_2 0 rfl) (by decide +kernel)
theorem dX8_cut_33 : decode cX8_cut 33 = .ok (.iload 4, 2) := oq_21 (byt chX8_cut_2 1 rfl) (byt chX8_cut_2 2 rfl) rfl
theorem dX8_cut_35 : decode cX8_cut 35 = .ok (.ifCond .le 19, 3) := oq_158 (byt chX8_cut_2 3 rfl) (byt chX8_cut_2 4 rfl) (byt chX8_cut_2 5 rfl) (by decide +kernel)
theorem dX8_cut_38 : decode cX8_cut 38 = .ok (.iload_n 1, 1) := oq_27 (byt chX8_cut_2 6 rfl)
theorem dX8_cut_39 : decode cX8_cut 39 = .ok (.iload_n 3, 1) := oq_29 (byt chX8_cut_2 7 rfl)
theorem dX8_cut_40 : decode cX8_cut 40 = .ok (.ishr, 1) := oq_122 (byt chX8_cut_2 8 rfl)
theorem dX8_cut_41 : decode cX8_cut 41 = .ok (.iconst 1, 1) := oq_4 (byt chX8_cut_2 9 rfl)
theorem dX8_cut_42 : decode cX8_cut 42 = .ok (.iand, 1) := oq_126 (byt chX8_cut_2 10 rfl)
theorem dX8_cut_43 : decode cX8_cut 43 = .ok (.ifCond .ne 11, 3) := oq_154 (byt chX8_cut_2 11 rfl) (byt chX8_cut_2 12 rfl) (byt chX8_cut_2 13 rfl) (by decide +kernel)
theorem dX8_cut_46 : decode cX8_cut 46 = .ok (.iload_n 2, 1) := oq_28 (byt chX8_cut_2 14 rfl)
theorem dX8_cut_47 : decode cX8_cut 47 = .ok (.iload 4, 2) := oq_21 (byt chX8_cut_2 15 rfl) (byt chX8_cut_3 0 rfl) rfl
theorem dX8_cut_49 : decode cX8_cut 49 = .ok (.iadd, 1) := oq_96 (byt chX8_cut_3 1 rfl)
theorem dX8_cut_50 : decode cX8_cut 50 = .ok (.istore_n 2, 1) := oq_61 (byt chX8_cut_3 2 rfl)
theorem dX8_cut_51 : decode cX8_cut 51 = .ok (.goto 22, 3) := oq_167 (byt chX8_cut_3 3 rfl) (byt chX8_cut_3 4 rfl) (byt chX8_cut_3 5 rfl) (by decide +kernel)
theorem dX8_cut_54 : decode cX8_cut 54 = .ok (.iload 4, 2) := oq_21 (byt chX8_cut_3 6 rfl) (byt chX8_cut_3 7 rfl) rfl
theorem dX8_cut_56 : decode cX8_cut 56 = .ok (.ifCond .ge 17, 3) := oq_156 (byt chX8_cut_3 8 rfl) (byt chX8_cut_3 9 rfl) (byt chX8_cut_3 10 rfl) (by decide +kernel)
theorem dX8_cut_59 : decode cX8_cut 59 = .ok (.aload_n 0, 1) := oq_42 (byt chX8_cut_3 11 rfl)
theorem dX8_cut_60 : decode cX8_cut 60 = .ok (.iload_n 1, 1) := oq_27 (byt chX8_cut_3 12 rfl)
theorem dX8_cut_61 : decode cX8_cut 61 = .ok (.iload_n 3, 1) := oq_29 (byt chX8_cut_3 13 rfl)
theorem dX8_cut_62 : decode cX8_cut 62 = .ok (.invokestatic 134, 3) := oq_184 (byt chX8_cut_3 14 rfl) (byt chX8_cut_3 15 rfl) (byt chX8_cut_4 0 rfl) rfl
theorem dX8_cut_65 : decode cX8_cut 65 = .ok (.ifCond .eq 8, 3) := oq_153 (byt chX8_cut_4 1 rfl) (byt chX8_cut_4 2 rfl) (byt chX8_cut_4 3 rfl) (by decide +kernel)
theorem dX8_cut_68 : decode cX8_cut 68 = .ok (.iload_n 2, 1) := oq_28 (byt chX8_cut_4 4 rfl)
theorem dX8_cut_69 : decode cX8_cut 69 = .ok (.iload 4, 2) := oq_21 (byt chX8_cut_4 5 rfl) (byt chX8_cut_4 6 rfl) rfl
theorem dX8_cut_71 : decode cX8_cut 71 = .ok (.isub, 1) := oq_100 (byt chX8_cut_4 7 rfl)
theorem dX8_cut_72 : decode cX8_cut 72 = .ok (.istore_n 2, 1) := oq_61 (byt chX8_cut_4 8 rfl)
theorem dX8_cut_73 : decode cX8_cut 73 = .ok (.iinc 3 1, 3) := oq_132 (byt chX8_cut_4 9 rfl) (byt chX8_cut_4 10 rfl) (byt chX8_cut_4 11 rfl) rfl
theorem dX8_cut_76 : decode cX8_cut 76 = .ok (.goto (-72), 3) := oq_167 (byt chX8_cut_4 12 rfl) (byt chX8_cut_4 13 rfl) (byt chX8_cut_4 14 rfl) (by decide +kernel)
theorem dX8_cut_79 : decode cX8_cut 79 = .ok (.iload_n 2, 1) := oq_28 (byt chX8_cut_4 15 rfl)
theorem dX8_cut_80 : decode cX8_cut 80 = .ok (.ireturn, 1) := oq_172 (byt chX8_cut_5 0 rfl)
abbrev mX8_cut : MI := (yX8_cut, cX8_cut, 5, (some .int), noE)
theorem okX8_cut : cok mX8_cut 2 := ⟨tw1083, tw18, by decide, by decide, by decide, by decide +kernel⟩
def fX8_cut (M : Mem) (a0 a1 : Int) : Option Int :=
  iterC (fun (rec1 : (Int × Int) → Option Int) (s2 : Int × Int) => if M.2.1 a0 = 8 then if M.2.1 (M.1 a0 0) = 7 then if s2.2 < M.1 (M.1 a0 0) 1 then ((fX9_owesOf M a0 s2.2).bind fun r6 => (fX9_isFree M a0 s2.2).bind fun r8 => if r8 = 0 then (rec1 (s2.1, w32 (s2.2 + 1))) else (jn (fun (t12 : Unit) => if r6 < 0 then ((fX8_isReached M a0 a1 s2.2).bind fun r14 => if r14 = 0 then (rec1 (s2.1, w32 (s2.2 + 1))) else (rec1 (w32 (s2.1 - r6), w32 (s2.2 + 1)))) else (rec1 (s2.1, w32 (s2.2 + 1)))) (fun (j11 : Unit → Option Int) => if 0 < r6 then (if bAnd (bShr a1 s2.2) 1 = 0 then (rec1 (w32 (s2.1 + r6), w32 (s2.2 + 1))) else (j11 ())) else (j11 ())))) else (some s2.1) else none else none) BIG (0, 0)
set_option maxRecDepth 100000 in
set_option maxHeartbeats 4000000 in
theorem kX8_cut (d : Nat) (hd : 3 ≤ d) (M : Mem) (a0 a1 : Int) : Ct mX8_cut d 0 0 [pA a0, pI a1] M (dI M) (fX8_cut M a0 a1) := by
  obtain ⟨d, rfl⟩ : ∃ k, d = k + 1 := ⟨d - 1, by omega⟩
  refine Ct.of 3 (fun _ _ _ => trivial) (by decide +kernel) rfl ?_
  unfold fX8_cut
  refine v_iconst dX8_cut_0 (by decide) ?_
  refine v_istore_n (ls' := [some (pA a0), some (pI a1), some (pI 0), none, none]) dX8_cut_1 (by decide) rfl ?_
  refine v_iconst dX8_cut_2 (by decide) ?_
  refine v_istore_n (ls' := [some (pA a0), some (pI a1), some (pI 0), some (pI 0), none]) dX8_cut_3 (by decide) rfl ?_
  refine v_loop (fun (s2 : Int × Int) => [some (pA a0), some (pI a1), some (pI s2.1), some (pI s2.2), none]) (fun (s2 : Int × Int) => M) (s0 := (0, 0)) ?_
  intro rec1 hrec1 s2
  refine v_iload_n dX8_cut_4 rfl ?_
  refine v_aload_n dX8_cut_5 rfl ?_
  refine v_if (fun h3 => ?_)
  refine v_get (v := pA (M.1 a0 0)) 8 0 rfl inX9 (by decide) tw316 dX8_cut_6 h3 rfl ?_
  refine v_if (fun h4 => ?_)
  refine v_get (v := pI (M.1 (M.1 a0 0) 1)) 7 1 rfl inX7 (by decide) tw63 dX8_cut_9 h4 rfl ?_
  refine v_icmp_ge (tgt := 79) dX8_cut_12 (by decide) (fun c5 => ?_) (fun c5 => ?_)
  · refine v_aload_n dX8_cut_15 rfl ?_
    refine v_iload_n dX8_cut_16 rfl ?_
    refine v_cV (mi := mX8_cut) (c0 := 0) (c1 := 0) (As := [pI s2.2]) (st := []) (kX9_owesOf d (by omega) _ _ _) rfl h3 rfl okX9_owesOf (Or.inl tw832) tw786 tw787 rfl (Nat.le_of_ble_eq_true rfl) dX8_cut_17 (fun r6 => [pI r6]) (fun r6 => M) (fun _ => rfl) (fun _ => rfl) (fun r6 h7 => ?_) rfl
    refine v_istore (ls' := [some (pA a0), some (pI a1), some (pI s2.1), some (pI s2.2), some (pI r6)]) dX8_cut_20 (by decide) rfl ?_
    refine v_aload_n dX8_cut_22 rfl ?_
    refine v_iload_n dX8_cut_23 rfl ?_
    refine v_cV (mi := mX8_cut) (c0 := 0) (c1 := 0) (As := [pI s2.2]) (st := []) (kX9_isFree d (by omega) _ _ _) rfl h3 rfl okX9_isFree (Or.inl tw1084) tw758 tw759 rfl (Nat.le_of_ble_eq_true rfl) dX8_cut_24 (fun r8 => [pI r8]) (fun r8 => M) (fun _ => rfl) (fun _ => rfl) (fun r8 h9 => ?_) rfl
    refine v_if_ne (tgt := 33) dX8_cut_27 (by decide) (fun c10 => ?_) (fun c10 => ?_)
    · refine v_goto (tgt := 73) dX8_cut_30 (by decide) ?_
      refine v_iinc (ls' := [some (pA a0), some (pI a1), some (pI s2.1), some (pI (w32 (s2.2 + 1))), some (pI r6)]) dX8_cut_73 (by decide) rfl rfl ?_
      refine v_goto (tgt := 4) dX8_cut_76 (by decide) ?_
      exact v_drop [some (pA a0), some (pI a1), some (pI s2.1), some (pI (w32 (s2.2 + 1))), none] (ls_s (ls_s (ls_s (ls_s (ls_n ls_e))))) (hrec1 (s2.1, w32 (s2.2 + 1)))
    · refine v_iload dX8_cut_33 rfl ?_
      refine v_join (fun (t12 : Unit) => [some (pA a0), some (pI a1), some (pI s2.1), some (pI s2.2), some (pI r6)]) (fun (t12 : Unit) => []) (fun (t12 : Unit) => M) 54 (fun t12 => ?_) (fun j11 hj11 => ?_)
      · refine v_iload dX8_cut_54 rfl ?_
        refine v_if_ge (tgt := 73) dX8_cut_56 (by decide) (fun c13 => ?_) (fun c13 => ?_)
        · refine v_aload_n dX8_cut_59 rfl ?_
          refine v_iload_n dX8_cut_60 rfl ?_
          refine v_iload_n dX8_cut_61 rfl ?_
          refine v_cS (mi := mX8_cut) (c0 := 0) (c1 := 0) (As := [pA a0, pI a1, pI s2.2]) (st := []) (kX8_isReached d (by omega) _ _ _ _) okX8_isReached (Or.inl tw1085) tw1086 rfl (Nat.le_of_ble_eq_true rfl) dX8_cut_62 (fun r14 => [pI r14]) (fun r14 => M) (fun _ => rfl) (fun _ => rfl) (fun r14 h15 => ?_) rfl
          refine v_if_eq (tgt := 73) dX8_cut_65 (by decide) (fun c16 => ?_) (fun c16 => ?_)
          · refine v_iinc (ls' := [some (pA a0), some (pI a1), some (pI s2.1), some (pI (w32 (s2.2 + 1))), some (pI r6)]) dX8_cut_73 (by decide) rfl rfl ?_
            refine v_goto (tgt := 4) dX8_cut_76 (by decide) ?_
            exact v_drop [some (pA a0), some (pI a1), some (pI s2.1), some (pI (w32 (s2.2 + 1))), none] (ls_s (ls_s (ls_s (ls_s (ls_n ls_e))))) (hrec1 (s2.1, w32 (s2.2 + 1)))
          · refine v_iload_n dX8_cut_68 rfl ?_
            refine v_iload dX8_cut_69 rfl ?_
            refine v_isub dX8_cut_71 ?_
            refine v_istore_n (ls' := [some (pA a0), some (pI a1), some (pI (w32 (s2.1 - r6))), some (pI s2.2), some (pI r6)]) dX8_cut_72 (by decide) rfl ?_
            refine v_iinc (ls' := [some (pA a0), some (pI a1), some (pI (w32 (s2.1 - r6))), some (pI (w32 (s2.2 + 1))), some (pI r6)]) dX8_cut_73 (by decide) rfl rfl ?_
            refine v_goto (tgt := 4) dX8_cut_76 (by decide) ?_
            exact v_drop [some (pA a0), some (pI a1), some (pI (w32 (s2.1 - r6))), some (pI (w32 (s2.2 + 1))), none] (ls_s (ls_s (ls_s (ls_s (ls_n ls_e))))) (hrec1 (w32 (s2.1 - r6), w32 (s2.2 + 1)))
        · refine v_iinc (ls' := [some (pA a0), some (pI a1), some (pI s2.1), some (pI (w32 (s2.2 + 1))), some (pI r6)]) dX8_cut_73 (by decide) rfl rfl ?_
          refine v_goto (tgt := 4) dX8_cut_76 (by decide) ?_
          exact v_drop [some (pA a0), some (pI a1), some (pI s2.1), some (pI (w32 (s2.2 + 1))), none] (ls_s (ls_s (ls_s (ls_s (ls_n ls_e))))) (hrec1 (s2.1, w32 (s2.2 + 1)))
      · refine v_if_le (tgt := 54) dX8_cut_35 (by decide) (fun c17 => ?_) (fun c17 => ?_)
        · refine v_iload_n dX8_cut_38 rfl ?_
          refine v_iload_n dX8_cut_39 rfl ?_
          refine v_ishr dX8_cut_40 ?_
          refine v_iconst dX8_cut_41 (by decide) ?_
          refine v_iand dX8_cut_42 ?_
          refine v_if_ne (tgt := 54) dX8_cut_43 (by decide) (fun c18 => ?_) (fun c18 => ?_)
          · refine v_iload_n dX8_cut_46 rfl ?_
            refine v_iload dX8_cut_47 rfl ?_
            refine v_iadd dX8_cut_49 ?_
            refine v_istore_n (ls' := [some (pA a0), some (pI a1), some (pI (w32 (s2.1 + r6))), some (pI s2.2), some (pI r6)]) dX8_cut_50 (by decide) rfl ?_
            refine v_goto (tgt := 73) dX8_cut_51 (by decide) ?_
            refine v_iinc (ls' := [some (pA a0), some (pI a1), some (pI (w32 (s2.1 + r6))), some (pI (w32 (s2.2 + 1))), some (pI r6)]) dX8_cut_73 (by decide) rfl rfl ?_
            refine v_goto (tgt := 4) dX8_cut_76 (by decide) ?_
            exact v_drop [some (pA a0), some (pI a1), some (pI (w32 (s2.1 + r6))), some (pI (w32 (s2.2 + 1))), none] (ls_s (ls_s (ls_s (ls_s (ls_n ls_e))))) (hrec1 (w32 (s2.1 + r6), w32 (s2.2 + 1)))
          · exact hj11 ()
        · exact hj11 ()
  · refine v_iload_n dX8_cut_79 rfl ?_
    exact v_ireturn dX8_cut_80 rfl rfl
theorem chX8_settle_0 : (cX8_settle.data.toList.drop 0).take 16 = [42, 3, 184, 0, 123, 60, 4, 61, 28, 4, 42, 180, 0, 28, 180, 0] := by decide +kernel
theorem chX8_settle_1 : (cX8_settle.data.toList.drop 16).take 16 = [66, 120, 162, 0, 19, 27, 42, 28, 184, 0, 123, 184, 0, 126, 60, 132] := by decide +kernel
theorem chX8_settle_2 : (cX8_settle.data.toList.drop 32).take 16 = [2, 1, 167, 255, 230, 27, 172] := by decide +kernel
theorem dX8_settle_0 : decode cX8_settle 0 = .ok (.aload_n 0, 1) := oq_42 (byt chX8_settle_0 0 rfl)
theorem dX8_settle_1 : decode cX8_settle 1 = .ok (.iconst 0, 1) := oq_3 (byt chX8_settle_0 1 rfl)
theorem dX8_settle_2 : decode cX8_settle 2 = .ok (.invokestatic 123, 3) := oq_184 (byt chX8_settle_0 2 rfl) (byt chX8_settle_0 3 rfl) (byt chX8_settle_0 4 rfl) rfl
theorem dX8_settle_5 : decode cX8_settle 5 = .ok (.istore_n 1, 1) := oq_60 (byt chX8_settle_0 5 rfl)
theorem dX8_settle_6 : decode cX8_settle 6 = .ok (.iconst 1, 1) := oq_4 (byt chX8_settle_0 6 rfl)
theorem dX8_settle_7 : decode cX8_settle 7 = .ok (.istore_n 2, 1) := oq_61 (byt chX8_settle_0 7 rfl)
theorem dX8_settle_8 : decode cX8_settle 8 = .ok (.iload_n 2, 1) := oq_28 (byt chX8_settle_0 8 rfl)
theorem dX8_settle_9 : decode cX8_settle 9 = .ok (.iconst 1, 1) := oq_4 (byt chX8_settle_0 9 rfl)
theorem dX8_settle_10 : decode cX8_settle 10 = .ok (.aload_n 0, 1) := oq_42 (byt chX8_settle_0 10 rfl)
theorem dX8_settle_11 : decode cX8_settle 11 = .ok (.getfield 28, 3) := oq_180 (byt chX8_settle_0 11 rfl) (byt chX8_settle_0 12 rfl) (byt chX8_settle_0 13 rfl) rfl
theorem dX8_settle_14 : decode cX8_settle 14 = .ok (.getfield 66, 3) := oq_180 (byt chX8_settle_0 14 rfl) (byt chX8_settle_0 15 rfl) (byt chX8_settle_1 0 rfl) rfl
theorem dX8_settle_17 : decode cX8_settle 17 = .ok (.ishl, 1) := oq_120 (byt chX8_settle_1 1 rfl)
theorem dX8_settle_18 : decode cX8_settle 18 = .ok (.if_icmp .ge 19, 3) := oq_162 (byt chX8_settle_1 2 rfl) (byt chX8_settle_1 3 rfl) (byt chX8_settle_1 4 rfl) (by decide +kernel)
theorem dX8_settle_21 : decode cX8_settle 21 = .ok (.iload_n 1, 1) := oq_27 (byt chX8_settle_1 5 rfl)
theorem dX8_settle_22 : decode cX8_settle 22 = .ok (.aload_n 0, 1) := oq_42 (byt chX8_settle_1 6 rfl)
theorem dX8_settle_23 : decode cX8_settle 23 = .ok (.iload_n 2, 1) := oq_28 (byt chX8_settle_1 7 rfl)
theorem dX8_settle_24 : decode cX8_settle 24 = .ok (.invokestatic 123, 3) := oq_184 (byt chX8_settle_1 8 rfl) (byt chX8_settle_1 9 rfl) (byt chX8_settle_1 10 rfl) rfl
theorem dX8_settle_27 : decode cX8_settle 27 = .ok (.invokestatic 126, 3) := oq_184 (byt chX8_settle_1 11 rfl) (byt chX8_settle_1 12 rfl) (byt chX8_settle_1 13 rfl) rfl
theorem dX8_settle_30 : decode cX8_settle 30 = .ok (.istore_n 1, 1) := oq_60 (byt chX8_settle_1 14 rfl)
theorem dX8_settle_31 : decode cX8_settle 31 = .ok (.iinc 2 1, 3) := oq_132 (byt chX8_settle_1 15 rfl) (byt chX8_settle_2 0 rfl) (byt chX8_settle_2 1 rfl) rfl
theorem dX8_settle_34 : decode cX8_settle 34 = .ok (.goto (-26), 3) := oq_167 (byt chX8_settle_2 2 rfl) (byt chX8_settle_2 3 rfl) (byt chX8_settle_2 4 rfl) (by decide +kernel)
theorem dX8_settle_37 : decode cX8_settle 37 = .ok (.iload_n 1, 1) := oq_27 (byt chX8_settle_2 5 rfl)
theorem dX8_settle_38 : decode cX8_settle 38 = .ok (.ireturn, 1) := oq_172 (byt chX8_settle_2 6 rfl)
abbrev mX8_settle : MI := (yX8_settle, cX8_settle, 3, (some .int), noE)
theorem okX8_settle : cok mX8_settle 1 := ⟨tw1080, tw18, by decide, by decide, by decide, by decide +kernel⟩
def fX8_settle (M : Mem) (a0 : Int) : Option Int :=
  (fX8_cut M a0 0).bind fun r1 => iterC (fun (rec3 : (Int × Int) → Option Int) (s4 : Int × Int) => if M.2.1 a0 = 8 then if M.2.1 (M.1 a0 0) = 7 then if s4.2 < bShl 1 (M.1 (M.1 a0 0) 1) then ((fX8_cut M a0 s4.2).bind fun r8 => rec3 (imin s4.1 r8, w32 (s4.2 + 1))) else (some s4.1) else none else none) BIG (r1, 1)
set_option maxRecDepth 100000 in
set_option maxHeartbeats 4000000 in
theorem kX8_settle (d : Nat) (hd : 4 ≤ d) (M : Mem) (a0 : Int) : Ct mX8_settle d 0 0 [pA a0] M (dI M) (fX8_settle M a0) := by
  obtain ⟨d, rfl⟩ : ∃ k, d = k + 1 := ⟨d - 1, by omega⟩
  refine Ct.of 2 (fun _ _ _ => trivial) (by decide +kernel) rfl ?_
  unfold fX8_settle
  refine v_aload_n dX8_settle_0 rfl ?_
  refine v_iconst dX8_settle_1 (by decide) ?_
  refine v_cS (mi := mX8_settle) (c0 := 0) (c1 := 0) (As := [pA a0, pI 0]) (st := []) (kX8_cut d (by omega) _ _ _) okX8_cut (Or.inl tw1081) tw1082 rfl (Nat.le_of_ble_eq_true rfl) dX8_settle_2 (fun r1 => [pI r1]) (fun r1 => M) (fun _ => rfl) (fun _ => rfl) (fun r1 h2 => ?_) rfl
  refine v_istore_n (ls' := [some (pA a0), some (pI r1), none]) dX8_settle_5 (by decide) rfl ?_
  refine v_iconst dX8_settle_6 (by decide) ?_
  refine v_istore_n (ls' := [some (pA a0), some (pI r1), some (pI 1)]) dX8_settle_7 (by decide) rfl ?_
  refine v_loop (fun (s4 : Int × Int) => [some (pA a0), some (pI s4.1), some (pI s4.2)]) (fun (s4 : Int × Int) => M) (s0 := (r1, 1)) ?_
  intro rec3 hrec3 s4
  refine v_iload_n dX8_settle_8 rfl ?_
  refine v_iconst dX8_settle_9 (by decide) ?_
  refine v_aload_n dX8_settle_10 rfl ?_
  refine v_if (fun h5 => ?_)
  refine v_get (v := pA (M.1 a0 0)) 8 0 rfl inX9 (by decide) tw316 dX8_settle_11 h5 rfl ?_
  refine v_if (fun h6 => ?_)
  refine v_get (v := pI (M.1 (M.1 a0 0) 1)) 7 1 rfl inX7 (by decide) tw63 dX8_settle_14 h6 rfl ?_
  refine v_ishl dX8_settle_17 ?_
  refine v_icmp_ge (tgt := 37) dX8_settle_18 (by decide) (fun c7 => ?_) (fun c7 => ?_)
  · refine v_iload_n dX8_settle_21 rfl ?_
    refine v_aload_n dX8_settle_22 rfl ?_
    refine v_iload_n dX8_settle_23 rfl ?_
    refine v_cS (mi := mX8_settle) (c0 := 0) (c1 := 0) (As := [pA a0, pI s4.2]) (st := [pI s4.1]) (kX8_cut d (by omega) _ _ _) okX8_cut (Or.inl tw1081) tw1082 rfl (Nat.le_of_ble_eq_true rfl) dX8_settle_24 (fun r8 => [pI r8, pI s4.1]) (fun r8 => M) (fun _ => rfl) (fun _ => rfl) (fun r8 h9 => ?_) rfl
    refine v_mmin (mi := mX8_settle) tw1089 tw469 tw12 tw470 (Nat.le_of_ble_eq_true rfl) dX8_settle_27 ?_
    refine v_istore_n (ls' := [some (pA a0), some (pI (imin s4.1 r8)), some (pI s4.2)]) dX8_settle_30 (by decide) rfl ?_
    refine v_iinc (ls' := [some (pA a0), some (pI (imin s4.1 r8)), some (pI (w32 (s4.2 + 1)))]) dX8_settle_31 (by decide) rfl rfl ?_
    refine v_goto (tgt := 8) dX8_settle_34 (by decide) ?_
    exact hrec3 (imin s4.1 r8, w32 (s4.2 + 1))
  · refine v_iload_n dX8_settle_37 rfl ?_
    exact v_ireturn dX8_settle_38 rfl rfl
theorem chX8_wealthOf_0 : (cX8_wealthOf.data.toList.drop 0).take 16 = [42, 180, 0, 28, 27, 182, 0, 32, 153, 0, 18, 42, 180, 0, 28, 42] := by decide +kernel
theorem chX8_wealthOf_1 : (cX8_wealthOf.data.toList.drop 16).take 16 = [180, 0, 149, 27, 182, 0, 152, 167, 0, 4, 3, 172] := by decide +kernel
theorem dX8_wealthOf_0 : decode cX8_wealthOf 0 = .ok (.aload_n 0, 1) := oq_42 (byt chX8_wealthOf_0 0 rfl)
theorem dX8_wealthOf_1 : decode cX8_wealthOf 1 = .ok (.getfield 28, 3) := oq_180 (byt chX8_wealthOf_0 1 rfl) (byt chX8_wealthOf_0 2 rfl) (byt chX8_wealthOf_0 3 rfl) rfl
theorem dX8_wealthOf_4 : decode cX8_wealthOf 4 = .ok (.iload_n 1, 1) := oq_27 (byt chX8_wealthOf_0 4 rfl)
theorem dX8_wealthOf_5 : decode cX8_wealthOf 5 = .ok (.invokevirtual 32, 3) := oq_182 (byt chX8_wealthOf_0 5 rfl) (byt chX8_wealthOf_0 6 rfl) (byt chX8_wealthOf_0 7 rfl) rfl
theorem dX8_wealthOf_8 : decode cX8_wealthOf 8 = .ok (.ifCond .eq 18, 3) := oq_153 (byt chX8_wealthOf_0 8 rfl) (byt chX8_wealthOf_0 9 rfl) (byt chX8_wealthOf_0 10 rfl) (by decide +kernel)
theorem dX8_wealthOf_11 : decode cX8_wealthOf 11 = .ok (.aload_n 0, 1) := oq_42 (byt chX8_wealthOf_0 11 rfl)
theorem dX8_wealthOf_12 : decode cX8_wealthOf 12 = .ok (.getfield 28, 3) := oq_180 (byt chX8_wealthOf_0 12 rfl) (byt chX8_wealthOf_0 13 rfl) (byt chX8_wealthOf_0 14 rfl) rfl
theorem dX8_wealthOf_15 : decode cX8_wealthOf 15 = .ok (.aload_n 0, 1) := oq_42 (byt chX8_wealthOf_0 15 rfl)
theorem dX8_wealthOf_16 : decode cX8_wealthOf 16 = .ok (.getfield 149, 3) := oq_180 (byt chX8_wealthOf_1 0 rfl) (byt chX8_wealthOf_1 1 rfl) (byt chX8_wealthOf_1 2 rfl) rfl
theorem dX8_wealthOf_19 : decode cX8_wealthOf 19 = .ok (.iload_n 1, 1) := oq_27 (byt chX8_wealthOf_1 3 rfl)
theorem dX8_wealthOf_20 : decode cX8_wealthOf 20 = .ok (.invokevirtual 152, 3) := oq_182 (byt chX8_wealthOf_1 4 rfl) (byt chX8_wealthOf_1 5 rfl) (byt chX8_wealthOf_1 6 rfl) rfl
theorem dX8_wealthOf_23 : decode cX8_wealthOf 23 = .ok (.goto 4, 3) := oq_167 (byt chX8_wealthOf_1 7 rfl) (byt chX8_wealthOf_1 8 rfl) (byt chX8_wealthOf_1 9 rfl) (by decide +kernel)
theorem dX8_wealthOf_26 : decode cX8_wealthOf 26 = .ok (.iconst 0, 1) := oq_3 (byt chX8_wealthOf_1 10 rfl)
theorem dX8_wealthOf_27 : decode cX8_wealthOf 27 = .ok (.ireturn, 1) := oq_172 (byt chX8_wealthOf_1 11 rfl)
abbrev mX8_wealthOf : MI := (yX8_wealthOf, cX8_wealthOf, 2, (some .int), noE)
theorem okX8_wealthOf : cok mX8_wealthOf 2 := ⟨tw1095, tw18, by decide, by decide, by decide, by decide +kernel⟩
def fX8_wealthOf (M : Mem) (a0 a1 : Int) : Option Int :=
  if M.2.1 a0 = 8 then if M.2.1 (M.1 a0 0) = 7 then (fX7_isHouse M (M.1 a0 0) a1).bind fun r2 => if r2 = 0 then (some 0) else ((fX7_worthIn M (M.1 a0 0) (M.1 a0 2) a1).bind fun r6 => some r6) else none else none
set_option maxRecDepth 100000 in
set_option maxHeartbeats 4000000 in
theorem kX8_wealthOf (d : Nat) (hd : 2 ≤ d) (M : Mem) (a0 a1 : Int) : Ct mX8_wealthOf d 0 0 [pA a0, pI a1] M (dI M) (fX8_wealthOf M a0 a1) := by
  obtain ⟨d, rfl⟩ : ∃ k, d = k + 1 := ⟨d - 1, by omega⟩
  refine Ct.of 0 (fun _ _ _ => trivial) (by decide +kernel) rfl ?_
  unfold fX8_wealthOf
  refine v_aload_n dX8_wealthOf_0 rfl ?_
  refine v_if (fun h1 => ?_)
  refine v_get (v := pA (M.1 a0 0)) 8 0 rfl inX9 (by decide) tw316 dX8_wealthOf_1 h1 rfl ?_
  refine v_iload_n dX8_wealthOf_4 rfl ?_
  refine v_if (fun h4 => ?_)
  refine v_cV (mi := mX8_wealthOf) (c0 := 0) (c1 := 0) (As := [pI a1]) (st := []) (kX7_isHouse d (by omega) _ _ _) rfl h4 rfl okX7_isHouse (Or.inl tw836) tw685 tw686 rfl (Nat.le_of_ble_eq_true rfl) dX8_wealthOf_5 (fun r2 => [pI r2]) (fun r2 => M) (fun _ => rfl) (fun _ => rfl) (fun r2 h3 => ?_) rfl
  refine v_if_eq (tgt := 26) dX8_wealthOf_8 (by decide) (fun c5 => ?_) (fun c5 => ?_)
  · refine v_iconst dX8_wealthOf_26 (by decide) ?_
    exact v_ireturn dX8_wealthOf_27 rfl rfl
  · refine v_aload_n dX8_wealthOf_11 rfl ?_
    refine v_get (v := pA (M.1 a0 0)) 8 0 rfl inX9 (by decide) tw316 dX8_wealthOf_12 h1 rfl ?_
    refine v_aload_n dX8_wealthOf_15 rfl ?_
    refine v_get (v := pA (M.1 a0 2)) 8 2 rfl inX9 (by decide) tw322 dX8_wealthOf_16 h1 rfl ?_
    refine v_iload_n dX8_wealthOf_19 rfl ?_
    refine v_cV (mi := mX8_wealthOf) (c0 := 0) (c1 := 0) (As := [pA (M.1 a0 2), pI a1]) (st := []) (kX7_worthIn d (by omega) _ _ _ _) rfl h4 rfl okX7_worthIn (Or.inl tw1096) tw1016 tw1017 rfl (Nat.le_of_ble_eq_true rfl) dX8_wealthOf_20 (fun r6 => [pI r6]) (fun r6 => M) (fun _ => rfl) (fun _ => rfl) (fun r6 h7 => ?_) rfl
    refine v_goto (tgt := 27) dX8_wealthOf_23 (by decide) ?_
    exact v_ireturn dX8_wealthOf_27 rfl rfl
theorem chX8_gap_0 : (cX8_gap.data.toList.drop 0).take 16 = [42, 3, 184, 0, 117, 60, 27, 61, 4, 62, 29, 42, 180, 0, 28, 180] := by decide +kernel
theorem chX8_gap_1 : (cX8_gap.data.toList.drop 16).take 16 = [0, 59, 162, 0, 29, 27, 42, 29, 184, 0, 117, 184, 0, 156, 60, 28] := by decide +kernel
theorem chX8_gap_2 : (cX8_gap.data.toList.drop 32).take 16 = [42, 29, 184, 0, 117, 184, 0, 126, 61, 132, 3, 1, 167, 255, 222, 27] := by decide +kernel
theorem chX8_gap_3 : (cX8_gap.data.toList.drop 48).take 16 = [28, 100, 172] := by decide +kernel
theorem dX8_gap_0 : decode cX8_gap 0 = .ok (.aload_n 0, 1) := oq_42 (byt chX8_gap_0 0 rfl)
theorem dX8_gap_1 : decode cX8_gap 1 = .ok (.iconst 0, 1) := oq_3 (byt chX8_gap_0 1 rfl)
theorem dX8_gap_2 : decode cX8_gap 2 = .ok (.invokestatic 117, 3) := oq_184 (byt chX8_gap_0 2 rfl) (byt chX8_gap_0 3 rfl) (byt chX8_gap_0 4 rfl) rfl
theorem dX8_gap_5 : decode cX8_gap 5 = .ok (.istore_n 1, 1) := oq_60 (byt chX8_gap_0 5 rfl)
theorem dX8_gap_6 : decode cX8_gap 6 = .ok (.iload_n 1, 1) := oq_27 (byt chX8_gap_0 6 rfl)
theorem dX8_gap_7 : decode cX8_gap 7 = .ok (.istore_n 2, 1) := oq_61 (byt chX8_gap_0 7 rfl)
theorem dX8_gap_8 : decode cX8_gap 8 = .ok (.iconst 1, 1) := oq_4 (byt chX8_gap_0 8 rfl)
theorem dX8_gap_9 : decode cX8_gap 9 = .ok (.istore_n 3, 1) := oq_62 (byt chX8_gap_0 9 rfl)
theorem dX8_gap_10 : decode cX8_gap 10 = .ok (.iload_n 3, 1) := oq_29 (byt chX8_gap_0 10 rfl)
theorem dX8_gap_11 : decode cX8_gap 11 = .ok (.aload_n 0, 1) := oq_42 (byt chX8_gap_0 11 rfl)
theorem dX8_gap_12 : decode cX8_gap 12 = .ok (.getfield 28, 3) := oq_180 (byt chX8_gap_0 12 rfl) (byt chX8_gap_0 13 rfl) (byt chX8_gap_0 14 rfl) rfl
theorem dX8_gap_15 : decode cX8_gap 15 = .ok (.getfield 59, 3) := oq_180 (byt chX8_gap_0 15 rfl) (byt chX8_gap_1 0 rfl) (byt chX8_gap_1 1 rfl) rfl
theorem dX8_gap_18 : decode cX8_gap 18 = .ok (.if_icmp .ge 29, 3) := oq_162 (byt chX8_gap_1 2 rfl) (byt chX8_gap_1 3 rfl) (byt chX8_gap_1 4 rfl) (by decide +kernel)
theorem dX8_gap_21 : decode cX8_gap 21 = .ok (.iload_n 1, 1) := oq_27 (byt chX8_gap_1 5 rfl)
theorem dX8_gap_22 : decode cX8_gap 22 = .ok (.aload_n 0, 1) := oq_42 (byt chX8_gap_1 6 rfl)
theorem dX8_gap_23 : decode cX8_gap 23 = .ok (.iload_n 3, 1) := oq_29 (byt chX8_gap_1 7 rfl)
theorem dX8_gap_24 : decode cX8_gap 24 = .ok (.invokestatic 117, 3) := oq_184 (byt chX8_gap_1 8 rfl) (byt chX8_gap_1 9 rfl) (byt chX8_gap_1 10 rfl) rfl
theorem dX8_gap_27 : decode cX8_gap 27 = .ok (.invokestatic 156, 3) := oq_184 (byt chX8_gap_1 11 rfl) (byt chX8_gap_1 12 rfl) (byt chX8_gap_1 13 rfl) rfl
theorem dX8_gap_30 : decode cX8_gap 30 = .ok (.istore_n 1, 1) := oq_60 (byt chX8_gap_1 14 rfl)
theorem dX8_gap_31 : decode cX8_gap 31 = .ok (.iload_n 2, 1) := oq_28 (byt chX8_gap_1 15 rfl)
theorem dX8_gap_32 : decode cX8_gap 32 = .ok (.aload_n 0, 1) := oq_42 (byt chX8_gap_2 0 rfl)
theorem dX8_gap_33 : decode cX8_gap 33 = .ok (.iload_n 3, 1) := oq_29 (byt chX8_gap_2 1 rfl)
theorem dX8_gap_34 : decode cX8_gap 34 = .ok (.invokestatic 117, 3) := oq_184 (byt chX8_gap_2 2 rfl) (byt chX8_gap_2 3 rfl) (byt chX8_gap_2 4 rfl) rfl
theorem dX8_gap_37 : decode cX8_gap 37 = .ok (.invokestatic 126, 3) := oq_184 (byt chX8_gap_2 5 rfl) (byt chX8_gap_2 6 rfl) (byt chX8_gap_2 7 rfl) rfl
theorem dX8_gap_40 : decode cX8_gap 40 = .ok (.istore_n 2, 1) := oq_61 (byt chX8_gap_2 8 rfl)
theorem dX8_gap_41 : decode cX8_gap 41 = .ok (.iinc 3 1, 3) := oq_132 (byt chX8_gap_2 9 rfl) (byt chX8_gap_2 10 rfl) (byt chX8_gap_2 11 rfl) rfl
theorem dX8_gap_44 : decode cX8_gap 44 = .ok (.goto (-34), 3) := oq_167 (byt chX8_gap_2 12 rfl) (byt chX8_gap_2 13 rfl) (byt chX8_gap_2 14 rfl) (by decide +kernel)
theorem dX8_gap_47 : decode cX8_gap 47 = .ok (.iload_n 1, 1) := oq_27 (byt chX8_gap_2 15 rfl)
theorem dX8_gap_48 : decode cX8_gap 48 = .ok (.iload_n 2, 1) := oq_28 (byt chX8_gap_3 0 rfl)
theorem dX8_gap_49 : decode cX8_gap 49 = .ok (.isub, 1) := oq_100 (byt chX8_gap_3 1 rfl)
theorem dX8_gap_50 : decode cX8_gap 50 = .ok (.ireturn, 1) := oq_172 (byt chX8_gap_3 2 rfl)
abbrev mX8_gap : MI := (yX8_gap, cX8_gap, 4, (some .int), noE)
theorem okX8_gap : cok mX8_gap 1 := ⟨tw1092, tw18, by decide, by decide, by decide, by decide +kernel⟩
def fX8_gap (M : Mem) (a0 : Int) : Option Int :=
  (fX8_wealthOf M a0 0).bind fun r1 => iterC (fun (rec3 : (Int × Int × Int) → Option Int) (s4 : Int × Int × Int) => if M.2.1 a0 = 8 then if M.2.1 (M.1 a0 0) = 7 then if s4.2.2 < M.1 (M.1 a0 0) 0 then ((fX8_wealthOf M a0 s4.2.2).bind fun r8 => (fX8_wealthOf M a0 s4.2.2).bind fun r10 => rec3 (imax s4.1 r8, imin s4.2.1 r10, w32 (s4.2.2 + 1))) else (some (w32 (s4.1 - s4.2.1))) else none else none) BIG (r1, r1, 1)
set_option maxRecDepth 100000 in
set_option maxHeartbeats 4000000 in
theorem kX8_gap (d : Nat) (hd : 3 ≤ d) (M : Mem) (a0 : Int) : Ct mX8_gap d 0 0 [pA a0] M (dI M) (fX8_gap M a0) := by
  obtain ⟨d, rfl⟩ : ∃ k, d = k + 1 := ⟨d - 1, by omega⟩
  refine Ct.of 3 (fun _ _ _ => trivial) (by decide +kernel) rfl ?_
  unfold fX8_gap
  refine v_aload_n dX8_gap_0 rfl ?_
  refine v_iconst dX8_gap_1 (by decide) ?_
  refine v_cS (mi := mX8_gap) (c0 := 0) (c1 := 0) (As := [pA a0, pI 0]) (st := []) (kX8_wealthOf d (by omega) _ _ _) okX8_wealthOf (Or.inl tw1093) tw1094 rfl (Nat.le_of_ble_eq_true rfl) dX8_gap_2 (fun r1 => [pI r1]) (fun r1 => M) (fun _ => rfl) (fun _ => rfl) (fun r1 h2 => ?_) rfl
  refine v_istore_n (ls' := [some (pA a0), some (pI r1), none, none]) dX8_gap_5 (by decide) rfl ?_
  refine v_iload_n dX8_gap_6 rfl ?_
  refine v_istore_n (ls' := [some (pA a0), some (pI r1), some (pI r1), none]) dX8_gap_7 (by decide) rfl ?_
  refine v_iconst dX8_gap_8 (by decide) ?_
  refine v_istore_n (ls' := [some (pA a0), some (pI r1), some (pI r1), some (pI 1)]) dX8_gap_9 (by decide) rfl ?_
  refine v_loop (fun (s4 : Int × Int × Int) => [some (pA a0), some (pI s4.1), some (pI s4.2.1), some (pI s4.2.2)]) (fun (s4 : Int × Int × Int) => M) (s0 := (r1, r1, 1)) ?_
  intro rec3 hrec3 s4
  refine v_iload_n dX8_gap_10 rfl ?_
  refine v_aload_n dX8_gap_11 rfl ?_
  refine v_if (fun h5 => ?_)
  refine v_get (v := pA (M.1 a0 0)) 8 0 rfl inX9 (by decide) tw316 dX8_gap_12 h5 rfl ?_
  refine v_if (fun h6 => ?_)
  refine v_get (v := pI (M.1 (M.1 a0 0) 0)) 7 0 rfl inX7 (by decide) tw57 dX8_gap_15 h6 rfl ?_
  refine v_icmp_ge (tgt := 47) dX8_gap_18 (by decide) (fun c7 => ?_) (fun c7 => ?_)
  · refine v_iload_n dX8_gap_21 rfl ?_
    refine v_aload_n dX8_gap_22 rfl ?_
    refine v_iload_n dX8_gap_23 rfl ?_
    refine v_cS (mi := mX8_gap) (c0 := 0) (c1 := 0) (As := [pA a0, pI s4.2.2]) (st := [pI s4.1]) (kX8_wealthOf d (by omega) _ _ _) okX8_wealthOf (Or.inl tw1093) tw1094 rfl (Nat.le_of_ble_eq_true rfl) dX8_gap_24 (fun r8 => [pI r8, pI s4.1]) (fun r8 => M) (fun _ => rfl) (fun _ => rfl) (fun r8 h9 => ?_) rfl
    refine v_mmax (mi := mX8_gap) tw1097 tw624 tw12 tw625 (Nat.le_of_ble_eq_true rfl) dX8_gap_27 ?_
    refine v_istore_n (ls' := [some (pA a0), some (pI (imax s4.1 r8)), some (pI s4.2.1), some (pI s4.2.2)]) dX8_gap_30 (by decide) rfl ?_
    refine v_iload_n dX8_gap_31 rfl ?_
    refine v_aload_n dX8_gap_32 rfl ?_
    refine v_iload_n dX8_gap_33 rfl ?_
    refine v_cS (mi := mX8_gap) (c0 := 0) (c1 := 0) (As := [pA a0, pI s4.2.2]) (st := [pI s4.2.1]) (kX8_wealthOf d (by omega) _ _ _) okX8_wealthOf (Or.inl tw1093) tw1094 rfl (Nat.le_of_ble_eq_true rfl) dX8_gap_34 (fun r10 => [pI r10, pI s4.2.1]) (fun r10 => M) (fun _ => rfl) (fun _ => rfl) (fun r10 h11 => ?_) rfl
    refine v_mmin (mi := mX8_gap) tw1089 tw469 tw12 tw470 (Nat.le_of_ble_eq_true rfl) dX8_gap_37 ?_
    refine v_istore_n (ls' := [some (pA a0), some (pI (imax s4.1 r8)), some (pI (imin s4.2.1 r10)), some (pI s4.2.2)]) dX8_gap_40 (by decide) rfl ?_
    refine v_iinc (ls' := [some (pA a0), some (pI (imax s4.1 r8)), some (pI (imin s4.2.1 r10)), some (pI (w32 (s4.2.2 + 1)))]) dX8_gap_41 (by decide) rfl rfl ?_
    refine v_goto (tgt := 10) dX8_gap_44 (by decide) ?_
    exact hrec3 (imax s4.1 r8, imin s4.2.1 r10, w32 (s4.2.2 + 1))
  · refine v_iload_n dX8_gap_47 rfl ?_
    refine v_iload_n dX8_gap_48 rfl ?_
    refine v_isub dX8_gap_49 ?_
    exact v_ireturn dX8_gap_50 rfl rfl
theorem chX10_leastTerms_0 : (cX10_leastTerms.data.toList.drop 0).take 16 = [26, 27, 184, 1, 86, 62, 26, 158, 0, 7, 29, 157, 0, 13, 28, 153] := by decide +kernel
theorem chX10_leastTerms_1 : (cX10_leastTerms.data.toList.drop 16).take 16 = [0, 7, 4, 167, 0, 4, 3, 172, 28, 153, 0, 7, 27, 167, 0, 4] := by decide +kernel
theorem chX10_leastTerms_2 : (cX10_leastTerms.data.toList.drop 32).take 16 = [26, 29, 108, 172] := by decide +kernel
theorem dX10_leastTerms_0 : decode cX10_leastTerms 0 = .ok (.iload_n 0, 1) := oq_26 (byt chX10_leastTerms_0 0 rfl)
theorem dX10_leastTerms_1 : decode cX10_leastTerms 1 = .ok (.iload_n 1, 1) := oq_27 (byt chX10_leastTerms_0 1 rfl)
theorem dX10_leastTerms_2 : decode cX10_leastTerms 2 = .ok (.invokestatic 342, 3) := oq_184 (byt chX10_leastTerms_0 2 rfl) (byt chX10_leastTerms_0 3 rfl) (byt chX10_leastTerms_0 4 rfl) rfl
theorem dX10_leastTerms_5 : decode cX10_leastTerms 5 = .ok (.istore_n 3, 1) := oq_62 (byt chX10_leastTerms_0 5 rfl)
theorem dX10_leastTerms_6 : decode cX10_leastTerms 6 = .ok (.iload_n 0, 1) := oq_26 (byt chX10_leastTerms_0 6 rfl)
theorem dX10_leastTerms_7 : decode cX10_leastTerms 7 = .ok (.ifCond .le 7, 3) := oq_158 (byt chX10_leastTerms_0 7 rfl) (byt chX10_leastTerms_0 8 rfl) (byt chX10_leastTerms_0 9 rfl) (by decide +kernel)
theorem dX10_leastTerms_10 : decode cX10_leastTerms 10 = .ok (.iload_n 3, 1) := oq_29 (byt chX10_leastTerms_0 10 rfl)
theorem dX10_leastTerms_11 : decode cX10_leastTerms 11 = .ok (.ifCond .gt 13, 3) := oq_157 (byt chX10_leastTerms_0 11 rfl) (byt chX10_leastTerms_0 12 rfl) (byt chX10_leastTerms_0 13 rfl) (by decide +kernel)
theorem dX10_leastTerms_14 : decode cX10_leastTerms 14 = .ok (.iload_n 2, 1) := oq_28 (byt chX10_leastTerms_0 14 rfl)
theorem dX10_leastTerms_15 : decode cX10_leastTerms 15 = .ok (.ifCond .eq 7, 3) := oq_153 (byt chX10_leastTerms_0 15 rfl) (byt chX10_leastTerms_1 0 rfl) (byt chX10_leastTerms_1 1 rfl) (by decide +kernel)
theorem dX10_leastTerms_18 : decode cX10_leastTerms 18 = .ok (.iconst 1, 1) := oq_4 (byt chX10_leastTerms_1 2 rfl)
theorem dX10_leastTerms_19 : decode cX10_leastTerms 19 = .ok (.goto 4, 3) := oq_167 (byt chX10_leastTerms_1 3 rfl) (byt chX10_leastTerms_1 4 rfl) (byt chX10_leastTerms_1 5 rfl) (by decide +kernel)
theorem dX10_leastTerms_22 : decode cX10_leastTerms 22 = .ok (.iconst 0, 1) := oq_3 (byt chX10_leastTerms_1 6 rfl)
theorem dX10_leastTerms_23 : decode cX10_leastTerms 23 = .ok (.ireturn, 1) := oq_172 (byt chX10_leastTerms_1 7 rfl)
theorem dX10_leastTerms_24 : decode cX10_leastTerms 24 = .ok (.iload_n 2, 1) := oq_28 (byt chX10_leastTerms_1 8 rfl)
theorem dX10_leastTerms_25 : decode cX10_leastTerms 25 = .ok (.ifCond .eq 7, 3) := oq_153 (byt chX10_leastTerms_1 9 rfl) (byt chX10_leastTerms_1 10 rfl) (byt chX10_leastTerms_1 11 rfl) (by decide +kernel)
theorem dX10_leastTerms_28 : decode cX10_leastTerms 28 = .ok (.iload_n 1, 1) := oq_27 (byt chX10_leastTerms_1 12 rfl)
theorem dX10_leastTerms_29 : decode cX10_leastTerms 29 = .ok (.goto 4, 3) := oq_167 (byt chX10_leastTerms_1 13 rfl) (byt chX10_leastTerms_1 14 rfl) (byt chX10_leastTerms_1 15 rfl) (by decide +kernel)
theorem dX10_leastTerms_32 : decode cX10_leastTerms 32 = .ok (.iload_n 0, 1) := oq_26 (byt chX10_leastTerms_2 0 rfl)
theorem dX10_leastTerms_33 : decode cX10_leastTerms 33 = .ok (.iload_n 3, 1) := oq_29 (byt chX10_leastTerms_2 1 rfl)
theorem dX10_leastTerms_34 : decode cX10_leastTerms 34 = .ok (.idiv, 1) := oq_108 (byt chX10_leastTerms_2 2 rfl)
theorem dX10_leastTerms_35 : decode cX10_leastTerms 35 = .ok (.ireturn, 1) := oq_172 (byt chX10_leastTerms_2 3 rfl)
abbrev mX10_leastTerms : MI := (yX10_leastTerms, cX10_leastTerms, 4, (some .int), noE)
theorem okX10_leastTerms : cok mX10_leastTerms 3 := ⟨tw1039, tw1, by decide, by decide, by decide, by decide +kernel⟩
def fX10_leastTerms (M : Mem) (a0 a1 a2 : Int) : Option Int :=
  (fX10_commonDivisor M a0 a1).bind fun r1 => jn (fun (t4 : Unit) => if a2 = 0 then (some 0) else (some 1)) (fun (j3 : Unit → Option Int) => if 0 < a0 then (if 0 < r1 then (jn (fun (t9 : Int) => if r1 ≠ 0 then some (w32 (t9.tdiv r1)) else none) (fun (j8 : Int → Option Int) => if a2 = 0 then (j8 a0) else (j8 a1))) else (j3 ())) else (j3 ()))
set_option maxRecDepth 100000 in
set_option maxHeartbeats 4000000 in
theorem kX10_leastTerms (d : Nat) (hd : 1 ≤ d) (M : Mem) (a0 a1 a2 : Int) : Ct mX10_leastTerms d 0 0 [pI a0, pI a1, pI a2] M (dI M) (fX10_leastTerms M a0 a1 a2) := by
  obtain ⟨d, rfl⟩ : ∃ k, d = k + 1 := ⟨d - 1, by omega⟩
  refine Ct.of 1 (fun _ _ _ => trivial) (by decide +kernel) rfl ?_
  unfold fX10_leastTerms
  refine v_iload_n dX10_leastTerms_0 rfl ?_
  refine v_iload_n dX10_leastTerms_1 rfl ?_
  refine v_cS (mi := mX10_leastTerms) (c0 := 0) (c1 := 0) (As := [pI a0, pI a1]) (st := []) (kX10_commonDivisor d (by omega) _ _ _) okX10_commonDivisor (Or.inl tw1040) tw922 rfl (Nat.le_of_ble_eq_true rfl) dX10_leastTerms_2 (fun r1 => [pI r1]) (fun r1 => M) (fun _ => rfl) (fun _ => rfl) (fun r1 h2 => ?_) rfl
  refine v_istore_n (ls' := [some (pI a0), some (pI a1), some (pI a2), some (pI r1)]) dX10_leastTerms_5 (by decide) rfl ?_
  refine v_iload_n dX10_leastTerms_6 rfl ?_
  refine v_join (fun (t4 : Unit) => [none, none, some (pI a2), none]) (fun (t4 : Unit) => []) (fun (t4 : Unit) => M) 14 (fun t4 => ?_) (fun j3 hj3 => ?_)
  · refine v_iload_n dX10_leastTerms_14 rfl ?_
    refine v_if_eq (tgt := 22) dX10_leastTerms_15 (by decide) (fun c5 => ?_) (fun c5 => ?_)
    · refine v_iconst dX10_leastTerms_22 (by decide) ?_
      exact v_ireturn dX10_leastTerms_23 rfl rfl
    · refine v_iconst dX10_leastTerms_18 (by decide) ?_
      refine v_goto (tgt := 23) dX10_leastTerms_19 (by decide) ?_
      exact v_ireturn dX10_leastTerms_23 rfl rfl
  · refine v_if_le (tgt := 14) dX10_leastTerms_7 (by decide) (fun c6 => ?_) (fun c6 => ?_)
    · refine v_iload_n dX10_leastTerms_10 rfl ?_
      refine v_if_gt (tgt := 24) dX10_leastTerms_11 (by decide) (fun c7 => ?_) (fun c7 => ?_)
      · refine v_iload_n dX10_leastTerms_24 rfl ?_
        refine v_join (fun (t9 : Int) => [none, none, none, some (pI r1)]) (fun (t9 : Int) => [pI t9]) (fun (t9 : Int) => M) 33 (fun t9 => ?_) (fun j8 hj8 => ?_)
        · refine v_iload_n dX10_leastTerms_33 rfl ?_
          refine v_if (fun h10 => ?_)
          refine v_idiv h10 dX10_leastTerms_34 ?_
          exact v_ireturn dX10_leastTerms_35 rfl rfl
        · refine v_if_eq (tgt := 32) dX10_leastTerms_25 (by decide) (fun c11 => ?_) (fun c11 => ?_)
          · refine v_iload_n dX10_leastTerms_32 rfl ?_
            exact v_drop [none, none, none, some (pI r1)] (ls_n (ls_n (ls_n (ls_s ls_e)))) (hj8 a0)
          · refine v_iload_n dX10_leastTerms_28 rfl ?_
            refine v_goto (tgt := 33) dX10_leastTerms_29 (by decide) ?_
            exact v_drop [none, none, none, some (pI r1)] (ls_n (ls_n (ls_n (ls_s ls_e)))) (hj8 a1)
      · exact v_drop [none, none, some (pI a2), none] (ls_n (ls_n (ls_s (ls_n ls_e)))) (hj3 ())
    · exact v_drop [none, none, some (pI a2), none] (ls_n (ls_n (ls_s (ls_n ls_e)))) (hj3 ())
theorem chX8_unlike_0 : (cX8_unlike.data.toList.drop 0).take 16 = [3, 61, 3, 62, 3, 54, 4, 21, 4, 42, 180, 0, 28, 180, 0, 59] := by decide +kernel
theorem chX8_unlike_1 : (cX8_unlike.data.toList.drop 16).take 16 = [162, 0, 61, 42, 21, 4, 184, 0, 117, 54, 5, 28, 21, 5, 96, 61] := by decide +kernel
theorem chX8_unlike_2 : (cX8_unlike.data.toList.drop 32).take 16 = [21, 4, 4, 96, 54, 6, 21, 6, 42, 180, 0, 28, 180, 0, 59, 162] := by decide +kernel
theorem chX8_unlike_3 : (cX8_unlike.data.toList.drop 48).take 16 = [0, 24, 29, 21, 5, 42, 21, 6, 184, 0, 117, 100, 184, 0, 162, 96] := by decide +kernel
theorem chX8_unlike_4 : (cX8_unlike.data.toList.drop 64).take 16 = [62, 132, 6, 1, 167, 255, 226, 132, 4, 1, 167, 255, 189, 29, 42, 180] := by decide +kernel
theorem chX8_unlike_5 : (cX8_unlike.data.toList.drop 80).take 16 = [0, 28, 180, 0, 59, 28, 104, 27, 184, 0, 165, 172] := by decide +kernel
theorem dX8_unlike_0 : decode cX8_unlike 0 = .ok (.iconst 0, 1) := oq_3 (byt chX8_unlike_0 0 rfl)
theorem dX8_unlike_1 : decode cX8_unlike 1 = .ok (.istore_n 2, 1) := oq_61 (byt chX8_unlike_0 1 rfl)
theorem dX8_unlike_2 : decode cX8_unlike 2 = .ok (.iconst 0, 1) := oq_3 (byt chX8_unlike_0 2 rfl)
theorem dX8_unlike_3 : decode cX8_unlike 3 = .ok (.istore_n 3, 1) := oq_62 (byt chX8_unlike_0 3 rfl)
theorem dX8_unlike_4 : decode cX8_unlike 4 = .ok (.iconst 0, 1) := oq_3 (byt chX8_unlike_0 4 rfl)
theorem dX8_unlike_5 : decode cX8_unlike 5 = .ok (.istore 4, 2) := oq_54 (byt chX8_unlike_0 5 rfl) (byt chX8_unlike_0 6 rfl) rfl
theorem dX8_unlike_7 : decode cX8_unlike 7 = .ok (.iload 4, 2) := oq_21 (byt chX8_unlike_0 7 rfl) (byt chX8_unlike_0 8 rfl) rfl
theorem dX8_unlike_9 : decode cX8_unlike 9 = .ok (.aload_n 0, 1) := oq_42 (byt chX8_unlike_0 9 rfl)
theorem dX8_unlike_10 : decode cX8_unlike 10 = .ok (.getfield 28, 3) := oq_180 (byt chX8_unlike_0 10 rfl) (byt chX8_unlike_0 11 rfl) (byt chX8_unlike_0 12 rfl) rfl
theorem dX8_unlike_13 : decode cX8_unlike 13 = .ok (.getfield 59, 3) := oq_180 (byt chX8_unlike_0 13 rfl) (byt chX8_unlike_0 14 rfl) (byt chX8_unlike_0 15 rfl) rfl
theorem dX8_unlike_16 : decode cX8_unlike 16 = .ok (.if_icmp .ge 61, 3) := oq_162 (byt chX8_unlike_1 0 rfl) (byt chX8_unlike_1 1 rfl) (byt chX8_unlike_1 2 rfl) (by decide +kernel)
theorem dX8_unlike_19 : decode cX8_unlike 19 = .ok (.aload_n 0, 1) := oq_42 (byt chX8_unlike_1 3 rfl)
theorem dX8_unlike_20 : decode cX8_unlike 20 = .ok (.iload 4, 2) := oq_21 (byt chX8_unlike_1 4 rfl) (byt chX8_unlike_1 5 rfl) rfl
theorem dX8_unlike_22 : decode cX8_unlike 22 = .ok (.invokestatic 117, 3) := oq_184 (byt chX8_unlike_1 6 rfl) (byt chX8_unlike_1 7 rfl) (byt chX8_unlike_1 8 rfl) rfl
theorem dX8_unlike_25 : decode cX8_unlike 25 = .ok (.istore 5, 2) := oq_54 (byt chX8_unlike_1 9 rfl) (byt chX8_unlike_1 10 rfl) rfl
theorem dX8_unlike_27 : decode cX8_unlike 27 = .ok (.iload_n 2, 1) := oq_28 (byt chX8_unlike_1 11 rfl)
theorem dX8_unlike_28 : decode cX8_unlike 28 = .ok (.iload 5, 2) := oq_21 (byt chX8_unlike_1 12 rfl) (byt chX8_unlike_1 13 rfl) rfl
theorem dX8_unlike_30 : decode cX8_unlike 30 = .ok (.iadd, 1) := oq_96 (byt chX8_unlike_1 14 rfl)
theorem dX8_unlike_31 : decode cX8_unlike 31 = .ok (.istore_n 2, 1) := oq_61 (byt chX8_unlike_1 15 rfl)
theorem dX8_unlike_32 : decode cX8_unlike 32 = .ok (.iload 4, 2) := oq_21 (byt chX8_unlike_2 0 rfl) (byt chX8_unlike_2 1 rfl) rfl
theorem dX8_unlike_34 : decode cX8_unlike 34 = .ok (.iconst 1, 1) := oq_4 (byt chX8_unlike_2 2 rfl)
theorem dX8_unlike_35 : decode cX8_unlike 35 = .ok (.iadd, 1) := oq_96 (byt chX8_unlike_2 3 rfl)
theorem dX8_unlike_36 : decode cX8_unlike 36 = .ok (.istore 6, 2) := oq_54 (byt chX8_unlike_2 4 rfl) (byt chX8_unlike_2 5 rfl) rfl
theorem dX8_unlike_38 : decode cX8_unlike 38 = .ok (.iload 6, 2) := oq_21 (byt chX8_unlike_2 6 rfl) (byt chX8_unlike_2 7 rfl) rfl
theorem dX8_unlike_40 : decode cX8_unlike 40 = .ok (.aload_n 0, 1) := oq_42 (byt chX8_unlike_2 8 rfl)
theorem dX8_unlike_41 : decode cX8_unlike 41 = .ok (.getfield 28, 3) := oq_180 (byt chX8_unlike_2 9 rfl) (byt chX8_unlike_2 10 rfl) (byt chX8_unlike_2 11 rfl) rfl
theorem dX8_unlike_44 : decode cX8_unlike 44 = .ok (.getfield 59, 3) := oq_180 (byt chX8_unlike_2 12 rfl) (byt chX8_unlike_2 13 rfl) (byt chX8_unlike_2 14 rfl) rfl
theorem dX8_unlike_47 : decode cX8_unlike 47 = .ok (.if_icmp .ge 24, 3) := oq_162 (byt chX8_unlike_2 15 rfl) (byt chX8_unlike_3 0 rfl) (byt chX8_unlike_3 1 rfl) (by decide +kernel)
theorem dX8_unlike_50 : decode cX8_unlike 50 = .ok (.iload_n 3, 1) := oq_29 (byt chX8_unlike_3 2 rfl)
theorem dX8_unlike_51 : decode cX8_unlike 51 = .ok (.iload 5, 2) := oq_21 (byt chX8_unlike_3 3 rfl) (byt chX8_unlike_3 4 rfl) rfl
theorem dX8_unlike_53 : decode cX8_unlike 53 = .ok (.aload_n 0, 1) := oq_42 (byt chX8_unlike_3 5 rfl)
theorem dX8_unlike_54 : decode cX8_unlike 54 = .ok (.iload 6, 2) := oq_21 (byt chX8_unlike_3 6 rfl) (byt chX8_unlike_3 7 rfl) rfl
theorem dX8_unlike_56 : decode cX8_unlike 56 = .ok (.invokestatic 117, 3) := oq_184 (byt chX8_unlike_3 8 rfl) (byt chX8_unlike_3 9 rfl) (byt chX8_unlike_3 10 rfl) rfl
theorem dX8_unlike_59 : decode cX8_unlike 59 = .ok (.isub, 1) := oq_100 (byt chX8_unlike_3 11 rfl)
theorem dX8_unlike_60 : decode cX8_unlike 60 = .ok (.invokestatic 162, 3) := oq_184 (byt chX8_unlike_3 12 rfl) (byt chX8_unlike_3 13 rfl) (byt chX8_unlike_3 14 rfl) rfl
theorem dX8_unlike_63 : decode cX8_unlike 63 = .ok (.iadd, 1) := oq_96 (byt chX8_unlike_3 15 rfl)
theorem dX8_unlike_64 : decode cX8_unlike 64 = .ok (.istore_n 3, 1) := oq_62 (byt chX8_unlike_4 0 rfl)
theorem dX8_unlike_65 : decode cX8_unlike 65 = .ok (.iinc 6 1, 3) := oq_132 (byt chX8_unlike_4 1 rfl) (byt chX8_unlike_4 2 rfl) (byt chX8_unlike_4 3 rfl) rfl
theorem dX8_unlike_68 : decode cX8_unlike 68 = .ok (.goto (-30), 3) := oq_167 (byt chX8_unlike_4 4 rfl) (byt chX8_unlike_4 5 rfl) (byt chX8_unlike_4 6 rfl) (by decide +kernel)
theorem dX8_unlike_71 : decode cX8_unlike 71 = .ok (.iinc 4 1, 3) := oq_132 (byt chX8_unlike_4 7 rfl) (byt chX8_unlike_4 8 rfl) (byt chX8_unlike_4 9 rfl) rfl
theorem dX8_unlike_74 : decode cX8_unlike 74 = .ok (.goto (-67), 3) := oq_167 (byt chX8_unlike_4 10 rfl) (byt chX8_unlike_4 11 rfl) (byt chX8_unlike_4 12 rfl) (by decide +kernel)
theorem dX8_unlike_77 : decode cX8_unlike 77 = .ok (.iload_n 3, 1) := oq_29 (byt chX8_unlike_4 13 rfl)
theorem dX8_unlike_78 : decode cX8_unlike 78 = .ok (.aload_n 0, 1) := oq_42 (byt chX8_unlike_4 14 rfl)
theorem dX8_unlike_79 : decode cX8_unlike 79 = .ok (.getfield 28, 3) := oq_180 (byt chX8_unlike_4 15 rfl) (byt chX8_unlike_5 0 rfl) (byt chX8_unlike_5 1 rfl) rfl
theorem dX8_unlike_82 : decode cX8_unlike 82 = .ok (.getfield 59, 3) := oq_180 (byt chX8_unlike_5 2 rfl) (byt chX8_unlike_5 3 rfl) (byt chX8_unlike_5 4 rfl) rfl
theorem dX8_unlike_85 : decode cX8_unlike 85 = .ok (.iload_n 2, 1) := oq_28 (byt chX8_unlike_5 5 rfl)
theorem dX8_unlike_86 : decode cX8_unlike 86 = .ok (.imul, 1) := oq_104 (byt chX8_unlike_5 6 rfl)
theorem dX8_unlike_87 : decode cX8_unlike 87 = .ok (.iload_n 1, 1) := oq_27 (byt chX8_unlike_5 7 rfl)
theorem dX8_unlike_88 : decode cX8_unlike 88 = .ok (.invokestatic 165, 3) := oq_184 (byt chX8_unlike_5 8 rfl) (byt chX8_unlike_5 9 rfl) (byt chX8_unlike_5 10 rfl) rfl
theorem dX8_unlike_91 : decode cX8_unlike 91 = .ok (.ireturn, 1) := oq_172 (byt chX8_unlike_5 11 rfl)
abbrev mX8_unlike : MI := (yX8_unlike, cX8_unlike, 7, (some .int), noE)
theorem okX8_unlike : cok mX8_unlike 2 := ⟨tw1100, tw18, by decide, by decide, by decide, by decide +kernel⟩
def fX8_unlike (M : Mem) (a0 a1 : Int) : Option Int :=
  iterC (fun (rec1 : (Int × Int × Int) → Option Int) (s2 : Int × Int × Int) => if M.2.1 a0 = 8 then if M.2.1 (M.1 a0 0) = 7 then if s2.2.2 < M.1 (M.1 a0 0) 0 then ((fX8_wealthOf M a0 s2.2.2).bind fun r6 => iterC (fun (rec8 : (Int × Int) → Option Int) (s9 : Int × Int) => if s9.2 < M.1 (M.1 a0 0) 0 then ((fX8_wealthOf M a0 s9.2).bind fun r11 => rec8 (w32 (s9.1 + (iabs (w32 (r6 - r11)))), w32 (s9.2 + 1))) else (rec1 (w32 (s2.1 + r6), s9.1, w32 (s2.2.2 + 1)))) BIG (s2.2.1, w32 (s2.2.2 + 1))) else ((fX10_leastTerms M s2.2.1 (w32 ((M.1 (M.1 a0 0) 0) * s2.1)) a1).bind fun r13 => some r13) else none else none) BIG (0, 0, 0)
set_option maxRecDepth 100000 in
set_option maxHeartbeats 4000000 in
theorem kX8_unlike (d : Nat) (hd : 3 ≤ d) (M : Mem) (a0 a1 : Int) : Ct mX8_unlike d 0 0 [pA a0, pI a1] M (dI M) (fX8_unlike M a0 a1) := by
  obtain ⟨d, rfl⟩ : ∃ k, d = k + 1 := ⟨d - 1, by omega⟩
  refine Ct.of 5 (fun _ _ _ => trivial) (by decide +kernel) rfl ?_
  unfold fX8_unlike
  refine v_iconst dX8_unlike_0 (by decide) ?_
  refine v_istore_n (ls' := [some (pA a0), some (pI a1), some (pI 0), none, none, none, none]) dX8_unlike_1 (by decide) rfl ?_
  refine v_iconst dX8_unlike_2 (by decide) ?_
  refine v_istore_n (ls' := [some (pA a0), some (pI a1), some (pI 0), some (pI 0), none, none, none]) dX8_unlike_3 (by decide) rfl ?_
  refine v_iconst dX8_unlike_4 (by decide) ?_
  refine v_istore (ls' := [some (pA a0), some (pI a1), some (pI 0), some (pI 0), some (pI 0), none, none]) dX8_unlike_5 (by decide) rfl ?_
  refine v_loop (fun (s2 : Int × Int × Int) => [some (pA a0), some (pI a1), some (pI s2.1), some (pI s2.2.1), some (pI s2.2.2), none, none]) (fun (s2 : Int × Int × Int) => M) (s0 := (0, 0, 0)) ?_
  intro rec1 hrec1 s2
  refine v_iload dX8_unlike_7 rfl ?_
  refine v_aload_n dX8_unlike_9 rfl ?_
  refine v_if (fun h3 => ?_)
  refine v_get (v := pA (M.1 a0 0)) 8 0 rfl inX9 (by decide) tw316 dX8_unlike_10 h3 rfl ?_
  refine v_if (fun h4 => ?_)
  refine v_get (v := pI (M.1 (M.1 a0 0) 0)) 7 0 rfl inX7 (by decide) tw57 dX8_unlike_13 h4 rfl ?_
  refine v_icmp_ge (tgt := 77) dX8_unlike_16 (by decide) (fun c5 => ?_) (fun c5 => ?_)
  · refine v_aload_n dX8_unlike_19 rfl ?_
    refine v_iload dX8_unlike_20 rfl ?_
    refine v_cS (mi := mX8_unlike) (c0 := 0) (c1 := 0) (As := [pA a0, pI s2.2.2]) (st := []) (kX8_wealthOf d (by omega) _ _ _) okX8_wealthOf (Or.inl tw1093) tw1094 rfl (Nat.le_of_ble_eq_true rfl) dX8_unlike_22 (fun r6 => [pI r6]) (fun r6 => M) (fun _ => rfl) (fun _ => rfl) (fun r6 h7 => ?_) rfl
    refine v_istore (ls' := [some (pA a0), some (pI a1), some (pI s2.1), some (pI s2.2.1), some (pI s2.2.2), some (pI r6), none]) dX8_unlike_25 (by decide) rfl ?_
    refine v_iload_n dX8_unlike_27 rfl ?_
    refine v_iload dX8_unlike_28 rfl ?_
    refine v_iadd dX8_unlike_30 ?_
    refine v_istore_n (ls' := [some (pA a0), some (pI a1), some (pI (w32 (s2.1 + r6))), some (pI s2.2.1), some (pI s2.2.2), some (pI r6), none]) dX8_unlike_31 (by decide) rfl ?_
    refine v_iload dX8_unlike_32 rfl ?_
    refine v_iconst dX8_unlike_34 (by decide) ?_
    refine v_iadd dX8_unlike_35 ?_
    refine v_istore (ls' := [some (pA a0), some (pI a1), some (pI (w32 (s2.1 + r6))), some (pI s2.2.1), some (pI s2.2.2), some (pI r6), some (pI (w32 (s2.2.2 + 1)))]) dX8_unlike_36 (by decide) rfl ?_
    refine v_loop (fun (s9 : Int × Int) => [some (pA a0), some (pI a1), some (pI (w32 (s2.1 + r6))), some (pI s9.1), some (pI s2.2.2), some (pI r6), some (pI s9.2)]) (fun (s9 : Int × Int) => M) (s0 := (s2.2.1, w32 (s2.2.2 + 1))) ?_
    intro rec8 hrec8 s9
    refine v_iload dX8_unlike_38 rfl ?_
    refine v_aload_n dX8_unlike_40 rfl ?_
    refine v_get (v := pA (M.1 a0 0)) 8 0 rfl inX9 (by decide) tw316 dX8_unlike_41 h3 rfl ?_
    refine v_get (v := pI (M.1 (M.1 a0 0) 0)) 7 0 rfl inX7 (by decide) tw57 dX8_unlike_44 h4 rfl ?_
    refine v_icmp_ge (tgt := 71) dX8_unlike_47 (by decide) (fun c10 => ?_) (fun c10 => ?_)
    · refine v_iload_n dX8_unlike_50 rfl ?_
      refine v_iload dX8_unlike_51 rfl ?_
      refine v_aload_n dX8_unlike_53 rfl ?_
      refine v_iload dX8_unlike_54 rfl ?_
      refine v_cS (mi := mX8_unlike) (c0 := 0) (c1 := 0) (As := [pA a0, pI s9.2]) (st := [pI r6, pI s9.1]) (kX8_wealthOf d (by omega) _ _ _) okX8_wealthOf (Or.inl tw1093) tw1094 rfl (Nat.le_of_ble_eq_true rfl) dX8_unlike_56 (fun r11 => [pI r11, pI r6, pI s9.1]) (fun r11 => M) (fun _ => rfl) (fun _ => rfl) (fun r11 h12 => ?_) rfl
      refine v_isub dX8_unlike_59 ?_
      refine v_mabs (mi := mX8_unlike) tw1101 tw907 tw12 tw908 (Nat.le_of_ble_eq_true rfl) dX8_unlike_60 ?_
      refine v_iadd dX8_unlike_63 ?_
      refine v_istore_n (ls' := [some (pA a0), some (pI a1), some (pI (w32 (s2.1 + r6))), some (pI (w32 (s9.1 + (iabs (w32 (r6 - r11)))))), some (pI s2.2.2), some (pI r6), some (pI s9.2)]) dX8_unlike_64 (by decide) rfl ?_
      refine v_iinc (ls' := [some (pA a0), some (pI a1), some (pI (w32 (s2.1 + r6))), some (pI (w32 (s9.1 + (iabs (w32 (r6 - r11)))))), some (pI s2.2.2), some (pI r6), some (pI (w32 (s9.2 + 1)))]) dX8_unlike_65 (by decide) rfl rfl ?_
      refine v_goto (tgt := 38) dX8_unlike_68 (by decide) ?_
      exact hrec8 (w32 (s9.1 + (iabs (w32 (r6 - r11)))), w32 (s9.2 + 1))
    · refine v_iinc (ls' := [some (pA a0), some (pI a1), some (pI (w32 (s2.1 + r6))), some (pI s9.1), some (pI (w32 (s2.2.2 + 1))), some (pI r6), some (pI s9.2)]) dX8_unlike_71 (by decide) rfl rfl ?_
      refine v_goto (tgt := 7) dX8_unlike_74 (by decide) ?_
      exact v_drop [some (pA a0), some (pI a1), some (pI (w32 (s2.1 + r6))), some (pI s9.1), some (pI (w32 (s2.2.2 + 1))), none, none] (ls_s (ls_s (ls_s (ls_s (ls_s (ls_n (ls_n ls_e))))))) (hrec1 (w32 (s2.1 + r6), s9.1, w32 (s2.2.2 + 1)))
  · refine v_iload_n dX8_unlike_77 rfl ?_
    refine v_aload_n dX8_unlike_78 rfl ?_
    refine v_get (v := pA (M.1 a0 0)) 8 0 rfl inX9 (by decide) tw316 dX8_unlike_79 h3 rfl ?_
    refine v_get (v := pI (M.1 (M.1 a0 0) 0)) 7 0 rfl inX7 (by decide) tw57 dX8_unlike_82 h4 rfl ?_
    refine v_iload_n dX8_unlike_85 rfl ?_
    refine v_imul dX8_unlike_86 ?_
    refine v_iload_n dX8_unlike_87 rfl ?_
    refine v_cS (mi := mX8_unlike) (c0 := 0) (c1 := 0) (As := [pI s2.2.1, pI (w32 ((M.1 (M.1 a0 0) 0) * s2.1)), pI a1]) (st := []) (kX10_leastTerms d (by omega) _ _ _ _) okX10_leastTerms (Or.inr nw23) tw1038 rfl (Nat.le_of_ble_eq_true rfl) dX8_unlike_88 (fun r13 => [pI r13]) (fun r13 => M) (fun _ => rfl) (fun _ => rfl) (fun r13 h14 => ?_) rfl
    exact v_ireturn dX8_unlike_91 rfl rfl
theorem chX8_robbed_0 : (cX8_robbed.data.toList.drop 0).take 16 = [3, 60, 3, 61, 28, 42, 180, 0, 28, 180, 0, 59, 162, 0, 65, 3] := by decide +kernel
theorem chX8_robbed_1 : (cX8_robbed.data.toList.drop 16).take 16 = [62, 3, 54, 4, 21, 4, 42, 180, 0, 28, 180, 0, 66, 162, 0, 27] := by decide +kernel
theorem chX8_robbed_2 : (cX8_robbed.data.toList.drop 32).take 16 = [29, 42, 21, 4, 28, 184, 0, 69, 158, 0, 7, 4, 167, 0, 4, 3] := by decide +kernel
theorem chX8_robbed_3 : (cX8_robbed.data.toList.drop 48).take 16 = [96, 62, 132, 4, 1, 167, 255, 223, 27, 29, 5, 161, 0, 9, 4, 28] := by decide +kernel
theorem chX8_robbed_4 : (cX8_robbed.data.toList.drop 64).take 16 = [120, 167, 0, 4, 3, 128, 60, 132, 2, 1, 167, 255, 186, 27, 172] := by decide +kernel
theorem dX8_robbed_0 : decode cX8_robbed 0 = .ok (.iconst 0, 1) := oq_3 (byt chX8_robbed_0 0 rfl)
theorem dX8_robbed_1 : decode cX8_robbed 1 = .ok (.istore_n 1, 1) := oq_60 (byt chX8_robbed_0 1 rfl)
theorem dX8_robbed_2 : decode cX8_robbed 2 = .ok (.iconst 0, 1) := oq_3 (byt chX8_robbed_0 2 rfl)
theorem dX8_robbed_3 : decode cX8_robbed 3 = .ok (.istore_n 2, 1) := oq_61 (byt chX8_robbed_0 3 rfl)
theorem dX8_robbed_4 : decode cX8_robbed 4 = .ok (.iload_n 2, 1) := oq_28 (byt chX8_robbed_0 4 rfl)
theorem dX8_robbed_5 : decode cX8_robbed 5 = .ok (.aload_n 0, 1) := oq_42 (byt chX8_robbed_0 5 rfl)
theorem dX8_robbed_6 : decode cX8_robbed 6 = .ok (.getfield 28, 3) := oq_180 (byt chX8_robbed_0 6 rfl) (byt chX8_robbed_0 7 rfl) (byt chX8_robbed_0 8 rfl) rfl
theorem dX8_robbed_9 : decode cX8_robbed 9 = .ok (.getfield 59, 3) := oq_180 (byt chX8_robbed_0 9 rfl) (byt chX8_robbed_0 10 rfl) (byt chX8_robbed_0 11 rfl) rfl
theorem dX8_robbed_12 : decode cX8_robbed 12 = .ok (.if_icmp .ge 65, 3) := oq_162 (byt chX8_robbed_0 12 rfl) (byt chX8_robbed_0 13 rfl) (byt chX8_robbed_0 14 rfl) (by decide +kernel)
theorem dX8_robbed_15 : decode cX8_robbed 15 = .ok (.iconst 0, 1) := oq_3 (byt chX8_robbed_0 15 rfl)
theorem dX8_robbed_16 : decode cX8_robbed 16 = .ok (.istore_n 3, 1) := oq_62 (byt chX8_robbed_1 0 rfl)
theorem dX8_robbed_17 : decode cX8_robbed 17 = .ok (.iconst 0, 1) := oq_3 (byt chX8_robbed_1 1 rfl)
theorem dX8_robbed_18 : decode cX8_robbed 18 = .ok (.istore 4, 2) := oq_54 (byt chX8_robbed_1 2 rfl) (byt chX8_robbed_1 3 rfl) rfl
theorem dX8_robbed_20 : decode cX8_robbed 20 = .ok (.iload 4, 2) := oq_21 (byt chX8_robbed_1 4 rfl) (byt chX8_robbed_1 5 rfl) rfl
theorem dX8_robbed_22 : decode cX8_robbed 22 = .ok (.aload_n 0, 1) := oq_42 (byt chX8_robbed_1 6 rfl)
theorem dX8_robbed_23 : decode cX8_robbed 23 = .ok (.getfield 28, 3) := oq_180 (byt chX8_robbed_1 7 rfl) (byt chX8_robbed_1 8 rfl) (byt chX8_robbed_1 9 rfl) rfl
theorem dX8_robbed_26 : decode cX8_robbed 26 = .ok (.getfield 66, 3) := oq_180 (byt chX8_robbed_1 10 rfl) (byt chX8_robbed_1 11 rfl) (byt chX8_robbed_1 12 rfl) rfl
theorem dX8_robbed_29 : decode cX8_robbed 29 = .ok (.if_icmp .ge 27, 3) := oq_162 (byt chX8_robbed_1 13 rfl) (byt chX8_robbed_1 14 rfl) (byt chX8_robbed_1 15 rfl) (by decide +kernel)
theorem dX8_robbed_32 : decode cX8_robbed 32 = .ok (.iload_n 3, 1) := oq_29 (byt chX8_robbed_2 0 rfl)
theorem dX8_robbed_33 : decode cX8_robbed 33 = .ok (.aload_n 0, 1) := oq_42 (byt chX8_robbed_2 1 rfl)
theorem dX8_robbed_34 : decode cX8_robbed 34 = .ok (.iload 4, 2) := oq_21 (byt chX8_robbed_2 2 rfl) (byt chX8_robbed_2 3 rfl) rfl
theorem dX8_robbed_36 : decode cX8_robbed 36 = .ok (.iload_n 2, 1) := oq_28 (byt chX8_robbed_2 4 rfl)
theorem dX8_robbed_37 : decode cX8_robbed 37 = .ok (.invokestatic 69, 3) := oq_184 (byt chX8_robbed_2 5 rfl) (byt chX8_robbed_2 6 rfl) (byt chX8_robbed_2 7 rfl) rfl
theorem dX8_robbed_40 : decode cX8_robbed 40 = .ok (.ifCond .le 7, 3) := oq_158 (byt chX8_robbed_2 8 rfl) (byt chX8_robbed_2 9 rfl) (byt chX8_robbed_2 10 rfl) (by decide +kernel)
theorem dX8_robbed_43 : decode cX8_robbed 43 = .ok (.iconst 1, 1) := oq_4 (byt chX8_robbed_2 11 rfl)
theorem dX8_robbed_44 : decode cX8_robbed 44 = .ok (.goto 4, 3) := oq_167 (byt chX8_robbed_2 12 rfl) (byt chX8_robbed_2 13 rfl) (byt chX8_robbed_2 14 rfl) (by decide +kernel)
theorem dX8_robbed_47 : decode cX8_robbed 47 = .ok (.iconst 0, 1) := oq_3 (byt chX8_robbed_2 15 rfl)
theorem dX8_robbed_48 : decode cX8_robbed 48 = .ok (.iadd, 1) := oq_96 (byt chX8_robbed_3 0 rfl)
theorem dX8_robbed_49 : decode cX8_robbed 49 = .ok (.istore_n 3, 1) := oq_62 (byt chX8_robbed_3 1 rfl)
theorem dX8_robbed_50 : decode cX8_robbed 50 = .ok (.iinc 4 1, 3) := oq_132 (byt chX8_robbed_3 2 rfl) (byt chX8_robbed_3 3 rfl) (byt chX8_robbed_3 4 rfl) rfl
theorem dX8_robbed_53 : decode cX8_robbed 53 = .ok (.goto (-33), 3) := oq_167 (byt chX8_robbed_3 5 rfl) (byt chX8_robbed_3 6 rfl) (byt chX8_robbed_3 7 rfl) (by decide +kernel)
theorem dX8_robbed_56 : decode cX8_robbed 56 = .ok (.iload_n 1, 1) := oq_27 (byt chX8_robbed_3 8 rfl)
theorem dX8_robbed_57 : decode cX8_robbed 57 = .ok (.iload_n 3, 1) := oq_29 (byt chX8_robbed_3 9 rfl)
theorem dX8_robbed_58 : decode cX8_robbed 58 = .ok (.iconst 2, 1) := oq_5 (byt chX8_robbed_3 10 rfl)
theorem dX8_robbed_59 : decode cX8_robbed 59 = .ok (.if_icmp .lt 9, 3) := oq_161 (byt chX8_robbed_3 11 rfl) (byt chX8_robbed_3 12 rfl) (byt chX8_robbed_3 13 rfl) (by decide +kernel)
theorem dX8_robbed_62 : decode cX8_robbed 62 = .ok (.iconst 1, 1) := oq_4 (byt chX8_robbed_3 14 rfl)
theorem dX8_robbed_63 : decode cX8_robbed 63 = .ok (.iload_n 2, 1) := oq_28 (byt chX8_robbed_3 15 rfl)
theorem dX8_robbed_64 : decode cX8_robbed 64 = .ok (.ishl, 1) := oq_120 (byt chX8_robbed_4 0 rfl)
theorem dX8_robbed_65 : decode cX8_robbed 65 = .ok (.goto 4, 3) := oq_167 (byt chX8_robbed_4 1 rfl) (byt chX8_robbed_4 2 rfl) (byt chX8_robbed_4 3 rfl) (by decide +kernel)
theorem dX8_robbed_68 : decode cX8_robbed 68 = .ok (.iconst 0, 1) := oq_3 (byt chX8_robbed_4 4 rfl)
theorem dX8_robbed_69 : decode cX8_robbed 69 = .ok (.ior, 1) := oq_128 (byt chX8_robbed_4 5 rfl)
theorem dX8_robbed_70 : decode cX8_robbed 70 = .ok (.istore_n 1, 1) := oq_60 (byt chX8_robbed_4 6 rfl)
theorem dX8_robbed_71 : decode cX8_robbed 71 = .ok (.iinc 2 1, 3) := oq_132 (byt chX8_robbed_4 7 rfl) (byt chX8_robbed_4 8 rfl) (byt chX8_robbed_4 9 rfl) rfl
theorem dX8_robbed_74 : decode cX8_robbed 74 = .ok (.goto (-70), 3) := oq_167 (byt chX8_robbed_4 10 rfl) (byt chX8_robbed_4 11 rfl) (byt chX8_robbed_4 12 rfl) (by decide +kernel)
theorem dX8_robbed_77 : decode cX8_robbed 77 = .ok (.iload_n 1, 1) := oq_27 (byt chX8_robbed_4 13 rfl)
theorem dX8_robbed_78 : decode cX8_robbed 78 = .ok (.ireturn, 1) := oq_172 (byt chX8_robbed_4 14 rfl)
abbrev mX8_robbed : MI := (yX8_robbed, cX8_robbed, 5, (some .int), noE)
theorem okX8_robbed : cok mX8_robbed 1 := ⟨tw1105, tw18, by decide, by decide, by decide, by decide +kernel⟩
def fX8_robbed (M : Mem) (a0 : Int) : Option Int :=
  iterC (fun (rec1 : (Int × Int) → Option Int) (s2 : Int × Int) => if M.2.1 a0 = 8 then if M.2.1 (M.1 a0 0) = 7 then if s2.2 < M.1 (M.1 a0 0) 0 then (iterC (fun (rec6 : (Int × Int) → Option Int) (s7 : Int × Int) => if s7.2 < M.1 (M.1 a0 0) 1 then ((fX8_tookFrom M a0 s7.2 s2.2).bind fun r9 => if 0 < r9 then (rec6 (w32 (s7.1 + 1), w32 (s7.2 + 1))) else (rec6 (w32 (s7.1 + 0), w32 (s7.2 + 1)))) else (if s7.1 < 2 then (rec1 (bOr s2.1 0, w32 (s2.2 + 1))) else (rec1 (bOr s2.1 (bShl 1 s2.2), w32 (s2.2 + 1))))) BIG (0, 0)) else (some s2.1) else none else none) BIG (0, 0)
set_option maxRecDepth 100000 in
set_option maxHeartbeats 4000000 in
theorem kX8_robbed (d : Nat) (hd : 2 ≤ d) (M : Mem) (a0 : Int) : Ct mX8_robbed d 0 0 [pA a0] M (dI M) (fX8_robbed M a0) := by
  obtain ⟨d, rfl⟩ : ∃ k, d = k + 1 := ⟨d - 1, by omega⟩
  refine Ct.of 4 (fun _ _ _ => trivial) (by decide +kernel) rfl ?_
  unfold fX8_robbed
  refine v_iconst dX8_robbed_0 (by decide) ?_
  refine v_istore_n (ls' := [some (pA a0), some (pI 0), none, none, none]) dX8_robbed_1 (by decide) rfl ?_
  refine v_iconst dX8_robbed_2 (by decide) ?_
  refine v_istore_n (ls' := [some (pA a0), some (pI 0), some (pI 0), none, none]) dX8_robbed_3 (by decide) rfl ?_
  refine v_loop (fun (s2 : Int × Int) => [some (pA a0), some (pI s2.1), some (pI s2.2), none, none]) (fun (s2 : Int × Int) => M) (s0 := (0, 0)) ?_
  intro rec1 hrec1 s2
  refine v_iload_n dX8_robbed_4 rfl ?_
  refine v_aload_n dX8_robbed_5 rfl ?_
  refine v_if (fun h3 => ?_)
  refine v_get (v := pA (M.1 a0 0)) 8 0 rfl inX9 (by decide) tw316 dX8_robbed_6 h3 rfl ?_
  refine v_if (fun h4 => ?_)
  refine v_get (v := pI (M.1 (M.1 a0 0) 0)) 7 0 rfl inX7 (by decide) tw57 dX8_robbed_9 h4 rfl ?_
  refine v_icmp_ge (tgt := 77) dX8_robbed_12 (by decide) (fun c5 => ?_) (fun c5 => ?_)
  · refine v_iconst dX8_robbed_15 (by decide) ?_
    refine v_istore_n (ls' := [some (pA a0), some (pI s2.1), some (pI s2.2), some (pI 0), none]) dX8_robbed_16 (by decide) rfl ?_
    refine v_iconst dX8_robbed_17 (by decide) ?_
    refine v_istore (ls' := [some (pA a0), some (pI s2.1), some (pI s2.2), some (pI 0), some (pI 0)]) dX8_robbed_18 (by decide) rfl ?_
    refine v_loop (fun (s7 : Int × Int) => [some (pA a0), some (pI s2.1), some (pI s2.2), some (pI s7.1), some (pI s7.2)]) (fun (s7 : Int × Int) => M) (s0 := (0, 0)) ?_
    intro rec6 hrec6 s7
    refine v_iload dX8_robbed_20 rfl ?_
    refine v_aload_n dX8_robbed_22 rfl ?_
    refine v_get (v := pA (M.1 a0 0)) 8 0 rfl inX9 (by decide) tw316 dX8_robbed_23 h3 rfl ?_
    refine v_get (v := pI (M.1 (M.1 a0 0) 1)) 7 1 rfl inX7 (by decide) tw63 dX8_robbed_26 h4 rfl ?_
    refine v_icmp_ge (tgt := 56) dX8_robbed_29 (by decide) (fun c8 => ?_) (fun c8 => ?_)
    · refine v_iload_n dX8_robbed_32 rfl ?_
      refine v_aload_n dX8_robbed_33 rfl ?_
      refine v_iload dX8_robbed_34 rfl ?_
      refine v_iload_n dX8_robbed_36 rfl ?_
      refine v_cS (mi := mX8_robbed) (c0 := 0) (c1 := 0) (As := [pA a0, pI s7.2, pI s2.2]) (st := [pI s7.1]) (kX8_tookFrom d (by omega) _ _ _ _) okX8_tookFrom (Or.inl tw840) tw841 rfl (Nat.le_of_ble_eq_true rfl) dX8_robbed_37 (fun r9 => [pI r9, pI s7.1]) (fun r9 => M) (fun _ => rfl) (fun _ => rfl) (fun r9 h10 => ?_) rfl
      refine v_if_le (tgt := 47) dX8_robbed_40 (by decide) (fun c11 => ?_) (fun c11 => ?_)
      · refine v_iconst dX8_robbed_43 (by decide) ?_
        refine v_goto (tgt := 48) dX8_robbed_44 (by decide) ?_
        refine v_iadd dX8_robbed_48 ?_
        refine v_istore_n (ls' := [some (pA a0), some (pI s2.1), some (pI s2.2), some (pI (w32 (s7.1 + 1))), some (pI s7.2)]) dX8_robbed_49 (by decide) rfl ?_
        refine v_iinc (ls' := [some (pA a0), some (pI s2.1), some (pI s2.2), some (pI (w32 (s7.1 + 1))), some (pI (w32 (s7.2 + 1)))]) dX8_robbed_50 (by decide) rfl rfl ?_
        refine v_goto (tgt := 20) dX8_robbed_53 (by decide) ?_
        exact hrec6 (w32 (s7.1 + 1), w32 (s7.2 + 1))
      · refine v_iconst dX8_robbed_47 (by decide) ?_
        refine v_iadd dX8_robbed_48 ?_
        refine v_istore_n (ls' := [some (pA a0), some (pI s2.1), some (pI s2.2), some (pI (w32 (s7.1 + 0))), some (pI s7.2)]) dX8_robbed_49 (by decide) rfl ?_
        refine v_iinc (ls' := [some (pA a0), some (pI s2.1), some (pI s2.2), some (pI (w32 (s7.1 + 0))), some (pI (w32 (s7.2 + 1)))]) dX8_robbed_50 (by decide) rfl rfl ?_
        refine v_goto (tgt := 20) dX8_robbed_53 (by decide) ?_
        exact hrec6 (w32 (s7.1 + 0), w32 (s7.2 + 1))
    · refine v_iload_n dX8_robbed_56 rfl ?_
      refine v_iload_n dX8_robbed_57 rfl ?_
      refine v_iconst dX8_robbed_58 (by decide) ?_
      refine v_icmp_lt (tgt := 68) dX8_robbed_59 (by decide) (fun c12 => ?_) (fun c12 => ?_)
      · refine v_iconst dX8_robbed_68 (by decide) ?_
        refine v_ior dX8_robbed_69 ?_
        refine v_istore_n (ls' := [some (pA a0), some (pI (bOr s2.1 0)), some (pI s2.2), some (pI s7.1), some (pI s7.2)]) dX8_robbed_70 (by decide) rfl ?_
        refine v_iinc (ls' := [some (pA a0), some (pI (bOr s2.1 0)), some (pI (w32 (s2.2 + 1))), some (pI s7.1), some (pI s7.2)]) dX8_robbed_71 (by decide) rfl rfl ?_
        refine v_goto (tgt := 4) dX8_robbed_74 (by decide) ?_
        exact v_drop [some (pA a0), some (pI (bOr s2.1 0)), some (pI (w32 (s2.2 + 1))), none, none] (ls_s (ls_s (ls_s (ls_n (ls_n ls_e))))) (hrec1 (bOr s2.1 0, w32 (s2.2 + 1)))
      · refine v_iconst dX8_robbed_62 (by decide) ?_
        refine v_iload_n dX8_robbed_63 rfl ?_
        refine v_ishl dX8_robbed_64 ?_
        refine v_goto (tgt := 69) dX8_robbed_65 (by decide) ?_
        refine v_ior dX8_robbed_69 ?_
        refine v_istore_n (ls' := [some (pA a0), some (pI (bOr s2.1 (bShl 1 s2.2))), some (pI s2.2), some (pI s7.1), some (pI s7.2)]) dX8_robbed_70 (by decide) rfl ?_
        refine v_iinc (ls' := [some (pA a0), some (pI (bOr s2.1 (bShl 1 s2.2))), some (pI (w32 (s2.2 + 1))), some (pI s7.1), some (pI s7.2)]) dX8_robbed_71 (by decide) rfl rfl ?_
        refine v_goto (tgt := 4) dX8_robbed_74 (by decide) ?_
        exact v_drop [some (pA a0), some (pI (bOr s2.1 (bShl 1 s2.2))), some (pI (w32 (s2.2 + 1))), none, none] (ls_s (ls_s (ls_s (ls_n (ls_n ls_e))))) (hrec1 (bOr s2.1 (bShl 1 s2.2), w32 (s2.2 + 1)))
  · refine v_iload_n dX8_robbed_77 rfl ?_
    exact v_ireturn dX8_robbed_78 rfl rfl
theorem chX8_can_0 : (cX8_can.data.toList.drop 0).take 16 = [42, 27, 182, 0, 131, 154, 0, 5, 3, 172, 3, 61, 3, 62, 29, 8] := by decide +kernel
theorem chX8_can_1 : (cX8_can.data.toList.drop 16).take 16 = [162, 0, 74, 3, 54, 4, 3, 54, 5, 21, 5, 42, 180, 0, 28, 180] := by decide +kernel
theorem chX8_can_2 : (cX8_can.data.toList.drop 32).take 16 = [0, 59, 162, 0, 32, 42, 27, 21, 5, 29, 182, 0, 142, 153, 0, 15] := by decide +kernel
theorem chX8_can_3 : (cX8_can.data.toList.drop 48).take 16 = [21, 4, 42, 21, 5, 29, 182, 0, 62, 96, 54, 4, 132, 5, 1, 167] := by decide +kernel
theorem chX8_can_4 : (cX8_can.data.toList.drop 64).take 16 = [255, 218, 28, 21, 4, 42, 180, 0, 146, 8, 27, 104, 29, 96, 46, 184] := by decide +kernel
theorem chX8_can_5 : (cX8_can.data.toList.drop 80).take 16 = [0, 126, 96, 61, 132, 3, 1, 167, 255, 183, 28, 172] := by decide +kernel
theorem dX8_can_0 : decode cX8_can 0 = .ok (.aload_n 0, 1) := oq_42 (byt chX8_can_0 0 rfl)
theorem dX8_can_1 : decode cX8_can 1 = .ok (.iload_n 1, 1) := oq_27 (byt chX8_can_0 1 rfl)
theorem dX8_can_2 : decode cX8_can 2 = .ok (.invokevirtual 131, 3) := oq_182 (byt chX8_can_0 2 rfl) (byt chX8_can_0 3 rfl) (byt chX8_can_0 4 rfl) rfl
theorem dX8_can_5 : decode cX8_can 5 = .ok (.ifCond .ne 5, 3) := oq_154 (byt chX8_can_0 5 rfl) (byt chX8_can_0 6 rfl) (byt chX8_can_0 7 rfl) (by decide +kernel)
theorem dX8_can_8 : decode cX8_can 8 = .ok (.iconst 0, 1) := oq_3 (byt chX8_can_0 8 rfl)
theorem dX8_can_9 : decode cX8_can 9 = .ok (.ireturn, 1) := oq_172 (byt chX8_can_0 9 rfl)
theorem dX8_can_10 : decode cX8_can 10 = .ok (.iconst 0, 1) := oq_3 (byt chX8_can_0 10 rfl)
theorem dX8_can_11 : decode cX8_can 11 = .ok (.istore_n 2, 1) := oq_61 (byt chX8_can_0 11 rfl)
theorem dX8_can_12 : decode cX8_can 12 = .ok (.iconst 0, 1) := oq_3 (byt chX8_can_0 12 rfl)
theorem dX8_can_13 : decode cX8_can 13 = .ok (.istore_n 3, 1) := oq_62 (byt chX8_can_0 13 rfl)
theorem dX8_can_14 : decode cX8_can 14 = .ok (.iload_n 3, 1) := oq_29 (byt chX8_can_0 14 rfl)
theorem dX8_can_15 : decode cX8_can 15 = .ok (.iconst 5, 1) := oq_8 (byt chX8_can_0 15 rfl)
theorem dX8_can_16 : decode cX8_can 16 = .ok (.if_icmp .ge 74, 3) := oq_162 (byt chX8_can_1 0 rfl) (byt chX8_can_1 1 rfl) (byt chX8_can_1 2 rfl) (by decide +kernel)
theorem dX8_can_19 : decode cX8_can 19 = .ok (.iconst 0, 1) := oq_3 (byt chX8_can_1 3 rfl)
theorem dX8_can_20 : decode cX8_can 20 = .ok (.istore 4, 2) := oq_54 (byt chX8_can_1 4 rfl) (byt chX8_can_1 5 rfl) rfl
theorem dX8_can_22 : decode cX8_can 22 = .ok (.iconst 0, 1) := oq_3 (byt chX8_can_1 6 rfl)
theorem dX8_can_23 : decode cX8_can 23 = .ok (.istore 5, 2) := oq_54 (byt chX8_can_1 7 rfl) (byt chX8_can_1 8 rfl) rfl
theorem dX8_can_25 : decode cX8_can 25 = .ok (.iload 5, 2) := oq_21 (byt chX8_can_1 9 rfl) (byt chX8_can_1 10 rfl) rfl
theorem dX8_can_27 : decode cX8_can 27 = .ok (.aload_n 0, 1) := oq_42 (byt chX8_can_1 11 rfl)
theorem dX8_can_28 : decode cX8_can 28 = .ok (.getfield 28, 3) := oq_180 (byt chX8_can_1 12 rfl) (byt chX8_can_1 13 rfl) (byt chX8_can_1 14 rfl) rfl
theorem dX8_can_31 : decode cX8_can 31 = .ok (.getfield 59, 3) := oq_180 (byt chX8_can_1 15 rfl) (byt chX8_can_2 0 rfl) (byt chX8_can_2 1 rfl) rfl
theorem dX8_can_34 : decode cX8_can 34 = .ok (.if_icmp .ge 32, 3) := oq_162 (byt chX8_can_2 2 rfl) (byt chX8_can_2 3 rfl) (byt chX8_can_2 4 rfl) (by decide +kernel)
theorem dX8_can_37 : decode cX8_can 37 = .ok (.aload_n 0, 1) := oq_42 (byt chX8_can_2 5 rfl)
theorem dX8_can_38 : decode cX8_can 38 = .ok (.iload_n 1, 1) := oq_27 (byt chX8_can_2 6 rfl)
theorem dX8_can_39 : decode cX8_can 39 = .ok (.iload 5, 2) := oq_21 (byt chX8_can_2 7 rfl) (byt chX8_can_2 8 rfl) rfl
theorem dX8_can_41 : decode cX8_can 41 = .ok (.iload_n 3, 1) := oq_29 (byt chX8_can_2 9 rfl)
theorem dX8_can_42 : decode cX8_can 42 = .ok (.invokevirtual 142, 3) := oq_182 (byt chX8_can_2 10 rfl) (byt chX8_can_2 11 rfl) (byt chX8_can_2 12 rfl) rfl
theorem dX8_can_45 : decode cX8_can 45 = .ok (.ifCond .eq 15, 3) := oq_153 (byt chX8_can_2 13 rfl) (byt chX8_can_2 14 rfl) (byt chX8_can_2 15 rfl) (by decide +kernel)
theorem dX8_can_48 : decode cX8_can 48 = .ok (.iload 4, 2) := oq_21 (byt chX8_can_3 0 rfl) (byt chX8_can_3 1 rfl) rfl
theorem dX8_can_50 : decode cX8_can 50 = .ok (.aload_n 0, 1) := oq_42 (byt chX8_can_3 2 rfl)
theorem dX8_can_51 : decode cX8_can 51 = .ok (.iload 5, 2) := oq_21 (byt chX8_can_3 3 rfl) (byt chX8_can_3 4 rfl) rfl
theorem dX8_can_53 : decode cX8_can 53 = .ok (.iload_n 3, 1) := oq_29 (byt chX8_can_3 5 rfl)
theorem dX8_can_54 : decode cX8_can 54 = .ok (.invokevirtual 62, 3) := oq_182 (byt chX8_can_3 6 rfl) (byt chX8_can_3 7 rfl) (byt chX8_can_3 8 rfl) rfl
theorem dX8_can_57 : decode cX8_can 57 = .ok (.iadd, 1) := oq_96 (byt chX8_can_3 9 rfl)
theorem dX8_can_58 : decode cX8_can 58 = .ok (.istore 4, 2) := oq_54 (byt chX8_can_3 10 rfl) (byt chX8_can_3 11 rfl) rfl
theorem dX8_can_60 : decode cX8_can 60 = .ok (.iinc 5 1, 3) := oq_132 (byt chX8_can_3 12 rfl) (byt chX8_can_3 13 rfl) (byt chX8_can_3 14 rfl) rfl
theorem dX8_can_63 : decode cX8_can 63 = .ok (.goto (-38), 3) := oq_167 (byt chX8_can_3 15 rfl) (byt chX8_can_4 0 rfl) (byt chX8_can_4 1 rfl) (by decide +kernel)
theorem dX8_can_66 : decode cX8_can 66 = .ok (.iload_n 2, 1) := oq_28 (byt chX8_can_4 2 rfl)
theorem dX8_can_67 : decode cX8_can 67 = .ok (.iload 4, 2) := oq_21 (byt chX8_can_4 3 rfl) (byt chX8_can_4 4 rfl) rfl
theorem dX8_can_69 : decode cX8_can 69 = .ok (.aload_n 0, 1) := oq_42 (byt chX8_can_4 5 rfl)
theorem dX8_can_70 : decode cX8_can 70 = .ok (.getfield 146, 3) := oq_180 (byt chX8_can_4 6 rfl) (byt chX8_can_4 7 rfl) (byt chX8_can_4 8 rfl) rfl
theorem dX8_can_73 : decode cX8_can 73 = .ok (.iconst 5, 1) := oq_8 (byt chX8_can_4 9 rfl)
theorem dX8_can_74 : decode cX8_can 74 = .ok (.iload_n 1, 1) := oq_27 (byt chX8_can_4 10 rfl)
theorem dX8_can_75 : decode cX8_can 75 = .ok (.imul, 1) := oq_104 (byt chX8_can_4 11 rfl)
theorem dX8_can_76 : decode cX8_can 76 = .ok (.iload_n 3, 1) := oq_29 (byt chX8_can_4 12 rfl)
theorem dX8_can_77 : decode cX8_can 77 = .ok (.iadd, 1) := oq_96 (byt chX8_can_4 13 rfl)
theorem dX8_can_78 : decode cX8_can 78 = .ok (.iaload, 1) := oq_46 (byt chX8_can_4 14 rfl)
theorem dX8_can_79 : decode cX8_can 79 = .ok (.invokestatic 126, 3) := oq_184 (byt chX8_can_4 15 rfl) (byt chX8_can_5 0 rfl) (byt chX8_can_5 1 rfl) rfl
theorem dX8_can_82 : decode cX8_can 82 = .ok (.iadd, 1) := oq_96 (byt chX8_can_5 2 rfl)
theorem dX8_can_83 : decode cX8_can 83 = .ok (.istore_n 2, 1) := oq_61 (byt chX8_can_5 3 rfl)
theorem dX8_can_84 : decode cX8_can 84 = .ok (.iinc 3 1, 3) := oq_132 (byt chX8_can_5 4 rfl) (byt chX8_can_5 5 rfl) (byt chX8_can_5 6 rfl) rfl
theorem dX8_can_87 : decode cX8_can 87 = .ok (.goto (-73), 3) := oq_167 (byt chX8_can_5 7 rfl) (byt chX8_can_5 8 rfl) (byt chX8_can_5 9 rfl) (by decide +kernel)
theorem dX8_can_90 : decode cX8_can 90 = .ok (.iload_n 2, 1) := oq_28 (byt chX8_can_5 10 rfl)
theorem dX8_can_91 : decode cX8_can 91 = .ok (.ireturn, 1) := oq_172 (byt chX8_can_5 11 rfl)
abbrev mX8_can : MI := (yX8_can, cX8_can, 6, (some .int), noE)
theorem okX8_can : cok mX8_can 2 := ⟨tw1111, tw18, by decide, by decide, by decide, by decide +kernel⟩
def fX8_can (M : Mem) (a0 a1 : Int) : Option Int :=
  if M.2.1 a0 = 8 then (fX9_isFree M a0 a1).bind fun r1 => if r1 = 0 then (some 0) else (iterC (fun (rec5 : (Int × Int) → Option Int) (s6 : Int × Int) => if s6.2 < 5 then (iterC (fun (rec8 : (Int × Int) → Option Int) (s9 : Int × Int) => if M.2.1 (M.1 a0 0) = 7 then if s9.2 < M.1 (M.1 a0 0) 0 then ((fX9_takesGift M a0 a1 s9.2 s6.2).bind fun r12 => if r12 = 0 then (rec8 (s9.1, w32 (s9.2 + 1))) else ((fX9_lackOf M a0 s9.2 s6.2).bind fun r15 => rec8 (w32 (s9.1 + r15), w32 (s9.2 + 1)))) else (if M.2.1 (M.1 a0 3) = 12 ∧ (0 : Int) ≤ (w32 ((w32 (5 * a1)) + s6.2)) ∧ (w32 ((w32 (5 * a1)) + s6.2)) < M.2.2.1 (M.1 a0 3) then rec5 (w32 (s6.1 + (imin s9.1 (M.1 (M.1 a0 3) (w32 ((w32 (5 * a1)) + s6.2))))), w32 (s6.2 + 1)) else none) else none) BIG (0, 0)) else (some s6.1)) BIG (0, 0)) else none
set_option maxRecDepth 100000 in
set_option maxHeartbeats 4000000 in
theorem kX8_can (d : Nat) (hd : 2 ≤ d) (M : Mem) (a0 a1 : Int) : Ct mX8_can d 0 0 [pA a0, pI a1] M (dI M) (fX8_can M a0 a1) := by
  obtain ⟨d, rfl⟩ : ∃ k, d = k + 1 := ⟨d - 1, by omega⟩
  refine Ct.of 4 (fun _ _ _ => trivial) (by decide +kernel) rfl ?_
  unfold fX8_can
  refine v_aload_n dX8_can_0 rfl ?_
  refine v_iload_n dX8_can_1 rfl ?_
  refine v_if (fun h3 => ?_)
  refine v_cV (mi := mX8_can) (c0 := 0) (c1 := 0) (As := [pI a1]) (st := []) (kX9_isFree d (by omega) _ _ _) rfl h3 rfl okX9_isFree (Or.inl tw1084) tw758 tw759 rfl (Nat.le_of_ble_eq_true rfl) dX8_can_2 (fun r1 => [pI r1]) (fun r1 => M) (fun _ => rfl) (fun _ => rfl) (fun r1 h2 => ?_) rfl
  refine v_if_ne (tgt := 10) dX8_can_5 (by decide) (fun c4 => ?_) (fun c4 => ?_)
  · refine v_iconst dX8_can_8 (by decide) ?_
    exact v_ireturn dX8_can_9 rfl rfl
  · refine v_iconst dX8_can_10 (by decide) ?_
    refine v_istore_n (ls' := [some (pA a0), some (pI a1), some (pI 0), none, none, none]) dX8_can_11 (by decide) rfl ?_
    refine v_iconst dX8_can_12 (by decide) ?_
    refine v_istore_n (ls' := [some (pA a0), some (pI a1), some (pI 0), some (pI 0), none, none]) dX8_can_13 (by decide) rfl ?_
    refine v_loop (fun (s6 : Int × Int) => [some (pA a0), some (pI a1), some (pI s6.1), some (pI s6.2), none, none]) (fun (s6 : Int × Int) => M) (s0 := (0, 0)) ?_
    intro rec5 hrec5 s6
    refine v_iload_n dX8_can_14 rfl ?_
    refine v_iconst dX8_can_15 (by decide) ?_
    refine v_icmp_ge (tgt := 90) dX8_can_16 (by decide) (fun c7 => ?_) (fun c7 => ?_)
    · refine v_iconst dX8_can_19 (by decide) ?_
      refine v_istore (ls' := [some (pA a0), some (pI a1), some (pI s6.1), some (pI s6.2), some (pI 0), none]) dX8_can_20 (by decide) rfl ?_
      refine v_iconst dX8_can_22 (by decide) ?_
      refine v_istore (ls' := [some (pA a0), some (pI a1), some (pI s6.1), some (pI s6.2), some (pI 0), some (pI 0)]) dX8_can_23 (by decide) rfl ?_
      refine v_loop (fun (s9 : Int × Int) => [some (pA a0), some (pI a1), some (pI s6.1), some (pI s6.2), some (pI s9.1), some (pI s9.2)]) (fun (s9 : Int × Int) => M) (s0 := (0, 0)) ?_
      intro rec8 hrec8 s9
      refine v_iload dX8_can_25 rfl ?_
      refine v_aload_n dX8_can_27 rfl ?_
      refine v_get (v := pA (M.1 a0 0)) 8 0 rfl inX9 (by decide) tw316 dX8_can_28 h3 rfl ?_
      refine v_if (fun h10 => ?_)
      refine v_get (v := pI (M.1 (M.1 a0 0) 0)) 7 0 rfl inX7 (by decide) tw57 dX8_can_31 h10 rfl ?_
      refine v_icmp_ge (tgt := 66) dX8_can_34 (by decide) (fun c11 => ?_) (fun c11 => ?_)
      · refine v_aload_n dX8_can_37 rfl ?_
        refine v_iload_n dX8_can_38 rfl ?_
        refine v_iload dX8_can_39 rfl ?_
        refine v_iload_n dX8_can_41 rfl ?_
        refine v_cV (mi := mX8_can) (c0 := 0) (c1 := 0) (As := [pI a1, pI s9.2, pI s6.2]) (st := []) (kX9_takesGift d (by omega) _ _ _ _ _) rfl h3 rfl okX9_takesGift (Or.inl tw1112) tw773 tw774 rfl (Nat.le_of_ble_eq_true rfl) dX8_can_42 (fun r12 => [pI r12]) (fun r12 => M) (fun _ => rfl) (fun _ => rfl) (fun r12 h13 => ?_) rfl
        refine v_if_eq (tgt := 60) dX8_can_45 (by decide) (fun c14 => ?_) (fun c14 => ?_)
        · refine v_iinc (ls' := [some (pA a0), some (pI a1), some (pI s6.1), some (pI s6.2), some (pI s9.1), some (pI (w32 (s9.2 + 1)))]) dX8_can_60 (by decide) rfl rfl ?_
          refine v_goto (tgt := 25) dX8_can_63 (by decide) ?_
          exact hrec8 (s9.1, w32 (s9.2 + 1))
        · refine v_iload dX8_can_48 rfl ?_
          refine v_aload_n dX8_can_50 rfl ?_
          refine v_iload dX8_can_51 rfl ?_
          refine v_iload_n dX8_can_53 rfl ?_
          refine v_cV (mi := mX8_can) (c0 := 0) (c1 := 0) (As := [pI s9.2, pI s6.2]) (st := [pI s9.1]) (kX9_lackOf d (by omega) _ _ _ _) rfl h3 rfl okX9_lackOf (Or.inl tw824) tw825 tw826 rfl (Nat.le_of_ble_eq_true rfl) dX8_can_54 (fun r15 => [pI r15, pI s9.1]) (fun r15 => M) (fun _ => rfl) (fun _ => rfl) (fun r15 h16 => ?_) rfl
          refine v_iadd dX8_can_57 ?_
          refine v_istore (ls' := [some (pA a0), some (pI a1), some (pI s6.1), some (pI s6.2), some (pI (w32 (s9.1 + r15))), some (pI s9.2)]) dX8_can_58 (by decide) rfl ?_
          refine v_iinc (ls' := [some (pA a0), some (pI a1), some (pI s6.1), some (pI s6.2), some (pI (w32 (s9.1 + r15))), some (pI (w32 (s9.2 + 1)))]) dX8_can_60 (by decide) rfl rfl ?_
          refine v_goto (tgt := 25) dX8_can_63 (by decide) ?_
          exact hrec8 (w32 (s9.1 + r15), w32 (s9.2 + 1))
      · refine v_iload_n dX8_can_66 rfl ?_
        refine v_iload dX8_can_67 rfl ?_
        refine v_aload_n dX8_can_69 rfl ?_
        refine v_get (v := pA (M.1 a0 3)) 8 3 rfl inX9 (by decide) tw325 dX8_can_70 h3 rfl ?_
        refine v_iconst dX8_can_73 (by decide) ?_
        refine v_iload_n dX8_can_74 rfl ?_
        refine v_imul dX8_can_75 ?_
        refine v_iload_n dX8_can_76 rfl ?_
        refine v_iadd dX8_can_77 ?_
        refine v_if (fun h17 => ?_)
        refine v_iaload h17 dX8_can_78 ?_
        refine v_mmin (mi := mX8_can) tw1089 tw469 tw12 tw470 (Nat.le_of_ble_eq_true rfl) dX8_can_79 ?_
        refine v_iadd dX8_can_82 ?_
        refine v_istore_n (ls' := [some (pA a0), some (pI a1), some (pI (w32 (s6.1 + (imin s9.1 (M.1 (M.1 a0 3) (w32 ((w32 (5 * a1)) + s6.2))))))), some (pI s6.2), some (pI s9.1), some (pI s9.2)]) dX8_can_83 (by decide) rfl ?_
        refine v_iinc (ls' := [some (pA a0), some (pI a1), some (pI (w32 (s6.1 + (imin s9.1 (M.1 (M.1 a0 3) (w32 ((w32 (5 * a1)) + s6.2))))))), some (pI (w32 (s6.2 + 1))), some (pI s9.1), some (pI s9.2)]) dX8_can_84 (by decide) rfl rfl ?_
        refine v_goto (tgt := 14) dX8_can_87 (by decide) ?_
        exact v_drop [some (pA a0), some (pI a1), some (pI (w32 (s6.1 + (imin s9.1 (M.1 (M.1 a0 3) (w32 ((w32 (5 * a1)) + s6.2))))))), some (pI (w32 (s6.2 + 1))), none, none] (ls_s (ls_s (ls_s (ls_s (ls_n (ls_n ls_e)))))) (hrec5 (w32 (s6.1 + (imin s9.1 (M.1 (M.1 a0 3) (w32 ((w32 (5 * a1)) + s6.2))))), w32 (s6.2 + 1)))
    · refine v_iload_n dX8_can_90 rfl ?_
      exact v_ireturn dX8_can_91 rfl rfl
theorem chX8_rankOf_0 : (cX8_rankOf.data.toList.drop 0).take 16 = [42, 27, 184, 0, 117, 61, 3, 62, 3, 54, 4, 21, 4, 42, 180, 0] := by decide +kernel
theorem chX8_rankOf_1 : (cX8_rankOf.data.toList.drop 16).take 16 = [28, 180, 0, 59, 162, 0, 38, 42, 21, 4, 184, 0, 117, 54, 5, 21] := by decide +kernel
theorem chX8_rankOf_2 : (cX8_rankOf.data.toList.drop 32).take 16 = [5, 28, 163, 0, 15, 21, 5, 28, 160, 0, 12, 21, 4, 27, 162, 0] := by decide +kernel
theorem chX8_rankOf_3 : (cX8_rankOf.data.toList.drop 48).take 16 = [6, 132, 3, 1, 132, 4, 1, 167, 255, 212, 29, 172] := by decide +kernel
theorem dX8_rankOf_0 : decode cX8_rankOf 0 = .ok (.aload_n 0, 1) := oq_42 (byt chX8_rankOf_0 0 rfl)
theorem dX8_rankOf_1 : decode cX8_rankOf 1 = .ok (.iload_n 1, 1) := oq_27 (byt chX8_rankOf_0 1 rfl)
theorem dX8_rankOf_2 : decode cX8_rankOf 2 = .ok (.invokestatic 117, 3) := oq_184 (byt chX8_rankOf_0 2 rfl) (byt chX8_rankOf_0 3 rfl) (byt chX8_rankOf_0 4 rfl) rfl
theorem dX8_rankOf_5 : decode cX8_rankOf 5 = .ok (.istore_n 2, 1) := oq_61 (byt chX8_rankOf_0 5 rfl)
theorem dX8_rankOf_6 : decode cX8_rankOf 6 = .ok (.iconst 0, 1) := oq_3 (byt chX8_rankOf_0 6 rfl)
theorem dX8_rankOf_7 : decode cX8_rankOf 7 = .ok (.istore_n 3, 1) := oq_62 (byt chX8_rankOf_0 7 rfl)
theorem dX8_rankOf_8 : decode cX8_rankOf 8 = .ok (.iconst 0, 1) := oq_3 (byt chX8_rankOf_0 8 rfl)
theorem dX8_rankOf_9 : decode cX8_rankOf 9 = .ok (.istore 4, 2) := oq_54 (byt chX8_rankOf_0 9 rfl) (byt chX8_rankOf_0 10 rfl) rfl
theorem dX8_rankOf_11 : decode cX8_rankOf 11 = .ok (.iload 4, 2) := oq_21 (byt chX8_rankOf_0 11 rfl) (byt chX8_rankOf_0 12 rfl) rfl
theorem dX8_rankOf_13 : decode cX8_rankOf 13 = .ok (.aload_n 0, 1) := oq_42 (byt chX8_rankOf_0 13 rfl)
theorem dX8_rankOf_14 : decode cX8_rankOf 14 = .ok (.getfield 28, 3) := oq_180 (byt chX8_rankOf_0 14 rfl) (byt chX8_rankOf_0 15 rfl) (byt chX8_rankOf_1 0 rfl) rfl
theorem dX8_rankOf_17 : decode cX8_rankOf 17 = .ok (.getfield 59, 3) := oq_180 (byt chX8_rankOf_1 1 rfl) (byt chX8_rankOf_1 2 rfl) (byt chX8_rankOf_1 3 rfl) rfl
theorem dX8_rankOf_20 : decode cX8_rankOf 20 = .ok (.if_icmp .ge 38, 3) := oq_162 (byt chX8_rankOf_1 4 rfl) (byt chX8_rankOf_1 5 rfl) (byt chX8_rankOf_1 6 rfl) (by decide +kernel)
theorem dX8_rankOf_23 : decode cX8_rankOf 23 = .ok (.aload_n 0, 1) := oq_42 (byt chX8_rankOf_1 7 rfl)
theorem dX8_rankOf_24 : decode cX8_rankOf 24 = .ok (.iload 4, 2) := oq_21 (byt chX8_rankOf_1 8 rfl) (byt chX8_rankOf_1 9 rfl) rfl
theorem dX8_rankOf_26 : decode cX8_rankOf 26 = .ok (.invokestatic 117, 3) := oq_184 (byt chX8_rankOf_1 10 rfl) (byt chX8_rankOf_1 11 rfl) (byt chX8_rankOf_1 12 rfl) rfl
theorem dX8_rankOf_29 : decode cX8_rankOf 29 = .ok (.istore 5, 2) := oq_54 (byt chX8_rankOf_1 13 rfl) (byt chX8_rankOf_1 14 rfl) rfl
theorem dX8_rankOf_31 : decode cX8_rankOf 31 = .ok (.iload 5, 2) := oq_21 (byt chX8_rankOf_1 15 rfl) (byt chX8_rankOf_2 0 rfl) rfl
theorem dX8_rankOf_33 : decode cX8_rankOf 33 = .ok (.iload_n 2, 1) := oq_28 (byt chX8_rankOf_2 1 rfl)
theorem dX8_rankOf_34 : decode cX8_rankOf 34 = .ok (.if_icmp .gt 15, 3) := oq_163 (byt chX8_rankOf_2 2 rfl) (byt chX8_rankOf_2 3 rfl) (byt chX8_rankOf_2 4 rfl) (by decide +kernel)
theorem dX8_rankOf_37 : decode cX8_rankOf 37 = .ok (.iload 5, 2) := oq_21 (byt chX8_rankOf_2 5 rfl) (byt chX8_rankOf_2 6 rfl) rfl
theorem dX8_rankOf_39 : decode cX8_rankOf 39 = .ok (.iload_n 2, 1) := oq_28 (byt chX8_rankOf_2 7 rfl)
theorem dX8_rankOf_40 : decode cX8_rankOf 40 = .ok (.if_icmp .ne 12, 3) := oq_160 (byt chX8_rankOf_2 8 rfl) (byt chX8_rankOf_2 9 rfl) (byt chX8_rankOf_2 10 rfl) (by decide +kernel)
theorem dX8_rankOf_43 : decode cX8_rankOf 43 = .ok (.iload 4, 2) := oq_21 (byt chX8_rankOf_2 11 rfl) (byt chX8_rankOf_2 12 rfl) rfl
theorem dX8_rankOf_45 : decode cX8_rankOf 45 = .ok (.iload_n 1, 1) := oq_27 (byt chX8_rankOf_2 13 rfl)
theorem dX8_rankOf_46 : decode cX8_rankOf 46 = .ok (.if_icmp .ge 6, 3) := oq_162 (byt chX8_rankOf_2 14 rfl) (byt chX8_rankOf_2 15 rfl) (byt chX8_rankOf_3 0 rfl) (by decide +kernel)
theorem dX8_rankOf_49 : decode cX8_rankOf 49 = .ok (.iinc 3 1, 3) := oq_132 (byt chX8_rankOf_3 1 rfl) (byt chX8_rankOf_3 2 rfl) (byt chX8_rankOf_3 3 rfl) rfl
theorem dX8_rankOf_52 : decode cX8_rankOf 52 = .ok (.iinc 4 1, 3) := oq_132 (byt chX8_rankOf_3 4 rfl) (byt chX8_rankOf_3 5 rfl) (byt chX8_rankOf_3 6 rfl) rfl
theorem dX8_rankOf_55 : decode cX8_rankOf 55 = .ok (.goto (-44), 3) := oq_167 (byt chX8_rankOf_3 7 rfl) (byt chX8_rankOf_3 8 rfl) (byt chX8_rankOf_3 9 rfl) (by decide +kernel)
theorem dX8_rankOf_58 : decode cX8_rankOf 58 = .ok (.iload_n 3, 1) := oq_29 (byt chX8_rankOf_3 10 rfl)
theorem dX8_rankOf_59 : decode cX8_rankOf 59 = .ok (.ireturn, 1) := oq_172 (byt chX8_rankOf_3 11 rfl)
abbrev mX8_rankOf : MI := (yX8_rankOf, cX8_rankOf, 6, (some .int), noE)
theorem okX8_rankOf : cok mX8_rankOf 2 := ⟨tw1118, tw18, by decide, by decide, by decide, by decide +kernel⟩
def fX8_rankOf (M : Mem) (a0 a1 : Int) : Option Int :=
  (fX8_wealthOf M a0 a1).bind fun r1 => iterC (fun (rec3 : (Int × Int) → Option Int) (s4 : Int × Int) => if M.2.1 a0 = 8 then if M.2.1 (M.1 a0 0) = 7 then if s4.2 < M.1 (M.1 a0 0) 0 then ((fX8_wealthOf M a0 s4.2).bind fun r8 => if r1 < r8 then (rec3 (w32 (s4.1 + 1), w32 (s4.2 + 1))) else (if r8 = r1 then (if s4.2 < a1 then (rec3 (w32 (s4.1 + 1), w32 (s4.2 + 1))) else (rec3 (s4.1, w32 (s4.2 + 1)))) else (rec3 (s4.1, w32 (s4.2 + 1))))) else (some s4.1) else none else none) BIG (0, 0)
set_option maxRecDepth 100000 in
set_option maxHeartbeats 4000000 in
theorem kX8_rankOf (d : Nat) (hd : 3 ≤ d) (M : Mem) (a0 a1 : Int) : Ct mX8_rankOf d 0 0 [pA a0, pI a1] M (dI M) (fX8_rankOf M a0 a1) := by
  obtain ⟨d, rfl⟩ : ∃ k, d = k + 1 := ⟨d - 1, by omega⟩
  refine Ct.of 4 (fun _ _ _ => trivial) (by decide +kernel) rfl ?_
  unfold fX8_rankOf
  refine v_aload_n dX8_rankOf_0 rfl ?_
  refine v_iload_n dX8_rankOf_1 rfl ?_
  refine v_cS (mi := mX8_rankOf) (c0 := 0) (c1 := 0) (As := [pA a0, pI a1]) (st := []) (kX8_wealthOf d (by omega) _ _ _) okX8_wealthOf (Or.inl tw1093) tw1094 rfl (Nat.le_of_ble_eq_true rfl) dX8_rankOf_2 (fun r1 => [pI r1]) (fun r1 => M) (fun _ => rfl) (fun _ => rfl) (fun r1 h2 => ?_) rfl
  refine v_istore_n (ls' := [some (pA a0), some (pI a1), some (pI r1), none, none, none]) dX8_rankOf_5 (by decide) rfl ?_
  refine v_iconst dX8_rankOf_6 (by decide) ?_
  refine v_istore_n (ls' := [some (pA a0), some (pI a1), some (pI r1), some (pI 0), none, none]) dX8_rankOf_7 (by decide) rfl ?_
  refine v_iconst dX8_rankOf_8 (by decide) ?_
  refine v_istore (ls' := [some (pA a0), some (pI a1), some (pI r1), some (pI 0), some (pI 0), none]) dX8_rankOf_9 (by decide) rfl ?_
  refine v_loop (fun (s4 : Int × Int) => [some (pA a0), some (pI a1), some (pI r1), some (pI s4.1), some (pI s4.2), none]) (fun (s4 : Int × Int) => M) (s0 := (0, 0)) ?_
  intro rec3 hrec3 s4
  refine v_iload dX8_rankOf_11 rfl ?_
  refine v_aload_n dX8_rankOf_13 rfl ?_
  refine v_if (fun h5 => ?_)
  refine v_get (v := pA (M.1 a0 0)) 8 0 rfl inX9 (by decide) tw316 dX8_rankOf_14 h5 rfl ?_
  refine v_if (fun h6 => ?_)
  refine v_get (v := pI (M.1 (M.1 a0 0) 0)) 7 0 rfl inX7 (by decide) tw57 dX8_rankOf_17 h6 rfl ?_
  refine v_icmp_ge (tgt := 58) dX8_rankOf_20 (by decide) (fun c7 => ?_) (fun c7 => ?_)
  · refine v_aload_n dX8_rankOf_23 rfl ?_
    refine v_iload dX8_rankOf_24 rfl ?_
    refine v_cS (mi := mX8_rankOf) (c0 := 0) (c1 := 0) (As := [pA a0, pI s4.2]) (st := []) (kX8_wealthOf d (by omega) _ _ _) okX8_wealthOf (Or.inl tw1093) tw1094 rfl (Nat.le_of_ble_eq_true rfl) dX8_rankOf_26 (fun r8 => [pI r8]) (fun r8 => M) (fun _ => rfl) (fun _ => rfl) (fun r8 h9 => ?_) rfl
    refine v_istore (ls' := [some (pA a0), some (pI a1), some (pI r1), some (pI s4.1), some (pI s4.2), some (pI r8)]) dX8_rankOf_29 (by decide) rfl ?_
    refine v_iload dX8_rankOf_31 rfl ?_
    refine v_iload_n dX8_rankOf_33 rfl ?_
    refine v_icmp_gt (tgt := 49) dX8_rankOf_34 (by decide) (fun c10 => ?_) (fun c10 => ?_)
    · refine v_iinc (ls' := [some (pA a0), some (pI a1), some (pI r1), some (pI (w32 (s4.1 + 1))), some (pI s4.2), some (pI r8)]) dX8_rankOf_49 (by decide) rfl rfl ?_
      refine v_iinc (ls' := [some (pA a0), some (pI a1), some (pI r1), some (pI (w32 (s4.1 + 1))), some (pI (w32 (s4.2 + 1))), some (pI r8)]) dX8_rankOf_52 (by decide) rfl rfl ?_
      refine v_goto (tgt := 11) dX8_rankOf_55 (by decide) ?_
      exact v_drop [some (pA a0), some (pI a1), some (pI r1), some (pI (w32 (s4.1 + 1))), some (pI (w32 (s4.2 + 1))), none] (ls_s (ls_s (ls_s (ls_s (ls_s (ls_n ls_e)))))) (hrec3 (w32 (s4.1 + 1), w32 (s4.2 + 1)))
    · refine v_iload dX8_rankOf_37 rfl ?_
      refine v_iload_n dX8_rankOf_39 rfl ?_
      refine v_icmp_ne (tgt := 52) dX8_rankOf_40 (by decide) (fun c11 => ?_) (fun c11 => ?_)
      · refine v_iload dX8_rankOf_43 rfl ?_
        refine v_iload_n dX8_rankOf_45 rfl ?_
        refine v_icmp_ge (tgt := 52) dX8_rankOf_46 (by decide) (fun c12 => ?_) (fun c12 => ?_)
        · refine v_iinc (ls' := [some (pA a0), some (pI a1), some (pI r1), some (pI (w32 (s4.1 + 1))), some (pI s4.2), some (pI r8)]) dX8_rankOf_49 (by decide) rfl rfl ?_
          refine v_iinc (ls' := [some (pA a0), some (pI a1), some (pI r1), some (pI (w32 (s4.1 + 1))), some (pI (w32 (s4.2 + 1))), some (pI r8)]) dX8_rankOf_52 (by decide) rfl rfl ?_
          refine v_goto (tgt := 11) dX8_rankOf_55 (by decide) ?_
          exact v_drop [some (pA a0), some (pI a1), some (pI r1), some (pI (w32 (s4.1 + 1))), some (pI (w32 (s4.2 + 1))), none] (ls_s (ls_s (ls_s (ls_s (ls_s (ls_n ls_e)))))) (hrec3 (w32 (s4.1 + 1), w32 (s4.2 + 1)))
        · refine v_iinc (ls' := [some (pA a0), some (pI a1), some (pI r1), some (pI s4.1), some (pI (w32 (s4.2 + 1))), some (pI r8)]) dX8_rankOf_52 (by decide) rfl rfl ?_
          refine v_goto (tgt := 11) dX8_rankOf_55 (by decide) ?_
          exact v_drop [some (pA a0), some (pI a1), some (pI r1), some (pI s4.1), some (pI (w32 (s4.2 + 1))), none] (ls_s (ls_s (ls_s (ls_s (ls_s (ls_n ls_e)))))) (hrec3 (s4.1, w32 (s4.2 + 1)))
      · refine v_iinc (ls' := [some (pA a0), some (pI a1), some (pI r1), some (pI s4.1), some (pI (w32 (s4.2 + 1))), some (pI r8)]) dX8_rankOf_52 (by decide) rfl rfl ?_
        refine v_goto (tgt := 11) dX8_rankOf_55 (by decide) ?_
        exact v_drop [some (pA a0), some (pI a1), some (pI r1), some (pI s4.1), some (pI (w32 (s4.2 + 1))), none] (ls_s (ls_s (ls_s (ls_s (ls_s (ls_n ls_e)))))) (hrec3 (s4.1, w32 (s4.2 + 1)))
  · refine v_iload_n dX8_rankOf_58 rfl ?_
    exact v_ireturn dX8_rankOf_59 rfl rfl
theorem chX8_ranked_0 : (cX8_ranked.data.toList.drop 0).take 16 = [3, 61, 28, 42, 180, 0, 28, 180, 0, 59, 162, 0, 20, 42, 28, 184] := by decide +kernel
theorem chX8_ranked_1 : (cX8_ranked.data.toList.drop 16).take 16 = [0, 159, 27, 160, 0, 5, 28, 172, 132, 2, 1, 167, 255, 231, 2, 172] := by decide +kernel
theorem dX8_ranked_0 : decode cX8_ranked 0 = .ok (.iconst 0, 1) := oq_3 (byt chX8_ranked_0 0 rfl)
theorem dX8_ranked_1 : decode cX8_ranked 1 = .ok (.istore_n 2, 1) := oq_61 (byt chX8_ranked_0 1 rfl)
theorem dX8_ranked_2 : decode cX8_ranked 2 = .ok (.iload_n 2, 1) := oq_28 (byt chX8_ranked_0 2 rfl)
theorem dX8_ranked_3 : decode cX8_ranked 3 = .ok (.aload_n 0, 1) := oq_42 (byt chX8_ranked_0 3 rfl)
theorem dX8_ranked_4 : decode cX8_ranked 4 = .ok (.getfield 28, 3) := oq_180 (byt chX8_ranked_0 4 rfl) (byt chX8_ranked_0 5 rfl) (byt chX8_ranked_0 6 rfl) rfl
theorem dX8_ranked_7 : decode cX8_ranked 7 = .ok (.getfield 59, 3) := oq_180 (byt chX8_ranked_0 7 rfl) (byt chX8_ranked_0 8 rfl) (byt chX8_ranked_0 9 rfl) rfl
theorem dX8_ranked_10 : decode cX8_ranked 10 = .ok (.if_icmp .ge 20, 3) := oq_162 (byt chX8_ranked_0 10 rfl) (byt chX8_ranked_0 11 rfl) (byt chX8_ranked_0 12 rfl) (by decide +kernel)
theorem dX8_ranked_13 : decode cX8_ranked 13 = .ok (.aload_n 0, 1) := oq_42 (byt chX8_ranked_0 13 rfl)
theorem dX8_ranked_14 : decode cX8_ranked 14 = .ok (.iload_n 2, 1) := oq_28 (byt chX8_ranked_0 14 rfl)
theorem dX8_ranked_15 : decode cX8_ranked 15 = .ok (.invokestatic 159, 3) := oq_184 (byt chX8_ranked_0 15 rfl) (byt chX8_ranked_1 0 rfl) (byt chX8_ranked_1 1 rfl) rfl
theorem dX8_ranked_18 : decode cX8_ranked 18 = .ok (.iload_n 1, 1) := oq_27 (byt chX8_ranked_1 2 rfl)
theorem dX8_ranked_19 : decode cX8_ranked 19 = .ok (.if_icmp .ne 5, 3) := oq_160 (byt chX8_ranked_1 3 rfl) (byt chX8_ranked_1 4 rfl) (byt chX8_ranked_1 5 rfl) (by decide +kernel)
theorem dX8_ranked_22 : decode cX8_ranked 22 = .ok (.iload_n 2, 1) := oq_28 (byt chX8_ranked_1 6 rfl)
theorem dX8_ranked_23 : decode cX8_ranked 23 = .ok (.ireturn, 1) := oq_172 (byt chX8_ranked_1 7 rfl)
theorem dX8_ranked_24 : decode cX8_ranked 24 = .ok (.iinc 2 1, 3) := oq_132 (byt chX8_ranked_1 8 rfl) (byt chX8_ranked_1 9 rfl) (byt chX8_ranked_1 10 rfl) rfl
theorem dX8_ranked_27 : decode cX8_ranked 27 = .ok (.goto (-25), 3) := oq_167 (byt chX8_ranked_1 11 rfl) (byt chX8_ranked_1 12 rfl) (byt chX8_ranked_1 13 rfl) (by decide +kernel)
theorem dX8_ranked_30 : decode cX8_ranked 30 = .ok (.iconst (-1), 1) := oq_2 (byt chX8_ranked_1 14 rfl)
theorem dX8_ranked_31 : decode cX8_ranked 31 = .ok (.ireturn, 1) := oq_172 (byt chX8_ranked_1 15 rfl)
abbrev mX8_ranked : MI := (yX8_ranked, cX8_ranked, 3, (some .int), noE)
theorem okX8_ranked : cok mX8_ranked 2 := ⟨tw1115, tw18, by decide, by decide, by decide, by decide +kernel⟩
def fX8_ranked (M : Mem) (a0 a1 : Int) : Option Int :=
  iterC (fun (rec1 : Int → Option Int) (s2 : Int) => if M.2.1 a0 = 8 then if M.2.1 (M.1 a0 0) = 7 then if s2 < M.1 (M.1 a0 0) 0 then ((fX8_rankOf M a0 s2).bind fun r6 => if r6 = a1 then (some s2) else (rec1 (w32 (s2 + 1)))) else (some (-1)) else none else none) BIG 0
set_option maxRecDepth 100000 in
set_option maxHeartbeats 4000000 in
theorem kX8_ranked (d : Nat) (hd : 4 ≤ d) (M : Mem) (a0 a1 : Int) : Ct mX8_ranked d 0 0 [pA a0, pI a1] M (dI M) (fX8_ranked M a0 a1) := by
  obtain ⟨d, rfl⟩ : ∃ k, d = k + 1 := ⟨d - 1, by omega⟩
  refine Ct.of 1 (fun _ _ _ => trivial) (by decide +kernel) rfl ?_
  unfold fX8_ranked
  refine v_iconst dX8_ranked_0 (by decide) ?_
  refine v_istore_n (ls' := [some (pA a0), some (pI a1), some (pI 0)]) dX8_ranked_1 (by decide) rfl ?_
  refine v_loop (fun (s2 : Int) => [some (pA a0), some (pI a1), some (pI s2)]) (fun (s2 : Int) => M) (s0 := 0) ?_
  intro rec1 hrec1 s2
  refine v_iload_n dX8_ranked_2 rfl ?_
  refine v_aload_n dX8_ranked_3 rfl ?_
  refine v_if (fun h3 => ?_)
  refine v_get (v := pA (M.1 a0 0)) 8 0 rfl inX9 (by decide) tw316 dX8_ranked_4 h3 rfl ?_
  refine v_if (fun h4 => ?_)
  refine v_get (v := pI (M.1 (M.1 a0 0) 0)) 7 0 rfl inX7 (by decide) tw57 dX8_ranked_7 h4 rfl ?_
  refine v_icmp_ge (tgt := 30) dX8_ranked_10 (by decide) (fun c5 => ?_) (fun c5 => ?_)
  · refine v_aload_n dX8_ranked_13 rfl ?_
    refine v_iload_n dX8_ranked_14 rfl ?_
    refine v_cS (mi := mX8_ranked) (c0 := 0) (c1 := 0) (As := [pA a0, pI s2]) (st := []) (kX8_rankOf d (by omega) _ _ _) okX8_rankOf (Or.inl tw1116) tw1117 rfl (Nat.le_of_ble_eq_true rfl) dX8_ranked_15 (fun r6 => [pI r6]) (fun r6 => M) (fun _ => rfl) (fun _ => rfl) (fun r6 h7 => ?_) rfl
    refine v_iload_n dX8_ranked_18 rfl ?_
    refine v_icmp_ne (tgt := 24) dX8_ranked_19 (by decide) (fun c8 => ?_) (fun c8 => ?_)
    · refine v_iload_n dX8_ranked_22 rfl ?_
      exact v_ireturn dX8_ranked_23 rfl rfl
    · refine v_iinc (ls' := [some (pA a0), some (pI a1), some (pI (w32 (s2 + 1)))]) dX8_ranked_24 (by decide) rfl rfl ?_
      refine v_goto (tgt := 2) dX8_ranked_27 (by decide) ?_
      exact hrec1 (w32 (s2 + 1))
  · refine v_iconst dX8_ranked_30 (by decide) ?_
    exact v_ireturn dX8_ranked_31 rfl rfl
theorem chX8_richOf_0 : (cX8_richOf.data.toList.drop 0).take 16 = [27, 4, 160, 0, 26, 42, 180, 0, 28, 28, 182, 0, 42, 153, 0, 11] := by decide +kernel
theorem chX8_richOf_1 : (cX8_richOf.data.toList.drop 16).take 16 = [42, 28, 184, 0, 114, 167, 0, 6, 17, 252, 24, 172, 42, 180, 0, 28] := by decide +kernel
theorem chX8_richOf_2 : (cX8_richOf.data.toList.drop 32).take 16 = [28, 182, 0, 32, 154, 0, 7, 17, 252, 24, 172, 27, 5, 160, 0, 11] := by decide +kernel
theorem chX8_richOf_3 : (cX8_richOf.data.toList.drop 48).take 16 = [42, 28, 184, 0, 117, 167, 0, 8, 42, 28, 184, 0, 120, 172] := by decide +kernel
theorem dX8_richOf_0 : decode cX8_richOf 0 = .ok (.iload_n 1, 1) := oq_27 (byt chX8_richOf_0 0 rfl)
theorem dX8_richOf_1 : decode cX8_richOf 1 = .ok (.iconst 1, 1) := oq_4 (byt chX8_richOf_0 1 rfl)
theorem dX8_richOf_2 : decode cX8_richOf 2 = .ok (.if_icmp .ne 26, 3) := oq_160 (byt chX8_richOf_0 2 rfl) (byt chX8_richOf_0 3 rfl) (byt chX8_richOf_0 4 rfl) (by decide +kernel)
theorem dX8_richOf_5 : decode cX8_richOf 5 = .ok (.aload_n 0, 1) := oq_42 (byt chX8_richOf_0 5 rfl)
theorem dX8_richOf_6 : decode cX8_richOf 6 = .ok (.getfield 28, 3) := oq_180 (byt chX8_richOf_0 6 rfl) (byt chX8_richOf_0 7 rfl) (byt chX8_richOf_0 8 rfl) rfl
theorem dX8_richOf_9 : decode cX8_richOf 9 = .ok (.iload_n 2, 1) := oq_28 (byt chX8_richOf_0 9 rfl)
theorem dX8_richOf_10 : decode cX8_richOf 10 = .ok (.invokevirtual 42, 3) := oq_182 (byt chX8_richOf_0 10 rfl) (byt chX8_richOf_0 11 rfl) (byt chX8_richOf_0 12 rfl) rfl
theorem dX8_richOf_13 : decode cX8_richOf 13 = .ok (.ifCond .eq 11, 3) := oq_153 (byt chX8_richOf_0 13 rfl) (byt chX8_richOf_0 14 rfl) (byt chX8_richOf_0 15 rfl) (by decide +kernel)
theorem dX8_richOf_16 : decode cX8_richOf 16 = .ok (.aload_n 0, 1) := oq_42 (byt chX8_richOf_1 0 rfl)
theorem dX8_richOf_17 : decode cX8_richOf 17 = .ok (.iload_n 2, 1) := oq_28 (byt chX8_richOf_1 1 rfl)
theorem dX8_richOf_18 : decode cX8_richOf 18 = .ok (.invokestatic 114, 3) := oq_184 (byt chX8_richOf_1 2 rfl) (byt chX8_richOf_1 3 rfl) (byt chX8_richOf_1 4 rfl) rfl
theorem dX8_richOf_21 : decode cX8_richOf 21 = .ok (.goto 6, 3) := oq_167 (byt chX8_richOf_1 5 rfl) (byt chX8_richOf_1 6 rfl) (byt chX8_richOf_1 7 rfl) (by decide +kernel)
theorem dX8_richOf_24 : decode cX8_richOf 24 = .ok (.sipush (-1000), 3) := oq_17 (byt chX8_richOf_1 8 rfl) (byt chX8_richOf_1 9 rfl) (byt chX8_richOf_1 10 rfl) (by decide +kernel)
theorem dX8_richOf_27 : decode cX8_richOf 27 = .ok (.ireturn, 1) := oq_172 (byt chX8_richOf_1 11 rfl)
theorem dX8_richOf_28 : decode cX8_richOf 28 = .ok (.aload_n 0, 1) := oq_42 (byt chX8_richOf_1 12 rfl)
theorem dX8_richOf_29 : decode cX8_richOf 29 = .ok (.getfield 28, 3) := oq_180 (byt chX8_richOf_1 13 rfl) (byt chX8_richOf_1 14 rfl) (byt chX8_richOf_1 15 rfl) rfl
theorem dX8_richOf_32 : decode cX8_richOf 32 = .ok (.iload_n 2, 1) := oq_28 (byt chX8_richOf_2 0 rfl)
theorem dX8_richOf_33 : decode cX8_richOf 33 = .ok (.invokevirtual 32, 3) := oq_182 (byt chX8_richOf_2 1 rfl) (byt chX8_richOf_2 2 rfl) (byt chX8_richOf_2 3 rfl) rfl
theorem dX8_richOf_36 : decode cX8_richOf 36 = .ok (.ifCond .ne 7, 3) := oq_154 (byt chX8_richOf_2 4 rfl) (byt chX8_richOf_2 5 rfl) (byt chX8_richOf_2 6 rfl) (by decide +kernel)
theorem dX8_richOf_39 : decode cX8_richOf 39 = .ok (.sipush (-1000), 3) := oq_17 (byt chX8_richOf_2 7 rfl) (byt chX8_richOf_2 8 rfl) (byt chX8_richOf_2 9 rfl) (by decide +kernel)
theorem dX8_richOf_42 : decode cX8_richOf 42 = .ok (.ireturn, 1) := oq_172 (byt chX8_richOf_2 10 rfl)
theorem dX8_richOf_43 : decode cX8_richOf 43 = .ok (.iload_n 1, 1) := oq_27 (byt chX8_richOf_2 11 rfl)
theorem dX8_richOf_44 : decode cX8_richOf 44 = .ok (.iconst 2, 1) := oq_5 (byt chX8_richOf_2 12 rfl)
theorem dX8_richOf_45 : decode cX8_richOf 45 = .ok (.if_icmp .ne 11, 3) := oq_160 (byt chX8_richOf_2 13 rfl) (byt chX8_richOf_2 14 rfl) (byt chX8_richOf_2 15 rfl) (by decide +kernel)
theorem dX8_richOf_48 : decode cX8_richOf 48 = .ok (.aload_n 0, 1) := oq_42 (byt chX8_richOf_3 0 rfl)
theorem dX8_richOf_49 : decode cX8_richOf 49 = .ok (.iload_n 2, 1) := oq_28 (byt chX8_richOf_3 1 rfl)
theorem dX8_richOf_50 : decode cX8_richOf 50 = .ok (.invokestatic 117, 3) := oq_184 (byt chX8_richOf_3 2 rfl) (byt chX8_richOf_3 3 rfl) (byt chX8_richOf_3 4 rfl) rfl
theorem dX8_richOf_53 : decode cX8_richOf 53 = .ok (.goto 8, 3) := oq_167 (byt chX8_richOf_3 5 rfl) (byt chX8_richOf_3 6 rfl) (byt chX8_richOf_3 7 rfl) (by decide +kernel)
theorem dX8_richOf_56 : decode cX8_richOf 56 = .ok (.aload_n 0, 1) := oq_42 (byt chX8_richOf_3 8 rfl)
theorem dX8_richOf_57 : decode cX8_richOf 57 = .ok (.iload_n 2, 1) := oq_28 (byt chX8_richOf_3 9 rfl)
theorem dX8_richOf_58 : decode cX8_richOf 58 = .ok (.invokestatic 120, 3) := oq_184 (byt chX8_richOf_3 10 rfl) (byt chX8_richOf_3 11 rfl) (byt chX8_richOf_3 12 rfl) rfl
theorem dX8_richOf_61 : decode cX8_richOf 61 = .ok (.ireturn, 1) := oq_172 (byt chX8_richOf_3 13 rfl)
abbrev mX8_richOf : MI := (yX8_richOf, cX8_richOf, 3, (some .int), noE)
theorem okX8_richOf : cok mX8_richOf 3 := ⟨tw1108, tw18, by decide, by decide, by decide, by decide +kernel⟩
def fX8_richOf (M : Mem) (a0 a1 a2 : Int) : Option Int :=
  if a1 = 1 then (if M.2.1 a0 = 8 then if M.2.1 (M.1 a0 0) = 7 then (fX7_isThief M (M.1 a0 0) a2).bind fun r3 => if r3 = 0 then (some (-1000)) else ((fX8_can M a0 a2).bind fun r7 => some r7) else none else none) else (if M.2.1 a0 = 8 then if M.2.1 (M.1 a0 0) = 7 then (fX7_isHouse M (M.1 a0 0) a2).bind fun r10 => if r10 = 0 then (some (-1000)) else (if a1 = 2 then ((fX8_wealthOf M a0 a2).bind fun r15 => some r15) else ((fX8_ranked M a0 a2).bind fun r17 => some r17)) else none else none)
set_option maxRecDepth 100000 in
set_option maxHeartbeats 4000000 in
theorem kX8_richOf (d : Nat) (hd : 5 ≤ d) (M : Mem) (a0 a1 a2 : Int) : Ct mX8_richOf d 0 0 [pA a0, pI a1, pI a2] M (dI M) (fX8_richOf M a0 a1 a2) := by
  obtain ⟨d, rfl⟩ : ∃ k, d = k + 1 := ⟨d - 1, by omega⟩
  refine Ct.of 0 (fun _ _ _ => trivial) (by decide +kernel) rfl ?_
  unfold fX8_richOf
  refine v_iload_n dX8_richOf_0 rfl ?_
  refine v_iconst dX8_richOf_1 (by decide) ?_
  refine v_icmp_ne (tgt := 28) dX8_richOf_2 (by decide) (fun c1 => ?_) (fun c1 => ?_)
  · refine v_aload_n dX8_richOf_5 rfl ?_
    refine v_if (fun h2 => ?_)
    refine v_get (v := pA (M.1 a0 0)) 8 0 rfl inX9 (by decide) tw316 dX8_richOf_6 h2 rfl ?_
    refine v_iload_n dX8_richOf_9 rfl ?_
    refine v_if (fun h5 => ?_)
    refine v_cV (mi := mX8_richOf) (c0 := 0) (c1 := 0) (As := [pI a2]) (st := []) (kX7_isThief d (by omega) _ _ _) rfl h5 rfl okX7_isThief (Or.inl tw844) tw692 tw693 rfl (Nat.le_of_ble_eq_true rfl) dX8_richOf_10 (fun r3 => [pI r3]) (fun r3 => M) (fun _ => rfl) (fun _ => rfl) (fun r3 h4 => ?_) rfl
    refine v_if_eq (tgt := 24) dX8_richOf_13 (by decide) (fun c6 => ?_) (fun c6 => ?_)
    · refine v_sipush dX8_richOf_24 (by decide) ?_
      exact v_ireturn dX8_richOf_27 rfl rfl
    · refine v_aload_n dX8_richOf_16 rfl ?_
      refine v_iload_n dX8_richOf_17 rfl ?_
      refine v_cS (mi := mX8_richOf) (c0 := 0) (c1 := 0) (As := [pA a0, pI a2]) (st := []) (kX8_can d (by omega) _ _ _) okX8_can (Or.inl tw1109) tw1110 rfl (Nat.le_of_ble_eq_true rfl) dX8_richOf_18 (fun r7 => [pI r7]) (fun r7 => M) (fun _ => rfl) (fun _ => rfl) (fun r7 h8 => ?_) rfl
      refine v_goto (tgt := 27) dX8_richOf_21 (by decide) ?_
      exact v_ireturn dX8_richOf_27 rfl rfl
  · refine v_aload_n dX8_richOf_28 rfl ?_
    refine v_if (fun h9 => ?_)
    refine v_get (v := pA (M.1 a0 0)) 8 0 rfl inX9 (by decide) tw316 dX8_richOf_29 h9 rfl ?_
    refine v_iload_n dX8_richOf_32 rfl ?_
    refine v_if (fun h12 => ?_)
    refine v_cV (mi := mX8_richOf) (c0 := 0) (c1 := 0) (As := [pI a2]) (st := []) (kX7_isHouse d (by omega) _ _ _) rfl h12 rfl okX7_isHouse (Or.inl tw836) tw685 tw686 rfl (Nat.le_of_ble_eq_true rfl) dX8_richOf_33 (fun r10 => [pI r10]) (fun r10 => M) (fun _ => rfl) (fun _ => rfl) (fun r10 h11 => ?_) rfl
    refine v_if_ne (tgt := 43) dX8_richOf_36 (by decide) (fun c13 => ?_) (fun c13 => ?_)
    · refine v_sipush dX8_richOf_39 (by decide) ?_
      exact v_ireturn dX8_richOf_42 rfl rfl
    · refine v_iload_n dX8_richOf_43 rfl ?_
      refine v_iconst dX8_richOf_44 (by decide) ?_
      refine v_icmp_ne (tgt := 56) dX8_richOf_45 (by decide) (fun c14 => ?_) (fun c14 => ?_)
      · refine v_aload_n dX8_richOf_48 rfl ?_
        refine v_iload_n dX8_richOf_49 rfl ?_
        refine v_cS (mi := mX8_richOf) (c0 := 0) (c1 := 0) (As := [pA a0, pI a2]) (st := []) (kX8_wealthOf d (by omega) _ _ _) okX8_wealthOf (Or.inl tw1093) tw1094 rfl (Nat.le_of_ble_eq_true rfl) dX8_richOf_50 (fun r15 => [pI r15]) (fun r15 => M) (fun _ => rfl) (fun _ => rfl) (fun r15 h16 => ?_) rfl
        refine v_goto (tgt := 61) dX8_richOf_53 (by decide) ?_
        exact v_ireturn dX8_richOf_61 rfl rfl
      · refine v_aload_n dX8_richOf_56 rfl ?_
        refine v_iload_n dX8_richOf_57 rfl ?_
        refine v_cS (mi := mX8_richOf) (c0 := 0) (c1 := 0) (As := [pA a0, pI a2]) (st := []) (kX8_ranked d (by omega) _ _ _) okX8_ranked (Or.inl tw1113) tw1114 rfl (Nat.le_of_ble_eq_true rfl) dX8_richOf_58 (fun r17 => [pI r17]) (fun r17 => M) (fun _ => rfl) (fun _ => rfl) (fun r17 h18 => ?_) rfl
        exact v_ireturn dX8_richOf_61 rfl rfl
theorem chX8_rich_0 : (cX8_rich.data.toList.drop 0).take 16 = [27, 170, 0, 0, 0, 0, 0, 62, 0, 0, 0, 0, 0, 0, 0, 4] := by decide +kernel
theorem chX8_rich_2 : (cX8_rich.data.toList.drop 32).take 16 = [0, 0, 0, 57, 42, 184, 0, 98, 172, 42, 184, 0, 101, 172, 42, 3] := by decide +kernel
theorem chX8_rich_3 : (cX8_rich.data.toList.drop 48).take 16 = [184, 0, 104, 172, 42, 4, 184, 0, 104, 172, 42, 184, 0, 108, 172, 27] := by decide +kernel
theorem chX8_rich_4 : (cX8_rich.data.toList.drop 64).take 16 = [16, 10, 161, 0, 24, 27, 16, 40, 162, 0, 18, 42, 27, 16, 10, 108] := by decide +kernel
theorem chX8_rich_5 : (cX8_rich.data.toList.drop 80).take 16 = [27, 16, 10, 112, 184, 0, 111, 167, 0, 6, 17, 252, 24, 172] := by decide +kernel
theorem dX8_rich_0 : decode cX8_rich 0 = .ok (.iload_n 1, 1) := oq_27 (byt chX8_rich_0 0 rfl)
theorem dX8_rich_1 : decode cX8_rich 1 = .ok (.tableswitch 62 0 4 #[35, 40, 45, 51, 57], 35) := by decide +kernel
theorem dX8_rich_36 : decode cX8_rich 36 = .ok (.aload_n 0, 1) := oq_42 (byt chX8_rich_2 4 rfl)
theorem dX8_rich_37 : decode cX8_rich 37 = .ok (.invokestatic 98, 3) := oq_184 (byt chX8_rich_2 5 rfl) (byt chX8_rich_2 6 rfl) (byt chX8_rich_2 7 rfl) rfl
theorem dX8_rich_40 : decode cX8_rich 40 = .ok (.ireturn, 1) := oq_172 (byt chX8_rich_2 8 rfl)
theorem dX8_rich_41 : decode cX8_rich 41 = .ok (.aload_n 0, 1) := oq_42 (byt chX8_rich_2 9 rfl)
theorem dX8_rich_42 : decode cX8_rich 42 = .ok (.invokestatic 101, 3) := oq_184 (byt chX8_rich_2 10 rfl) (byt chX8_rich_2 11 rfl) (byt chX8_rich_2 12 rfl) rfl
theorem dX8_rich_45 : decode cX8_rich 45 = .ok (.ireturn, 1) := oq_172 (byt chX8_rich_2 13 rfl)
theorem dX8_rich_46 : decode cX8_rich 46 = .ok (.aload_n 0, 1) := oq_42 (byt chX8_rich_2 14 rfl)
theorem dX8_rich_47 : decode cX8_rich 47 = .ok (.iconst 0, 1) := oq_3 (byt chX8_rich_2 15 rfl)
theorem dX8_rich_48 : decode cX8_rich 48 = .ok (.invokestatic 104, 3) := oq_184 (byt chX8_rich_3 0 rfl) (byt chX8_rich_3 1 rfl) (byt chX8_rich_3 2 rfl) rfl
theorem dX8_rich_51 : decode cX8_rich 51 = .ok (.ireturn, 1) := oq_172 (byt chX8_rich_3 3 rfl)
theorem dX8_rich_52 : decode cX8_rich 52 = .ok (.aload_n 0, 1) := oq_42 (byt chX8_rich_3 4 rfl)
theorem dX8_rich_53 : decode cX8_rich 53 = .ok (.iconst 1, 1) := oq_4 (byt chX8_rich_3 5 rfl)
theorem dX8_rich_54 : decode cX8_rich 54 = .ok (.invokestatic 104, 3) := oq_184 (byt chX8_rich_3 6 rfl) (byt chX8_rich_3 7 rfl) (byt chX8_rich_3 8 rfl) rfl
theorem dX8_rich_57 : decode cX8_rich 57 = .ok (.ireturn, 1) := oq_172 (byt chX8_rich_3 9 rfl)
theorem dX8_rich_58 : decode cX8_rich 58 = .ok (.aload_n 0, 1) := oq_42 (byt chX8_rich_3 10 rfl)
theorem dX8_rich_59 : decode cX8_rich 59 = .ok (.invokestatic 108, 3) := oq_184 (byt chX8_rich_3 11 rfl) (byt chX8_rich_3 12 rfl) (byt chX8_rich_3 13 rfl) rfl
theorem dX8_rich_62 : decode cX8_rich 62 = .ok (.ireturn, 1) := oq_172 (byt chX8_rich_3 14 rfl)
theorem dX8_rich_63 : decode cX8_rich 63 = .ok (.iload_n 1, 1) := oq_27 (byt chX8_rich_3 15 rfl)
theorem dX8_rich_64 : decode cX8_rich 64 = .ok (.bipush 10, 2) := oq_16 (byt chX8_rich_4 0 rfl) (byt chX8_rich_4 1 rfl) rfl
theorem dX8_rich_66 : decode cX8_rich 66 = .ok (.if_icmp .lt 24, 3) := oq_161 (byt chX8_rich_4 2 rfl) (byt chX8_rich_4 3 rfl) (byt chX8_rich_4 4 rfl) (by decide +kernel)
theorem dX8_rich_69 : decode cX8_rich 69 = .ok (.iload_n 1, 1) := oq_27 (byt chX8_rich_4 5 rfl)
theorem dX8_rich_70 : decode cX8_rich 70 = .ok (.bipush 40, 2) := oq_16 (byt chX8_rich_4 6 rfl) (byt chX8_rich_4 7 rfl) rfl
theorem dX8_rich_72 : decode cX8_rich 72 = .ok (.if_icmp .ge 18, 3) := oq_162 (byt chX8_rich_4 8 rfl) (byt chX8_rich_4 9 rfl) (byt chX8_rich_4 10 rfl) (by decide +kernel)
theorem dX8_rich_75 : decode cX8_rich 75 = .ok (.aload_n 0, 1) := oq_42 (byt chX8_rich_4 11 rfl)
theorem dX8_rich_76 : decode cX8_rich 76 = .ok (.iload_n 1, 1) := oq_27 (byt chX8_rich_4 12 rfl)
theorem dX8_rich_77 : decode cX8_rich 77 = .ok (.bipush 10, 2) := oq_16 (byt chX8_rich_4 13 rfl) (byt chX8_rich_4 14 rfl) rfl
theorem dX8_rich_79 : decode cX8_rich 79 = .ok (.idiv, 1) := oq_108 (byt chX8_rich_4 15 rfl)
theorem dX8_rich_80 : decode cX8_rich 80 = .ok (.iload_n 1, 1) := oq_27 (byt chX8_rich_5 0 rfl)
theorem dX8_rich_81 : decode cX8_rich 81 = .ok (.bipush 10, 2) := oq_16 (byt chX8_rich_5 1 rfl) (byt chX8_rich_5 2 rfl) rfl
theorem dX8_rich_83 : decode cX8_rich 83 = .ok (.irem, 1) := oq_112 (byt chX8_rich_5 3 rfl)
theorem dX8_rich_84 : decode cX8_rich 84 = .ok (.invokestatic 111, 3) := oq_184 (byt chX8_rich_5 4 rfl) (byt chX8_rich_5 5 rfl) (byt chX8_rich_5 6 rfl) rfl
theorem dX8_rich_87 : decode cX8_rich 87 = .ok (.goto 6, 3) := oq_167 (byt chX8_rich_5 7 rfl) (byt chX8_rich_5 8 rfl) (byt chX8_rich_5 9 rfl) (by decide +kernel)
theorem dX8_rich_90 : decode cX8_rich 90 = .ok (.sipush (-1000), 3) := oq_17 (byt chX8_rich_5 10 rfl) (byt chX8_rich_5 11 rfl) (byt chX8_rich_5 12 rfl) (by decide +kernel)
theorem dX8_rich_93 : decode cX8_rich 93 = .ok (.ireturn, 1) := oq_172 (byt chX8_rich_5 13 rfl)
abbrev mX8_rich : MI := (yX8_rich, cX8_rich, 2, (some .int), noE)
theorem okX8_rich : cok mX8_rich 2 := ⟨tw1077, tw18, by decide, by decide, by decide, by decide +kernel⟩
def fX8_rich (M : Mem) (a0 a1 : Int) : Option Int :=
  if a1 = 0 then ((fX8_settle M a0).bind fun r2 => some r2) else if a1 = 1 then ((fX8_gap M a0).bind fun r5 => some r5) else if a1 = 2 then ((fX8_unlike M a0 0).bind fun r8 => some r8) else if a1 = 3 then ((fX8_unlike M a0 1).bind fun r11 => some r11) else if a1 = 4 then ((fX8_robbed M a0).bind fun r14 => some r14) else if a1 < 10 then (some (-1000)) else (if a1 < 40 then ((fX8_richOf M a0 (w32 (a1.tdiv 10)) (a1.tmod 10)).bind fun r18 => some r18) else (some (-1000)))
set_option maxRecDepth 100000 in
set_option maxHeartbeats 4000000 in
theorem kX8_rich (d : Nat) (hd : 6 ≤ d) (M : Mem) (a0 a1 : Int) : Ct mX8_rich d 0 0 [pA a0, pI a1] M (dI M) (fX8_rich M a0 a1) := by
  obtain ⟨d, rfl⟩ : ∃ k, d = k + 1 := ⟨d - 1, by omega⟩
  refine Ct.of 0 (fun _ _ _ => trivial) (by decide +kernel) rfl ?_
  unfold fX8_rich
  refine v_iload_n dX8_rich_0 rfl ?_
  refine v_ite (fun h1 => ?_) (fun h1 => ?_)
  · refine v_tabIn (off := 35) (tgt := 36) dX8_rich_1 h1 (by decide) ?_
    refine v_aload_n dX8_rich_36 rfl ?_
    refine v_cS (mi := mX8_rich) (c0 := 0) (c1 := 0) (As := [pA a0]) (st := []) (kX8_settle d (by omega) _ _) okX8_settle (Or.inl tw1078) tw1079 rfl (Nat.le_of_ble_eq_true rfl) dX8_rich_37 (fun r2 => [pI r2]) (fun r2 => M) (fun _ => rfl) (fun _ => rfl) (fun r2 h3 => ?_) rfl
    exact v_ireturn dX8_rich_40 rfl rfl
  · refine v_ite (fun h4 => ?_) (fun h4 => ?_)
    · refine v_tabIn (off := 40) (tgt := 41) dX8_rich_1 h4 (by decide) ?_
      refine v_aload_n dX8_rich_41 rfl ?_
      refine v_cS (mi := mX8_rich) (c0 := 0) (c1 := 0) (As := [pA a0]) (st := []) (kX8_gap d (by omega) _ _) okX8_gap (Or.inl tw1090) tw1091 rfl (Nat.le_of_ble_eq_true rfl) dX8_rich_42 (fun r5 => [pI r5]) (fun r5 => M) (fun _ => rfl) (fun _ => rfl) (fun r5 h6 => ?_) rfl
      exact v_ireturn dX8_rich_45 rfl rfl
    · refine v_ite (fun h7 => ?_) (fun h7 => ?_)
      · refine v_tabIn (off := 45) (tgt := 46) dX8_rich_1 h7 (by decide) ?_
        refine v_aload_n dX8_rich_46 rfl ?_
        refine v_iconst dX8_rich_47 (by decide) ?_
        refine v_cS (mi := mX8_rich) (c0 := 0) (c1 := 0) (As := [pA a0, pI 0]) (st := []) (kX8_unlike d (by omega) _ _ _) okX8_unlike (Or.inl tw1098) tw1099 rfl (Nat.le_of_ble_eq_true rfl) dX8_rich_48 (fun r8 => [pI r8]) (fun r8 => M) (fun _ => rfl) (fun _ => rfl) (fun r8 h9 => ?_) rfl
        exact v_ireturn dX8_rich_51 rfl rfl
      · refine v_ite (fun h10 => ?_) (fun h10 => ?_)
        · refine v_tabIn (off := 51) (tgt := 52) dX8_rich_1 h10 (by decide) ?_
          refine v_aload_n dX8_rich_52 rfl ?_
          refine v_iconst dX8_rich_53 (by decide) ?_
          refine v_cS (mi := mX8_rich) (c0 := 0) (c1 := 0) (As := [pA a0, pI 1]) (st := []) (kX8_unlike d (by omega) _ _ _) okX8_unlike (Or.inl tw1098) tw1099 rfl (Nat.le_of_ble_eq_true rfl) dX8_rich_54 (fun r11 => [pI r11]) (fun r11 => M) (fun _ => rfl) (fun _ => rfl) (fun r11 h12 => ?_) rfl
          exact v_ireturn dX8_rich_57 rfl rfl
        · refine v_ite (fun h13 => ?_) (fun h13 => ?_)
          · refine v_tabIn (off := 57) (tgt := 58) dX8_rich_1 h13 (by decide) ?_
            refine v_aload_n dX8_rich_58 rfl ?_
            refine v_cS (mi := mX8_rich) (c0 := 0) (c1 := 0) (As := [pA a0]) (st := []) (kX8_robbed d (by omega) _ _) okX8_robbed (Or.inl tw1103) tw1104 rfl (Nat.le_of_ble_eq_true rfl) dX8_rich_59 (fun r14 => [pI r14]) (fun r14 => M) (fun _ => rfl) (fun _ => rfl) (fun r14 h15 => ?_) rfl
            exact v_ireturn dX8_rich_62 rfl rfl
          · refine v_tabOut (tgt := 63) dX8_rich_1 (by omega) (by decide) ?_
            refine v_iload_n dX8_rich_63 rfl ?_
            refine v_bipush dX8_rich_64 (by decide) ?_
            refine v_icmp_lt (tgt := 90) dX8_rich_66 (by decide) (fun c16 => ?_) (fun c16 => ?_)
            · refine v_sipush dX8_rich_90 (by decide) ?_
              exact v_ireturn dX8_rich_93 rfl rfl
            · refine v_iload_n dX8_rich_69 rfl ?_
              refine v_bipush dX8_rich_70 (by decide) ?_
              refine v_icmp_ge (tgt := 90) dX8_rich_72 (by decide) (fun c17 => ?_) (fun c17 => ?_)
              · refine v_aload_n dX8_rich_75 rfl ?_
                refine v_iload_n dX8_rich_76 rfl ?_
                refine v_bipush dX8_rich_77 (by decide) ?_
                refine v_idiv (by decide) dX8_rich_79 ?_
                refine v_iload_n dX8_rich_80 rfl ?_
                refine v_bipush dX8_rich_81 (by decide) ?_
                refine v_irem (by decide) dX8_rich_83 ?_
                refine v_cS (mi := mX8_rich) (c0 := 0) (c1 := 0) (As := [pA a0, pI (w32 (a1.tdiv 10)), pI (a1.tmod 10)]) (st := []) (kX8_richOf d (by omega) _ _ _ _) okX8_richOf (Or.inl tw1106) tw1107 rfl (Nat.le_of_ble_eq_true rfl) dX8_rich_84 (fun r18 => [pI r18]) (fun r18 => M) (fun _ => rfl) (fun _ => rfl) (fun r18 h19 => ?_) rfl
                refine v_goto (tgt := 93) dX8_rich_87 (by decide) ?_
                exact v_ireturn dX8_rich_93 rfl rfl
              · refine v_sipush dX8_rich_90 (by decide) ?_
                exact v_ireturn dX8_rich_93 rfl rfl
theorem chX5_init_0 : (cX5_init.data.toList.drop 0).take 16 = [42, 183, 0, 3, 42, 16, 109, 188, 10, 181, 0, 11, 42, 16, 109, 188] := by decide +kernel
theorem chX5_init_1 : (cX5_init.data.toList.drop 16).take 16 = [10, 181, 0, 15, 177] := by decide +kernel
theorem dX5_init_0 : decode cX5_init 0 = .ok (.aload_n 0, 1) := oq_42 (byt chX5_init_0 0 rfl)
theorem dX5_init_1 : decode cX5_init 1 = .ok (.invokespecial 3, 3) := oq_183 (byt chX5_init_0 1 rfl) (byt chX5_init_0 2 rfl) (byt chX5_init_0 3 rfl) rfl
theorem dX5_init_4 : decode cX5_init 4 = .ok (.aload_n 0, 1) := oq_42 (byt chX5_init_0 4 rfl)
theorem dX5_init_5 : decode cX5_init 5 = .ok (.bipush 109, 2) := oq_16 (byt chX5_init_0 5 rfl) (byt chX5_init_0 6 rfl) rfl
theorem dX5_init_7 : decode cX5_init 7 = .ok (.newarray .int, 2) := by decide +kernel
theorem dX5_init_9 : decode cX5_init 9 = .ok (.putfield 11, 3) := oq_181 (byt chX5_init_0 9 rfl) (byt chX5_init_0 10 rfl) (byt chX5_init_0 11 rfl) rfl
theorem dX5_init_12 : decode cX5_init 12 = .ok (.aload_n 0, 1) := oq_42 (byt chX5_init_0 12 rfl)
theorem dX5_init_13 : decode cX5_init 13 = .ok (.bipush 109, 2) := oq_16 (byt chX5_init_0 13 rfl) (byt chX5_init_0 14 rfl) rfl
theorem dX5_init_15 : decode cX5_init 15 = .ok (.newarray .int, 2) := by decide +kernel
theorem dX5_init_17 : decode cX5_init 17 = .ok (.putfield 15, 3) := oq_181 (byt chX5_init_1 1 rfl) (byt chX5_init_1 2 rfl) (byt chX5_init_1 3 rfl) rfl
theorem dX5_init_20 : decode cX5_init 20 = .ok (.return_, 1) := oq_177 (byt chX5_init_1 4 rfl)
abbrev mX5_init : MI := (yX5_init, cX5_init, 1, none, noE)
theorem okX5_init : cok mX5_init 0 := ⟨tw388, tw9, by decide, by decide, by decide, by decide +kernel⟩
def fX5_init (M : Mem) (a0 : Int) : Option Mem :=
  if (0 : Int) ≤ a0 then bM (mnew M 12 109) fun M2 => if M2.2.1 a0 = 5 then if (-1 : Int) ≤ (M.2.2.2 : Int) then bM (mst M2 a0 0 (M.2.2.2 : Int)) fun M6 => bM (mnew M6 12 109) fun M8 => if M8.2.1 a0 = 5 then if (-1 : Int) ≤ (M6.2.2.2 : Int) then bM (mst M8 a0 1 (M6.2.2.2 : Int)) fun M12 => some M12 else none else none else none else none else none
set_option maxRecDepth 100000 in
set_option maxHeartbeats 4000000 in
theorem kX5_init (d : Nat) (hd : 1 ≤ d) (M : Mem) (a0 : Int) : Ct mX5_init d 2 218 [pA a0] M dV (fX5_init M a0) := by
  obtain ⟨d, rfl⟩ : ∃ k, d = k + 1 := ⟨d - 1, by omega⟩
  refine Ct.of 0 (fun _ _ _ => trivial) (by decide +kernel) rfl ?_
  unfold fX5_init
  refine v_aload_n dX5_init_0 rfl ?_
  refine v_if (fun h1 => ?_)
  refine v_objInit (mi := mX5_init) h1 tw389 tw26 tw27 (Nat.le_of_ble_eq_true rfl) dX5_init_1 ?_
  refine v_aload_n dX5_init_4 rfl ?_
  refine v_bipush dX5_init_5 (by decide) ?_
  refine v_newarray (t := .int) (n := 109) 12 (by decide) (by decide) tw121 dX5_init_7 ?_
  refine v_bM (fun M2 e3 => ?_)
  refine v_if (fun h4 => ?_)
  refine v_if (fun h5 => ?_)
  refine v_put (x := (M.2.2.2 : Int)) 5 0 rfl inX5 (by decide) tw390 (Or.inl rfl) rfl dX5_init_9 h4 rfl (fun _ => h5) ?_
  refine v_bM (fun M6 e7 => ?_)
  refine v_aload_n dX5_init_12 rfl ?_
  refine v_bipush dX5_init_13 (by decide) ?_
  refine v_newarray (t := .int) (n := 109) 12 (by decide) (by decide) tw121 dX5_init_15 ?_
  refine v_bM (fun M8 e9 => ?_)
  refine v_if (fun h10 => ?_)
  refine v_if (fun h11 => ?_)
  refine v_put (x := (M6.2.2.2 : Int)) 5 1 rfl inX5 (by decide) tw391 (Or.inl rfl) rfl dX5_init_17 h10 rfl (fun _ => h11) ?_
  refine v_bM (fun M12 e13 => ?_)
  exact v_return dX5_init_20 rfl rfl
theorem chX5_isAsked_0 : (cX5_isAsked.data.toList.drop 0).take 16 = [27, 155, 0, 8, 27, 5, 164, 0, 22, 27, 16, 10, 161, 0, 20, 27] := by decide +kernel
theorem chX5_isAsked_1 : (cX5_isAsked.data.toList.drop 16).take 16 = [16, 10, 8, 42, 180, 0, 18, 104, 96, 162, 0, 7, 4, 167, 0, 4] := by decide +kernel
theorem chX5_isAsked_2 : (cX5_isAsked.data.toList.drop 32).take 16 = [3, 172] := by decide +kernel
theorem dX5_isAsked_0 : decode cX5_isAsked 0 = .ok (.iload_n 1, 1) := oq_27 (byt chX5_isAsked_0 0 rfl)
theorem dX5_isAsked_1 : decode cX5_isAsked 1 = .ok (.ifCond .lt 8, 3) := oq_155 (byt chX5_isAsked_0 1 rfl) (byt chX5_isAsked_0 2 rfl) (byt chX5_isAsked_0 3 rfl) (by decide +kernel)
theorem dX5_isAsked_4 : decode cX5_isAsked 4 = .ok (.iload_n 1, 1) := oq_27 (byt chX5_isAsked_0 4 rfl)
theorem dX5_isAsked_5 : decode cX5_isAsked 5 = .ok (.iconst 2, 1) := oq_5 (byt chX5_isAsked_0 5 rfl)
theorem dX5_isAsked_6 : decode cX5_isAsked 6 = .ok (.if_icmp .le 22, 3) := oq_164 (byt chX5_isAsked_0 6 rfl) (byt chX5_isAsked_0 7 rfl) (byt chX5_isAsked_0 8 rfl) (by decide +kernel)
theorem dX5_isAsked_9 : decode cX5_isAsked 9 = .ok (.iload_n 1, 1) := oq_27 (byt chX5_isAsked_0 9 rfl)
theorem dX5_isAsked_10 : decode cX5_isAsked 10 = .ok (.bipush 10, 2) := oq_16 (byt chX5_isAsked_0 10 rfl) (byt chX5_isAsked_0 11 rfl) rfl
theorem dX5_isAsked_12 : decode cX5_isAsked 12 = .ok (.if_icmp .lt 20, 3) := oq_161 (byt chX5_isAsked_0 12 rfl) (byt chX5_isAsked_0 13 rfl) (byt chX5_isAsked_0 14 rfl) (by decide +kernel)
theorem dX5_isAsked_15 : decode cX5_isAsked 15 = .ok (.iload_n 1, 1) := oq_27 (byt chX5_isAsked_0 15 rfl)
theorem dX5_isAsked_16 : decode cX5_isAsked 16 = .ok (.bipush 10, 2) := oq_16 (byt chX5_isAsked_1 0 rfl) (byt chX5_isAsked_1 1 rfl) rfl
theorem dX5_isAsked_18 : decode cX5_isAsked 18 = .ok (.iconst 5, 1) := oq_8 (byt chX5_isAsked_1 2 rfl)
theorem dX5_isAsked_19 : decode cX5_isAsked 19 = .ok (.aload_n 0, 1) := oq_42 (byt chX5_isAsked_1 3 rfl)
theorem dX5_isAsked_20 : decode cX5_isAsked 20 = .ok (.getfield 18, 3) := oq_180 (byt chX5_isAsked_1 4 rfl) (byt chX5_isAsked_1 5 rfl) (byt chX5_isAsked_1 6 rfl) rfl
theorem dX5_isAsked_23 : decode cX5_isAsked 23 = .ok (.imul, 1) := oq_104 (byt chX5_isAsked_1 7 rfl)
theorem dX5_isAsked_24 : decode cX5_isAsked 24 = .ok (.iadd, 1) := oq_96 (byt chX5_isAsked_1 8 rfl)
theorem dX5_isAsked_25 : decode cX5_isAsked 25 = .ok (.if_icmp .ge 7, 3) := oq_162 (byt chX5_isAsked_1 9 rfl) (byt chX5_isAsked_1 10 rfl) (byt chX5_isAsked_1 11 rfl) (by decide +kernel)
theorem dX5_isAsked_28 : decode cX5_isAsked 28 = .ok (.iconst 1, 1) := oq_4 (byt chX5_isAsked_1 12 rfl)
theorem dX5_isAsked_29 : decode cX5_isAsked 29 = .ok (.goto 4, 3) := oq_167 (byt chX5_isAsked_1 13 rfl) (byt chX5_isAsked_1 14 rfl) (byt chX5_isAsked_1 15 rfl) (by decide +kernel)
theorem dX5_isAsked_32 : decode cX5_isAsked 32 = .ok (.iconst 0, 1) := oq_3 (byt chX5_isAsked_2 0 rfl)
theorem dX5_isAsked_33 : decode cX5_isAsked 33 = .ok (.ireturn, 1) := oq_172 (byt chX5_isAsked_2 1 rfl)
abbrev mX5_isAsked : MI := (yX5_isAsked, cX5_isAsked, 2, (some .boolean), noE)
theorem okX5_isAsked : cok mX5_isAsked 2 := ⟨tw856, tw9, by decide, by decide, by decide, by decide +kernel⟩
def fX5_isAsked (M : Mem) (a0 a1 : Int) : Option Int :=
  jn (fun (t2 : Unit) => if a1 < 10 then (some 0) else (if M.2.1 a0 = 7 then if a1 < w32 (10 + (w32 (5 * (M.1 a0 0)))) then (some 1) else (some 0) else none)) (fun (j1 : Unit → Option Int) => if a1 < 0 then (j1 ()) else (if 2 < a1 then (j1 ()) else (some 1)))
set_option maxRecDepth 100000 in
set_option maxHeartbeats 4000000 in
theorem kX5_isAsked (d : Nat) (hd : 0 ≤ d) (M : Mem) (a0 a1 : Int) : Ct mX5_isAsked d 0 0 [pA a0, pI a1] M (dI M) (fX5_isAsked M a0 a1) := by
  refine Ct.of 0 (fun _ _ _ => trivial) (by decide +kernel) rfl ?_
  unfold fX5_isAsked
  refine v_iload_n dX5_isAsked_0 rfl ?_
  refine v_join (fun (t2 : Unit) => [some (pA a0), some (pI a1)]) (fun (t2 : Unit) => []) (fun (t2 : Unit) => M) 9 (fun t2 => ?_) (fun j1 hj1 => ?_)
  · refine v_iload_n dX5_isAsked_9 rfl ?_
    refine v_bipush dX5_isAsked_10 (by decide) ?_
    refine v_icmp_lt (tgt := 32) dX5_isAsked_12 (by decide) (fun c3 => ?_) (fun c3 => ?_)
    · refine v_iconst dX5_isAsked_32 (by decide) ?_
      exact v_breturn dX5_isAsked_33 rfl (by decide) rfl
    · refine v_iload_n dX5_isAsked_15 rfl ?_
      refine v_bipush dX5_isAsked_16 (by decide) ?_
      refine v_iconst dX5_isAsked_18 (by decide) ?_
      refine v_aload_n dX5_isAsked_19 rfl ?_
      refine v_if (fun h4 => ?_)
      refine v_get (v := pI (M.1 a0 0)) 7 0 rfl inX7 (by decide) tw55 dX5_isAsked_20 h4 rfl ?_
      refine v_imul dX5_isAsked_23 ?_
      refine v_iadd dX5_isAsked_24 ?_
      refine v_icmp_ge (tgt := 32) dX5_isAsked_25 (by decide) (fun c5 => ?_) (fun c5 => ?_)
      · refine v_iconst dX5_isAsked_28 (by decide) ?_
        refine v_goto (tgt := 33) dX5_isAsked_29 (by decide) ?_
        exact v_breturn dX5_isAsked_33 rfl (by decide) rfl
      · refine v_iconst dX5_isAsked_32 (by decide) ?_
        exact v_breturn dX5_isAsked_33 rfl (by decide) rfl
  · refine v_if_lt (tgt := 9) dX5_isAsked_1 (by decide) (fun c6 => ?_) (fun c6 => ?_)
    · exact hj1 ()
    · refine v_iload_n dX5_isAsked_4 rfl ?_
      refine v_iconst dX5_isAsked_5 (by decide) ?_
      refine v_icmp_le (tgt := 28) dX5_isAsked_6 (by decide) (fun c7 => ?_) (fun c7 => ?_)
      · exact hj1 ()
      · refine v_iconst dX5_isAsked_28 (by decide) ?_
        refine v_goto (tgt := 33) dX5_isAsked_29 (by decide) ?_
        exact v_breturn dX5_isAsked_33 rfl (by decide) rfl
theorem chX5_isEnough_0 : (cX5_isEnough.data.toList.drop 0).take 16 = [3, 60, 27, 8, 162, 0, 24, 42, 27, 182, 0, 24, 42, 27, 182, 0] := by decide +kernel
theorem chX5_isEnough_1 : (cX5_isEnough.data.toList.drop 16).take 16 = [28, 162, 0, 5, 3, 172, 132, 1, 1, 167, 255, 233, 4, 172] := by decide +kernel
theorem dX5_isEnough_0 : decode cX5_isEnough 0 = .ok (.iconst 0, 1) := oq_3 (byt chX5_isEnough_0 0 rfl)
theorem dX5_isEnough_1 : decode cX5_isEnough 1 = .ok (.istore_n 1, 1) := oq_60 (byt chX5_isEnough_0 1 rfl)
theorem dX5_isEnough_2 : decode cX5_isEnough 2 = .ok (.iload_n 1, 1) := oq_27 (byt chX5_isEnough_0 2 rfl)
theorem dX5_isEnough_3 : decode cX5_isEnough 3 = .ok (.iconst 5, 1) := oq_8 (byt chX5_isEnough_0 3 rfl)
theorem dX5_isEnough_4 : decode cX5_isEnough 4 = .ok (.if_icmp .ge 24, 3) := oq_162 (byt chX5_isEnough_0 4 rfl) (byt chX5_isEnough_0 5 rfl) (byt chX5_isEnough_0 6 rfl) (by decide +kernel)
theorem dX5_isEnough_7 : decode cX5_isEnough 7 = .ok (.aload_n 0, 1) := oq_42 (byt chX5_isEnough_0 7 rfl)
theorem dX5_isEnough_8 : decode cX5_isEnough 8 = .ok (.iload_n 1, 1) := oq_27 (byt chX5_isEnough_0 8 rfl)
theorem dX5_isEnough_9 : decode cX5_isEnough 9 = .ok (.invokevirtual 24, 3) := oq_182 (byt chX5_isEnough_0 9 rfl) (byt chX5_isEnough_0 10 rfl) (byt chX5_isEnough_0 11 rfl) rfl
theorem dX5_isEnough_12 : decode cX5_isEnough 12 = .ok (.aload_n 0, 1) := oq_42 (byt chX5_isEnough_0 12 rfl)
theorem dX5_isEnough_13 : decode cX5_isEnough 13 = .ok (.iload_n 1, 1) := oq_27 (byt chX5_isEnough_0 13 rfl)
theorem dX5_isEnough_14 : decode cX5_isEnough 14 = .ok (.invokevirtual 28, 3) := oq_182 (byt chX5_isEnough_0 14 rfl) (byt chX5_isEnough_0 15 rfl) (byt chX5_isEnough_1 0 rfl) rfl
theorem dX5_isEnough_17 : decode cX5_isEnough 17 = .ok (.if_icmp .ge 5, 3) := oq_162 (byt chX5_isEnough_1 1 rfl) (byt chX5_isEnough_1 2 rfl) (byt chX5_isEnough_1 3 rfl) (by decide +kernel)
theorem dX5_isEnough_20 : decode cX5_isEnough 20 = .ok (.iconst 0, 1) := oq_3 (byt chX5_isEnough_1 4 rfl)
theorem dX5_isEnough_21 : decode cX5_isEnough 21 = .ok (.ireturn, 1) := oq_172 (byt chX5_isEnough_1 5 rfl)
theorem dX5_isEnough_22 : decode cX5_isEnough 22 = .ok (.iinc 1 1, 3) := oq_132 (byt chX5_isEnough_1 6 rfl) (byt chX5_isEnough_1 7 rfl) (byt chX5_isEnough_1 8 rfl) rfl
theorem dX5_isEnough_25 : decode cX5_isEnough 25 = .ok (.goto (-23), 3) := oq_167 (byt chX5_isEnough_1 9 rfl) (byt chX5_isEnough_1 10 rfl) (byt chX5_isEnough_1 11 rfl) (by decide +kernel)
theorem dX5_isEnough_28 : decode cX5_isEnough 28 = .ok (.iconst 1, 1) := oq_4 (byt chX5_isEnough_1 12 rfl)
theorem dX5_isEnough_29 : decode cX5_isEnough 29 = .ok (.ireturn, 1) := oq_172 (byt chX5_isEnough_1 13 rfl)
abbrev mX5_isEnough : MI := (yX5_isEnough, cX5_isEnough, 2, (some .boolean), noE)
theorem okX5_isEnough : cok mX5_isEnough 1 := ⟨tw859, tw9, by decide, by decide, by decide, by decide +kernel⟩
def fX5_isEnough (M : Mem) (a0 : Int) : Option Int :=
  iterC (fun (rec1 : Int → Option Int) (s2 : Int) => if s2 < 5 then (if M.2.1 a0 = 7 then (fX7_spareOfAll M a0 s2).bind fun r4 => (fX7_lackOfAll M a0 s2).bind fun r7 => if r4 < r7 then (some 0) else (rec1 (w32 (s2 + 1))) else none) else (some 1)) BIG 0
set_option maxRecDepth 100000 in
set_option maxHeartbeats 4000000 in
theorem kX5_isEnough (d : Nat) (hd : 3 ≤ d) (M : Mem) (a0 : Int) : Ct mX5_isEnough d 0 0 [pA a0] M (dI M) (fX5_isEnough M a0) := by
  obtain ⟨d, rfl⟩ : ∃ k, d = k + 1 := ⟨d - 1, by omega⟩
  refine Ct.of 1 (fun _ _ _ => trivial) (by decide +kernel) rfl ?_
  unfold fX5_isEnough
  refine v_iconst dX5_isEnough_0 (by decide) ?_
  refine v_istore_n (ls' := [some (pA a0), some (pI 0)]) dX5_isEnough_1 (by decide) rfl ?_
  refine v_loop (fun (s2 : Int) => [some (pA a0), some (pI s2)]) (fun (s2 : Int) => M) (s0 := 0) ?_
  intro rec1 hrec1 s2
  refine v_iload_n dX5_isEnough_2 rfl ?_
  refine v_iconst dX5_isEnough_3 (by decide) ?_
  refine v_icmp_ge (tgt := 28) dX5_isEnough_4 (by decide) (fun c3 => ?_) (fun c3 => ?_)
  · refine v_aload_n dX5_isEnough_7 rfl ?_
    refine v_iload_n dX5_isEnough_8 rfl ?_
    refine v_if (fun h6 => ?_)
    refine v_cV (mi := mX5_isEnough) (c0 := 0) (c1 := 0) (As := [pI s2]) (st := []) (kX7_spareOfAll d (by omega) _ _ _) rfl h6 rfl okX7_spareOfAll (Or.inl tw860) tw861 tw862 rfl (Nat.le_of_ble_eq_true rfl) dX5_isEnough_9 (fun r4 => [pI r4]) (fun r4 => M) (fun _ => rfl) (fun _ => rfl) (fun r4 h5 => ?_) rfl
    refine v_aload_n dX5_isEnough_12 rfl ?_
    refine v_iload_n dX5_isEnough_13 rfl ?_
    refine v_cV (mi := mX5_isEnough) (c0 := 0) (c1 := 0) (As := [pI s2]) (st := [pI r4]) (kX7_lackOfAll d (by omega) _ _ _) rfl h6 rfl okX7_lackOfAll (Or.inl tw865) tw866 tw867 rfl (Nat.le_of_ble_eq_true rfl) dX5_isEnough_14 (fun r7 => [pI r7, pI r4]) (fun r7 => M) (fun _ => rfl) (fun _ => rfl) (fun r7 h8 => ?_) rfl
    refine v_icmp_ge (tgt := 22) dX5_isEnough_17 (by decide) (fun c9 => ?_) (fun c9 => ?_)
    · refine v_iconst dX5_isEnough_20 (by decide) ?_
      exact v_breturn dX5_isEnough_21 rfl (by decide) rfl
    · refine v_iinc (ls' := [some (pA a0), some (pI (w32 (s2 + 1)))]) dX5_isEnough_22 (by decide) rfl rfl ?_
      refine v_goto (tgt := 2) dX5_isEnough_25 (by decide) ?_
      exact hrec1 (w32 (s2 + 1))
  · refine v_iconst dX5_isEnough_28 (by decide) ?_
    exact v_breturn dX5_isEnough_29 rfl (by decide) rfl
theorem chX5_takenFrom_0 : (cX5_takenFrom.data.toList.drop 0).take 16 = [42, 28, 182, 0, 28, 62, 3, 54, 4, 21, 4, 42, 180, 0, 18, 162] := by decide +kernel
theorem chX5_takenFrom_1 : (cX5_takenFrom.data.toList.drop 16).take 16 = [0, 69, 42, 180, 0, 35, 21, 4, 46, 42, 180, 0, 35, 27, 46, 161] := by decide +kernel
theorem chX5_takenFrom_2 : (cX5_takenFrom.data.toList.drop 32).take 16 = [0, 25, 42, 180, 0, 35, 21, 4, 46, 42, 180, 0, 35, 27, 46, 160] := by decide +kernel
theorem chX5_takenFrom_3 : (cX5_takenFrom.data.toList.drop 48).take 16 = [0, 13, 21, 4, 27, 162, 0, 7, 4, 167, 0, 4, 3, 54, 5, 21] := by decide +kernel
theorem chX5_takenFrom_4 : (cX5_takenFrom.data.toList.drop 64).take 16 = [5, 153, 0, 13, 29, 42, 21, 4, 28, 182, 0, 46, 100, 62, 132, 4] := by decide +kernel
theorem chX5_takenFrom_5 : (cX5_takenFrom.data.toList.drop 80).take 16 = [1, 167, 255, 184, 3, 29, 42, 27, 28, 182, 0, 46, 184, 0, 49, 184] := by decide +kernel
theorem chX5_takenFrom_6 : (cX5_takenFrom.data.toList.drop 96).take 16 = [0, 54, 172] := by decide +kernel
theorem dX5_takenFrom_0 : decode cX5_takenFrom 0 = .ok (.aload_n 0, 1) := oq_42 (byt chX5_takenFrom_0 0 rfl)
theorem dX5_takenFrom_1 : decode cX5_takenFrom 1 = .ok (.iload_n 2, 1) := oq_28 (byt chX5_takenFrom_0 1 rfl)
theorem dX5_takenFrom_2 : decode cX5_takenFrom 2 = .ok (.invokevirtual 28, 3) := oq_182 (byt chX5_takenFrom_0 2 rfl) (byt chX5_takenFrom_0 3 rfl) (byt chX5_takenFrom_0 4 rfl) rfl
theorem dX5_takenFrom_5 : decode cX5_takenFrom 5 = .ok (.istore_n 3, 1) := oq_62 (byt chX5_takenFrom_0 5 rfl)
theorem dX5_takenFrom_6 : decode cX5_takenFrom 6 = .ok (.iconst 0, 1) := oq_3 (byt chX5_takenFrom_0 6 rfl)
theorem dX5_takenFrom_7 : decode cX5_takenFrom 7 = .ok (.istore 4, 2) := oq_54 (byt chX5_takenFrom_0 7 rfl) (byt chX5_takenFrom_0 8 rfl) rfl
theorem dX5_takenFrom_9 : decode cX5_takenFrom 9 = .ok (.iload 4, 2) := oq_21 (byt chX5_takenFrom_0 9 rfl) (byt chX5_takenFrom_0 10 rfl) rfl
theorem dX5_takenFrom_11 : decode cX5_takenFrom 11 = .ok (.aload_n 0, 1) := oq_42 (byt chX5_takenFrom_0 11 rfl)
theorem dX5_takenFrom_12 : decode cX5_takenFrom 12 = .ok (.getfield 18, 3) := oq_180 (byt chX5_takenFrom_0 12 rfl) (byt chX5_takenFrom_0 13 rfl) (byt chX5_takenFrom_0 14 rfl) rfl
theorem dX5_takenFrom_15 : decode cX5_takenFrom 15 = .ok (.if_icmp .ge 69, 3) := oq_162 (byt chX5_takenFrom_0 15 rfl) (byt chX5_takenFrom_1 0 rfl) (byt chX5_takenFrom_1 1 rfl) (by decide +kernel)
theorem dX5_takenFrom_18 : decode cX5_takenFrom 18 = .ok (.aload_n 0, 1) := oq_42 (byt chX5_takenFrom_1 2 rfl)
theorem dX5_takenFrom_19 : decode cX5_takenFrom 19 = .ok (.getfield 35, 3) := oq_180 (byt chX5_takenFrom_1 3 rfl) (byt chX5_takenFrom_1 4 rfl) (byt chX5_takenFrom_1 5 rfl) rfl
theorem dX5_takenFrom_22 : decode cX5_takenFrom 22 = .ok (.iload 4, 2) := oq_21 (byt chX5_takenFrom_1 6 rfl) (byt chX5_takenFrom_1 7 rfl) rfl
theorem dX5_takenFrom_24 : decode cX5_takenFrom 24 = .ok (.iaload, 1) := oq_46 (byt chX5_takenFrom_1 8 rfl)
theorem dX5_takenFrom_25 : decode cX5_takenFrom 25 = .ok (.aload_n 0, 1) := oq_42 (byt chX5_takenFrom_1 9 rfl)
theorem dX5_takenFrom_26 : decode cX5_takenFrom 26 = .ok (.getfield 35, 3) := oq_180 (byt chX5_takenFrom_1 10 rfl) (byt chX5_takenFrom_1 11 rfl) (byt chX5_takenFrom_1 12 rfl) rfl
theorem dX5_takenFrom_29 : decode cX5_takenFrom 29 = .ok (.iload_n 1, 1) := oq_27 (byt chX5_takenFrom_1 13 rfl)
theorem dX5_takenFrom_30 : decode cX5_takenFrom 30 = .ok (.iaload, 1) := oq_46 (byt chX5_takenFrom_1 14 rfl)
theorem dX5_takenFrom_31 : decode cX5_takenFrom 31 = .ok (.if_icmp .lt 25, 3) := oq_161 (byt chX5_takenFrom_1 15 rfl) (byt chX5_takenFrom_2 0 rfl) (byt chX5_takenFrom_2 1 rfl) (by decide +kernel)
theorem dX5_takenFrom_34 : decode cX5_takenFrom 34 = .ok (.aload_n 0, 1) := oq_42 (byt chX5_takenFrom_2 2 rfl)
theorem dX5_takenFrom_35 : decode cX5_takenFrom 35 = .ok (.getfield 35, 3) := oq_180 (byt chX5_takenFrom_2 3 rfl) (byt chX5_takenFrom_2 4 rfl) (byt chX5_takenFrom_2 5 rfl) rfl
theorem dX5_takenFrom_38 : decode cX5_takenFrom 38 = .ok (.iload 4, 2) := oq_21 (byt chX5_takenFrom_2 6 rfl) (byt chX5_takenFrom_2 7 rfl) rfl
theorem dX5_takenFrom_40 : decode cX5_takenFrom 40 = .ok (.iaload, 1) := oq_46 (byt chX5_takenFrom_2 8 rfl)
theorem dX5_takenFrom_41 : decode cX5_takenFrom 41 = .ok (.aload_n 0, 1) := oq_42 (byt chX5_takenFrom_2 9 rfl)
theorem dX5_takenFrom_42 : decode cX5_takenFrom 42 = .ok (.getfield 35, 3) := oq_180 (byt chX5_takenFrom_2 10 rfl) (byt chX5_takenFrom_2 11 rfl) (byt chX5_takenFrom_2 12 rfl) rfl
theorem dX5_takenFrom_45 : decode cX5_takenFrom 45 = .ok (.iload_n 1, 1) := oq_27 (byt chX5_takenFrom_2 13 rfl)
theorem dX5_takenFrom_46 : decode cX5_takenFrom 46 = .ok (.iaload, 1) := oq_46 (byt chX5_takenFrom_2 14 rfl)
theorem dX5_takenFrom_47 : decode cX5_takenFrom 47 = .ok (.if_icmp .ne 13, 3) := oq_160 (byt chX5_takenFrom_2 15 rfl) (byt chX5_takenFrom_3 0 rfl) (byt chX5_takenFrom_3 1 rfl) (by decide +kernel)
theorem dX5_takenFrom_50 : decode cX5_takenFrom 50 = .ok (.iload 4, 2) := oq_21 (byt chX5_takenFrom_3 2 rfl) (byt chX5_takenFrom_3 3 rfl) rfl
theorem dX5_takenFrom_52 : decode cX5_takenFrom 52 = .ok (.iload_n 1, 1) := oq_27 (byt chX5_takenFrom_3 4 rfl)
theorem dX5_takenFrom_53 : decode cX5_takenFrom 53 = .ok (.if_icmp .ge 7, 3) := oq_162 (byt chX5_takenFrom_3 5 rfl) (byt chX5_takenFrom_3 6 rfl) (byt chX5_takenFrom_3 7 rfl) (by decide +kernel)
theorem dX5_takenFrom_56 : decode cX5_takenFrom 56 = .ok (.iconst 1, 1) := oq_4 (byt chX5_takenFrom_3 8 rfl)
theorem dX5_takenFrom_57 : decode cX5_takenFrom 57 = .ok (.goto 4, 3) := oq_167 (byt chX5_takenFrom_3 9 rfl) (byt chX5_takenFrom_3 10 rfl) (byt chX5_takenFrom_3 11 rfl) (by decide +kernel)
theorem dX5_takenFrom_60 : decode cX5_takenFrom 60 = .ok (.iconst 0, 1) := oq_3 (byt chX5_takenFrom_3 12 rfl)
theorem dX5_takenFrom_61 : decode cX5_takenFrom 61 = .ok (.istore 5, 2) := oq_54 (byt chX5_takenFrom_3 13 rfl) (byt chX5_takenFrom_3 14 rfl) rfl
theorem dX5_takenFrom_63 : decode cX5_takenFrom 63 = .ok (.iload 5, 2) := oq_21 (byt chX5_takenFrom_3 15 rfl) (byt chX5_takenFrom_4 0 rfl) rfl
theorem dX5_takenFrom_65 : decode cX5_takenFrom 65 = .ok (.ifCond .eq 13, 3) := oq_153 (byt chX5_takenFrom_4 1 rfl) (byt chX5_takenFrom_4 2 rfl) (byt chX5_takenFrom_4 3 rfl) (by decide +kernel)
theorem dX5_takenFrom_68 : decode cX5_takenFrom 68 = .ok (.iload_n 3, 1) := oq_29 (byt chX5_takenFrom_4 4 rfl)
theorem dX5_takenFrom_69 : decode cX5_takenFrom 69 = .ok (.aload_n 0, 1) := oq_42 (byt chX5_takenFrom_4 5 rfl)
theorem dX5_takenFrom_70 : decode cX5_takenFrom 70 = .ok (.iload 4, 2) := oq_21 (byt chX5_takenFrom_4 6 rfl) (byt chX5_takenFrom_4 7 rfl) rfl
theorem dX5_takenFrom_72 : decode cX5_takenFrom 72 = .ok (.iload_n 2, 1) := oq_28 (byt chX5_takenFrom_4 8 rfl)
theorem dX5_takenFrom_73 : decode cX5_takenFrom 73 = .ok (.invokevirtual 46, 3) := oq_182 (byt chX5_takenFrom_4 9 rfl) (byt chX5_takenFrom_4 10 rfl) (byt chX5_takenFrom_4 11 rfl) rfl
theorem dX5_takenFrom_76 : decode cX5_takenFrom 76 = .ok (.isub, 1) := oq_100 (byt chX5_takenFrom_4 12 rfl)
theorem dX5_takenFrom_77 : decode cX5_takenFrom 77 = .ok (.istore_n 3, 1) := oq_62 (byt chX5_takenFrom_4 13 rfl)
theorem dX5_takenFrom_78 : decode cX5_takenFrom 78 = .ok (.iinc 4 1, 3) := oq_132 (byt chX5_takenFrom_4 14 rfl) (byt chX5_takenFrom_4 15 rfl) (byt chX5_takenFrom_5 0 rfl) rfl
theorem dX5_takenFrom_81 : decode cX5_takenFrom 81 = .ok (.goto (-72), 3) := oq_167 (byt chX5_takenFrom_5 1 rfl) (byt chX5_takenFrom_5 2 rfl) (byt chX5_takenFrom_5 3 rfl) (by decide +kernel)
theorem dX5_takenFrom_84 : decode cX5_takenFrom 84 = .ok (.iconst 0, 1) := oq_3 (byt chX5_takenFrom_5 4 rfl)
theorem dX5_takenFrom_85 : decode cX5_takenFrom 85 = .ok (.iload_n 3, 1) := oq_29 (byt chX5_takenFrom_5 5 rfl)
theorem dX5_takenFrom_86 : decode cX5_takenFrom 86 = .ok (.aload_n 0, 1) := oq_42 (byt chX5_takenFrom_5 6 rfl)
theorem dX5_takenFrom_87 : decode cX5_takenFrom 87 = .ok (.iload_n 1, 1) := oq_27 (byt chX5_takenFrom_5 7 rfl)
theorem dX5_takenFrom_88 : decode cX5_takenFrom 88 = .ok (.iload_n 2, 1) := oq_28 (byt chX5_takenFrom_5 8 rfl)
theorem dX5_takenFrom_89 : decode cX5_takenFrom 89 = .ok (.invokevirtual 46, 3) := oq_182 (byt chX5_takenFrom_5 9 rfl) (byt chX5_takenFrom_5 10 rfl) (byt chX5_takenFrom_5 11 rfl) rfl
theorem dX5_takenFrom_92 : decode cX5_takenFrom 92 = .ok (.invokestatic 49, 3) := oq_184 (byt chX5_takenFrom_5 12 rfl) (byt chX5_takenFrom_5 13 rfl) (byt chX5_takenFrom_5 14 rfl) rfl
theorem dX5_takenFrom_95 : decode cX5_takenFrom 95 = .ok (.invokestatic 54, 3) := oq_184 (byt chX5_takenFrom_5 15 rfl) (byt chX5_takenFrom_6 0 rfl) (byt chX5_takenFrom_6 1 rfl) rfl
theorem dX5_takenFrom_98 : decode cX5_takenFrom 98 = .ok (.ireturn, 1) := oq_172 (byt chX5_takenFrom_6 2 rfl)
abbrev mX5_takenFrom : MI := (yX5_takenFrom, cX5_takenFrom, 6, (some .int), noE)
theorem okX5_takenFrom : cok mX5_takenFrom 3 := ⟨tw875, tw9, by decide, by decide, by decide, by decide +kernel⟩
def fX5_takenFrom (M : Mem) (a0 a1 a2 : Int) : Option Int :=
  if M.2.1 a0 = 7 then (fX7_lackOfAll M a0 a2).bind fun r1 => iterC (fun (rec4 : (Int × Int) → Option Int) (s5 : Int × Int) => if s5.2 < M.1 a0 0 then (if M.2.1 (M.1 a0 4) = 12 ∧ (0 : Int) ≤ s5.2 ∧ s5.2 < M.2.2.1 (M.1 a0 4) then if M.2.1 (M.1 a0 4) = 12 ∧ (0 : Int) ≤ a1 ∧ a1 < M.2.2.1 (M.1 a0 4) then jn (fun (t10 : Int) => if t10 = 0 then (rec4 (s5.1, w32 (s5.2 + 1))) else ((fX7_spareOf M a0 s5.2 a2).bind fun r12 => rec4 (w32 (s5.1 - r12), w32 (s5.2 + 1)))) (fun (j9 : Int → Option Int) => jn (fun (t15 : Unit) => j9 1) (fun (j14 : Unit → Option Int) => if M.1 (M.1 a0 4) s5.2 < M.1 (M.1 a0 4) a1 then (j14 ()) else (if M.2.1 (M.1 a0 4) = 12 ∧ (0 : Int) ≤ s5.2 ∧ s5.2 < M.2.2.1 (M.1 a0 4) then if M.2.1 (M.1 a0 4) = 12 ∧ (0 : Int) ≤ a1 ∧ a1 < M.2.2.1 (M.1 a0 4) then jn (fun (t20 : Unit) => j9 0) (fun (j19 : Unit → Option Int) => if M.1 (M.1 a0 4) s5.2 = M.1 (M.1 a0 4) a1 then (if s5.2 < a1 then (j14 ()) else (j19 ())) else (j19 ())) else none else none))) else none else none) else ((fX7_spareOf M a0 a1 a2).bind fun r23 => some (imax 0 (imin s5.1 r23)))) BIG (r1, 0) else none
set_option maxRecDepth 100000 in
set_option maxHeartbeats 4000000 in
theorem kX5_takenFrom (d : Nat) (hd : 3 ≤ d) (M : Mem) (a0 a1 a2 : Int) : Ct mX5_takenFrom d 0 0 [pA a0, pI a1, pI a2] M (dI M) (fX5_takenFrom M a0 a1 a2) := by
  obtain ⟨d, rfl⟩ : ∃ k, d = k + 1 := ⟨d - 1, by omega⟩
  refine Ct.of 3 (fun _ _ _ => trivial) (by decide +kernel) rfl ?_
  unfold fX5_takenFrom
  refine v_aload_n dX5_takenFrom_0 rfl ?_
  refine v_iload_n dX5_takenFrom_1 rfl ?_
  refine v_if (fun h3 => ?_)
  refine v_cV (mi := mX5_takenFrom) (c0 := 0) (c1 := 0) (As := [pI a2]) (st := []) (kX7_lackOfAll d (by omega) _ _ _) rfl h3 rfl okX7_lackOfAll (Or.inl tw865) tw866 tw867 rfl (Nat.le_of_ble_eq_true rfl) dX5_takenFrom_2 (fun r1 => [pI r1]) (fun r1 => M) (fun _ => rfl) (fun _ => rfl) (fun r1 h2 => ?_) rfl
  refine v_istore_n (ls' := [some (pA a0), some (pI a1), some (pI a2), some (pI r1), none, none]) dX5_takenFrom_5 (by decide) rfl ?_
  refine v_iconst dX5_takenFrom_6 (by decide) ?_
  refine v_istore (ls' := [some (pA a0), some (pI a1), some (pI a2), some (pI r1), some (pI 0), none]) dX5_takenFrom_7 (by decide) rfl ?_
  refine v_loop (fun (s5 : Int × Int) => [some (pA a0), some (pI a1), some (pI a2), some (pI s5.1), some (pI s5.2), none]) (fun (s5 : Int × Int) => M) (s0 := (r1, 0)) ?_
  intro rec4 hrec4 s5
  refine v_iload dX5_takenFrom_9 rfl ?_
  refine v_aload_n dX5_takenFrom_11 rfl ?_
  refine v_get (v := pI (M.1 a0 0)) 7 0 rfl inX7 (by decide) tw55 dX5_takenFrom_12 h3 rfl ?_
  refine v_icmp_ge (tgt := 84) dX5_takenFrom_15 (by decide) (fun c6 => ?_) (fun c6 => ?_)
  · refine v_aload_n dX5_takenFrom_18 rfl ?_
    refine v_get (v := pA (M.1 a0 4)) 7 4 rfl inX7 (by decide) tw77 dX5_takenFrom_19 h3 rfl ?_
    refine v_iload dX5_takenFrom_22 rfl ?_
    refine v_if (fun h7 => ?_)
    refine v_iaload h7 dX5_takenFrom_24 ?_
    refine v_aload_n dX5_takenFrom_25 rfl ?_
    refine v_get (v := pA (M.1 a0 4)) 7 4 rfl inX7 (by decide) tw77 dX5_takenFrom_26 h3 rfl ?_
    refine v_iload_n dX5_takenFrom_29 rfl ?_
    refine v_if (fun h8 => ?_)
    refine v_iaload h8 dX5_takenFrom_30 ?_
    refine v_join (fun (t10 : Int) => [some (pA a0), some (pI a1), some (pI a2), some (pI s5.1), some (pI s5.2), none]) (fun (t10 : Int) => [pI t10]) (fun (t10 : Int) => M) 61 (fun t10 => ?_) (fun j9 hj9 => ?_)
    · refine v_istore (ls' := [some (pA a0), some (pI a1), some (pI a2), some (pI s5.1), some (pI s5.2), some (pI t10)]) dX5_takenFrom_61 (by decide) rfl ?_
      refine v_iload dX5_takenFrom_63 rfl ?_
      refine v_if_eq (tgt := 78) dX5_takenFrom_65 (by decide) (fun c11 => ?_) (fun c11 => ?_)
      · refine v_iinc (ls' := [some (pA a0), some (pI a1), some (pI a2), some (pI s5.1), some (pI (w32 (s5.2 + 1))), some (pI t10)]) dX5_takenFrom_78 (by decide) rfl rfl ?_
        refine v_goto (tgt := 9) dX5_takenFrom_81 (by decide) ?_
        exact v_drop [some (pA a0), some (pI a1), some (pI a2), some (pI s5.1), some (pI (w32 (s5.2 + 1))), none] (ls_s (ls_s (ls_s (ls_s (ls_s (ls_n ls_e)))))) (hrec4 (s5.1, w32 (s5.2 + 1)))
      · refine v_iload_n dX5_takenFrom_68 rfl ?_
        refine v_aload_n dX5_takenFrom_69 rfl ?_
        refine v_iload dX5_takenFrom_70 rfl ?_
        refine v_iload_n dX5_takenFrom_72 rfl ?_
        refine v_cV (mi := mX5_takenFrom) (c0 := 0) (c1 := 0) (As := [pI s5.2, pI a2]) (st := [pI s5.1]) (kX7_spareOf d (by omega) _ _ _ _) rfl h3 rfl okX7_spareOf (Or.inl tw876) tw701 tw702 rfl (Nat.le_of_ble_eq_true rfl) dX5_takenFrom_73 (fun r12 => [pI r12, pI s5.1]) (fun r12 => M) (fun _ => rfl) (fun _ => rfl) (fun r12 h13 => ?_) rfl
        refine v_isub dX5_takenFrom_76 ?_
        refine v_istore_n (ls' := [some (pA a0), some (pI a1), some (pI a2), some (pI (w32 (s5.1 - r12))), some (pI s5.2), some (pI t10)]) dX5_takenFrom_77 (by decide) rfl ?_
        refine v_iinc (ls' := [some (pA a0), some (pI a1), some (pI a2), some (pI (w32 (s5.1 - r12))), some (pI (w32 (s5.2 + 1))), some (pI t10)]) dX5_takenFrom_78 (by decide) rfl rfl ?_
        refine v_goto (tgt := 9) dX5_takenFrom_81 (by decide) ?_
        exact v_drop [some (pA a0), some (pI a1), some (pI a2), some (pI (w32 (s5.1 - r12))), some (pI (w32 (s5.2 + 1))), none] (ls_s (ls_s (ls_s (ls_s (ls_s (ls_n ls_e)))))) (hrec4 (w32 (s5.1 - r12), w32 (s5.2 + 1)))
    · refine v_join (fun (t15 : Unit) => [some (pA a0), some (pI a1), some (pI a2), some (pI s5.1), some (pI s5.2), none]) (fun (t15 : Unit) => []) (fun (t15 : Unit) => M) 56 (fun t15 => ?_) (fun j14 hj14 => ?_)
      · refine v_iconst dX5_takenFrom_56 (by decide) ?_
        refine v_goto (tgt := 61) dX5_takenFrom_57 (by decide) ?_
        exact hj9 1
      · refine v_icmp_lt (tgt := 56) dX5_takenFrom_31 (by decide) (fun c16 => ?_) (fun c16 => ?_)
        · exact hj14 ()
        · refine v_aload_n dX5_takenFrom_34 rfl ?_
          refine v_get (v := pA (M.1 a0 4)) 7 4 rfl inX7 (by decide) tw77 dX5_takenFrom_35 h3 rfl ?_
          refine v_iload dX5_takenFrom_38 rfl ?_
          refine v_if (fun h17 => ?_)
          refine v_iaload h17 dX5_takenFrom_40 ?_
          refine v_aload_n dX5_takenFrom_41 rfl ?_
          refine v_get (v := pA (M.1 a0 4)) 7 4 rfl inX7 (by decide) tw77 dX5_takenFrom_42 h3 rfl ?_
          refine v_iload_n dX5_takenFrom_45 rfl ?_
          refine v_if (fun h18 => ?_)
          refine v_iaload h18 dX5_takenFrom_46 ?_
          refine v_join (fun (t20 : Unit) => [some (pA a0), some (pI a1), some (pI a2), some (pI s5.1), some (pI s5.2), none]) (fun (t20 : Unit) => []) (fun (t20 : Unit) => M) 60 (fun t20 => ?_) (fun j19 hj19 => ?_)
          · refine v_iconst dX5_takenFrom_60 (by decide) ?_
            exact hj9 0
          · refine v_icmp_ne (tgt := 60) dX5_takenFrom_47 (by decide) (fun c21 => ?_) (fun c21 => ?_)
            · refine v_iload dX5_takenFrom_50 rfl ?_
              refine v_iload_n dX5_takenFrom_52 rfl ?_
              refine v_icmp_ge (tgt := 60) dX5_takenFrom_53 (by decide) (fun c22 => ?_) (fun c22 => ?_)
              · exact hj14 ()
              · exact hj19 ()
            · exact hj19 ()
  · refine v_iconst dX5_takenFrom_84 (by decide) ?_
    refine v_iload_n dX5_takenFrom_85 rfl ?_
    refine v_aload_n dX5_takenFrom_86 rfl ?_
    refine v_iload_n dX5_takenFrom_87 rfl ?_
    refine v_iload_n dX5_takenFrom_88 rfl ?_
    refine v_cV (mi := mX5_takenFrom) (c0 := 0) (c1 := 0) (As := [pI a1, pI a2]) (st := [pI s5.1, pI 0]) (kX7_spareOf d (by omega) _ _ _ _) rfl h3 rfl okX7_spareOf (Or.inl tw876) tw701 tw702 rfl (Nat.le_of_ble_eq_true rfl) dX5_takenFrom_89 (fun r23 => [pI r23, pI s5.1, pI 0]) (fun r23 => M) (fun _ => rfl) (fun _ => rfl) (fun r23 h24 => ?_) rfl
    refine v_mmin (mi := mX5_takenFrom) tw877 tw469 tw12 tw470 (Nat.le_of_ble_eq_true rfl) dX5_takenFrom_92 ?_
    refine v_mmax (mi := mX5_takenFrom) tw878 tw624 tw12 tw625 (Nat.le_of_ble_eq_true rfl) dX5_takenFrom_95 ?_
    exact v_ireturn dX5_takenFrom_98 rfl rfl
theorem chX5_nightsFor_0 : (cX5_nightsFor.data.toList.drop 0).take 16 = [26, 154, 0, 5, 3, 172, 27, 158, 0, 13, 26, 27, 96, 4, 100, 27] := by decide +kernel
theorem chX5_nightsFor_1 : (cX5_nightsFor.data.toList.drop 16).take 16 = [108, 167, 0, 4, 2, 172] := by decide +kernel
theorem dX5_nightsFor_0 : decode cX5_nightsFor 0 = .ok (.iload_n 0, 1) := oq_26 (byt chX5_nightsFor_0 0 rfl)
theorem dX5_nightsFor_1 : decode cX5_nightsFor 1 = .ok (.ifCond .ne 5, 3) := oq_154 (byt chX5_nightsFor_0 1 rfl) (byt chX5_nightsFor_0 2 rfl) (byt chX5_nightsFor_0 3 rfl) (by decide +kernel)
theorem dX5_nightsFor_4 : decode cX5_nightsFor 4 = .ok (.iconst 0, 1) := oq_3 (byt chX5_nightsFor_0 4 rfl)
theorem dX5_nightsFor_5 : decode cX5_nightsFor 5 = .ok (.ireturn, 1) := oq_172 (byt chX5_nightsFor_0 5 rfl)
theorem dX5_nightsFor_6 : decode cX5_nightsFor 6 = .ok (.iload_n 1, 1) := oq_27 (byt chX5_nightsFor_0 6 rfl)
theorem dX5_nightsFor_7 : decode cX5_nightsFor 7 = .ok (.ifCond .le 13, 3) := oq_158 (byt chX5_nightsFor_0 7 rfl) (byt chX5_nightsFor_0 8 rfl) (byt chX5_nightsFor_0 9 rfl) (by decide +kernel)
theorem dX5_nightsFor_10 : decode cX5_nightsFor 10 = .ok (.iload_n 0, 1) := oq_26 (byt chX5_nightsFor_0 10 rfl)
theorem dX5_nightsFor_11 : decode cX5_nightsFor 11 = .ok (.iload_n 1, 1) := oq_27 (byt chX5_nightsFor_0 11 rfl)
theorem dX5_nightsFor_12 : decode cX5_nightsFor 12 = .ok (.iadd, 1) := oq_96 (byt chX5_nightsFor_0 12 rfl)
theorem dX5_nightsFor_13 : decode cX5_nightsFor 13 = .ok (.iconst 1, 1) := oq_4 (byt chX5_nightsFor_0 13 rfl)
theorem dX5_nightsFor_14 : decode cX5_nightsFor 14 = .ok (.isub, 1) := oq_100 (byt chX5_nightsFor_0 14 rfl)
theorem dX5_nightsFor_15 : decode cX5_nightsFor 15 = .ok (.iload_n 1, 1) := oq_27 (byt chX5_nightsFor_0 15 rfl)
theorem dX5_nightsFor_16 : decode cX5_nightsFor 16 = .ok (.idiv, 1) := oq_108 (byt chX5_nightsFor_1 0 rfl)
theorem dX5_nightsFor_17 : decode cX5_nightsFor 17 = .ok (.goto 4, 3) := oq_167 (byt chX5_nightsFor_1 1 rfl) (byt chX5_nightsFor_1 2 rfl) (byt chX5_nightsFor_1 3 rfl) (by decide +kernel)
theorem dX5_nightsFor_20 : decode cX5_nightsFor 20 = .ok (.iconst (-1), 1) := oq_2 (byt chX5_nightsFor_1 4 rfl)
theorem dX5_nightsFor_21 : decode cX5_nightsFor 21 = .ok (.ireturn, 1) := oq_172 (byt chX5_nightsFor_1 5 rfl)
abbrev mX5_nightsFor : MI := (yX5_nightsFor, cX5_nightsFor, 2, (some .int), noE)
theorem okX5_nightsFor : cok mX5_nightsFor 2 := ⟨tw885, tw9, by decide, by decide, by decide, by decide +kernel⟩
def fX5_nightsFor (M : Mem) (a0 a1 : Int) : Option Int :=
  if a0 = 0 then (some 0) else (if 0 < a1 then (if a1 ≠ 0 then some (w32 ((w32 ((w32 (a0 + a1)) - 1)).tdiv a1)) else none) else (some (-1)))
set_option maxRecDepth 100000 in
set_option maxHeartbeats 4000000 in
theorem kX5_nightsFor (d : Nat) (hd : 0 ≤ d) (M : Mem) (a0 a1 : Int) : Ct mX5_nightsFor d 0 0 [pI a0, pI a1] M (dI M) (fX5_nightsFor M a0 a1) := by
  refine Ct.of 0 (fun _ _ _ => trivial) (by decide +kernel) rfl ?_
  unfold fX5_nightsFor
  refine v_iload_n dX5_nightsFor_0 rfl ?_
  refine v_if_ne (tgt := 6) dX5_nightsFor_1 (by decide) (fun c1 => ?_) (fun c1 => ?_)
  · refine v_iconst dX5_nightsFor_4 (by decide) ?_
    exact v_ireturn dX5_nightsFor_5 rfl rfl
  · refine v_iload_n dX5_nightsFor_6 rfl ?_
    refine v_if_le (tgt := 20) dX5_nightsFor_7 (by decide) (fun c2 => ?_) (fun c2 => ?_)
    · refine v_iload_n dX5_nightsFor_10 rfl ?_
      refine v_iload_n dX5_nightsFor_11 rfl ?_
      refine v_iadd dX5_nightsFor_12 ?_
      refine v_iconst dX5_nightsFor_13 (by decide) ?_
      refine v_isub dX5_nightsFor_14 ?_
      refine v_iload_n dX5_nightsFor_15 rfl ?_
      refine v_if (fun h3 => ?_)
      refine v_idiv h3 dX5_nightsFor_16 ?_
      refine v_goto (tgt := 21) dX5_nightsFor_17 (by decide) ?_
      exact v_ireturn dX5_nightsFor_21 rfl rfl
    · refine v_iconst dX5_nightsFor_20 (by decide) ?_
      exact v_ireturn dX5_nightsFor_21 rfl rfl
theorem chX5_answer_0 : (cX5_answer.data.toList.drop 0).take 16 = [27, 16, 10, 161, 0, 20, 42, 27, 16, 10, 100, 8, 108, 27, 16, 10] := by decide +kernel
theorem chX5_answer_1 : (cX5_answer.data.toList.drop 16).take 16 = [100, 8, 112, 184, 0, 31, 172, 3, 61, 3, 62, 3, 54, 4, 21, 4] := by decide +kernel
theorem chX5_answer_2 : (cX5_answer.data.toList.drop 32).take 16 = [42, 180, 0, 18, 162, 0, 52, 3, 54, 5, 21, 5, 8, 162, 0, 37] := by decide +kernel
theorem chX5_answer_3 : (cX5_answer.data.toList.drop 48).take 16 = [42, 21, 4, 21, 5, 184, 0, 31, 54, 6, 28, 21, 6, 96, 61, 29] := by decide +kernel
theorem chX5_answer_4 : (cX5_answer.data.toList.drop 64).take 16 = [21, 6, 42, 180, 0, 35, 21, 4, 46, 104, 96, 62, 132, 5, 1, 167] := by decide +kernel
theorem chX5_answer_5 : (cX5_answer.data.toList.drop 80).take 16 = [255, 219, 132, 4, 1, 167, 255, 201, 27, 154, 0, 5, 29, 172, 27, 4] := by decide +kernel
theorem chX5_answer_6 : (cX5_answer.data.toList.drop 96).take 16 = [160, 0, 7, 28, 167, 0, 11, 28, 42, 182, 0, 38, 184, 0, 42, 172] := by decide +kernel
theorem dX5_answer_0 : decode cX5_answer 0 = .ok (.iload_n 1, 1) := oq_27 (byt chX5_answer_0 0 rfl)
theorem dX5_answer_1 : decode cX5_answer 1 = .ok (.bipush 10, 2) := oq_16 (byt chX5_answer_0 1 rfl) (byt chX5_answer_0 2 rfl) rfl
theorem dX5_answer_3 : decode cX5_answer 3 = .ok (.if_icmp .lt 20, 3) := oq_161 (byt chX5_answer_0 3 rfl) (byt chX5_answer_0 4 rfl) (byt chX5_answer_0 5 rfl) (by decide +kernel)
theorem dX5_answer_6 : decode cX5_answer 6 = .ok (.aload_n 0, 1) := oq_42 (byt chX5_answer_0 6 rfl)
theorem dX5_answer_7 : decode cX5_answer 7 = .ok (.iload_n 1, 1) := oq_27 (byt chX5_answer_0 7 rfl)
theorem dX5_answer_8 : decode cX5_answer 8 = .ok (.bipush 10, 2) := oq_16 (byt chX5_answer_0 8 rfl) (byt chX5_answer_0 9 rfl) rfl
theorem dX5_answer_10 : decode cX5_answer 10 = .ok (.isub, 1) := oq_100 (byt chX5_answer_0 10 rfl)
theorem dX5_answer_11 : decode cX5_answer 11 = .ok (.iconst 5, 1) := oq_8 (byt chX5_answer_0 11 rfl)
theorem dX5_answer_12 : decode cX5_answer 12 = .ok (.idiv, 1) := oq_108 (byt chX5_answer_0 12 rfl)
theorem dX5_answer_13 : decode cX5_answer 13 = .ok (.iload_n 1, 1) := oq_27 (byt chX5_answer_0 13 rfl)
theorem dX5_answer_14 : decode cX5_answer 14 = .ok (.bipush 10, 2) := oq_16 (byt chX5_answer_0 14 rfl) (byt chX5_answer_0 15 rfl) rfl
theorem dX5_answer_16 : decode cX5_answer 16 = .ok (.isub, 1) := oq_100 (byt chX5_answer_1 0 rfl)
theorem dX5_answer_17 : decode cX5_answer 17 = .ok (.iconst 5, 1) := oq_8 (byt chX5_answer_1 1 rfl)
theorem dX5_answer_18 : decode cX5_answer 18 = .ok (.irem, 1) := oq_112 (byt chX5_answer_1 2 rfl)
theorem dX5_answer_19 : decode cX5_answer 19 = .ok (.invokestatic 31, 3) := oq_184 (byt chX5_answer_1 3 rfl) (byt chX5_answer_1 4 rfl) (byt chX5_answer_1 5 rfl) rfl
theorem dX5_answer_22 : decode cX5_answer 22 = .ok (.ireturn, 1) := oq_172 (byt chX5_answer_1 6 rfl)
theorem dX5_answer_23 : decode cX5_answer 23 = .ok (.iconst 0, 1) := oq_3 (byt chX5_answer_1 7 rfl)
theorem dX5_answer_24 : decode cX5_answer 24 = .ok (.istore_n 2, 1) := oq_61 (byt chX5_answer_1 8 rfl)
theorem dX5_answer_25 : decode cX5_answer 25 = .ok (.iconst 0, 1) := oq_3 (byt chX5_answer_1 9 rfl)
theorem dX5_answer_26 : decode cX5_answer 26 = .ok (.istore_n 3, 1) := oq_62 (byt chX5_answer_1 10 rfl)
theorem dX5_answer_27 : decode cX5_answer 27 = .ok (.iconst 0, 1) := oq_3 (byt chX5_answer_1 11 rfl)
theorem dX5_answer_28 : decode cX5_answer 28 = .ok (.istore 4, 2) := oq_54 (byt chX5_answer_1 12 rfl) (byt chX5_answer_1 13 rfl) rfl
theorem dX5_answer_30 : decode cX5_answer 30 = .ok (.iload 4, 2) := oq_21 (byt chX5_answer_1 14 rfl) (byt chX5_answer_1 15 rfl) rfl
theorem dX5_answer_32 : decode cX5_answer 32 = .ok (.aload_n 0, 1) := oq_42 (byt chX5_answer_2 0 rfl)
theorem dX5_answer_33 : decode cX5_answer 33 = .ok (.getfield 18, 3) := oq_180 (byt chX5_answer_2 1 rfl) (byt chX5_answer_2 2 rfl) (byt chX5_answer_2 3 rfl) rfl
theorem dX5_answer_36 : decode cX5_answer 36 = .ok (.if_icmp .ge 52, 3) := oq_162 (byt chX5_answer_2 4 rfl) (byt chX5_answer_2 5 rfl) (byt chX5_answer_2 6 rfl) (by decide +kernel)
theorem dX5_answer_39 : decode cX5_answer 39 = .ok (.iconst 0, 1) := oq_3 (byt chX5_answer_2 7 rfl)
theorem dX5_answer_40 : decode cX5_answer 40 = .ok (.istore 5, 2) := oq_54 (byt chX5_answer_2 8 rfl) (byt chX5_answer_2 9 rfl) rfl
theorem dX5_answer_42 : decode cX5_answer 42 = .ok (.iload 5, 2) := oq_21 (byt chX5_answer_2 10 rfl) (byt chX5_answer_2 11 rfl) rfl
theorem dX5_answer_44 : decode cX5_answer 44 = .ok (.iconst 5, 1) := oq_8 (byt chX5_answer_2 12 rfl)
theorem dX5_answer_45 : decode cX5_answer 45 = .ok (.if_icmp .ge 37, 3) := oq_162 (byt chX5_answer_2 13 rfl) (byt chX5_answer_2 14 rfl) (byt chX5_answer_2 15 rfl) (by decide +kernel)
theorem dX5_answer_48 : decode cX5_answer 48 = .ok (.aload_n 0, 1) := oq_42 (byt chX5_answer_3 0 rfl)
theorem dX5_answer_49 : decode cX5_answer 49 = .ok (.iload 4, 2) := oq_21 (byt chX5_answer_3 1 rfl) (byt chX5_answer_3 2 rfl) rfl
theorem dX5_answer_51 : decode cX5_answer 51 = .ok (.iload 5, 2) := oq_21 (byt chX5_answer_3 3 rfl) (byt chX5_answer_3 4 rfl) rfl
theorem dX5_answer_53 : decode cX5_answer 53 = .ok (.invokestatic 31, 3) := oq_184 (byt chX5_answer_3 5 rfl) (byt chX5_answer_3 6 rfl) (byt chX5_answer_3 7 rfl) rfl
theorem dX5_answer_56 : decode cX5_answer 56 = .ok (.istore 6, 2) := oq_54 (byt chX5_answer_3 8 rfl) (byt chX5_answer_3 9 rfl) rfl
theorem dX5_answer_58 : decode cX5_answer 58 = .ok (.iload_n 2, 1) := oq_28 (byt chX5_answer_3 10 rfl)
theorem dX5_answer_59 : decode cX5_answer 59 = .ok (.iload 6, 2) := oq_21 (byt chX5_answer_3 11 rfl) (byt chX5_answer_3 12 rfl) rfl
theorem dX5_answer_61 : decode cX5_answer 61 = .ok (.iadd, 1) := oq_96 (byt chX5_answer_3 13 rfl)
theorem dX5_answer_62 : decode cX5_answer 62 = .ok (.istore_n 2, 1) := oq_61 (byt chX5_answer_3 14 rfl)
theorem dX5_answer_63 : decode cX5_answer 63 = .ok (.iload_n 3, 1) := oq_29 (byt chX5_answer_3 15 rfl)
theorem dX5_answer_64 : decode cX5_answer 64 = .ok (.iload 6, 2) := oq_21 (byt chX5_answer_4 0 rfl) (byt chX5_answer_4 1 rfl) rfl
theorem dX5_answer_66 : decode cX5_answer 66 = .ok (.aload_n 0, 1) := oq_42 (byt chX5_answer_4 2 rfl)
theorem dX5_answer_67 : decode cX5_answer 67 = .ok (.getfield 35, 3) := oq_180 (byt chX5_answer_4 3 rfl) (byt chX5_answer_4 4 rfl) (byt chX5_answer_4 5 rfl) rfl
theorem dX5_answer_70 : decode cX5_answer 70 = .ok (.iload 4, 2) := oq_21 (byt chX5_answer_4 6 rfl) (byt chX5_answer_4 7 rfl) rfl
theorem dX5_answer_72 : decode cX5_answer 72 = .ok (.iaload, 1) := oq_46 (byt chX5_answer_4 8 rfl)
theorem dX5_answer_73 : decode cX5_answer 73 = .ok (.imul, 1) := oq_104 (byt chX5_answer_4 9 rfl)
theorem dX5_answer_74 : decode cX5_answer 74 = .ok (.iadd, 1) := oq_96 (byt chX5_answer_4 10 rfl)
theorem dX5_answer_75 : decode cX5_answer 75 = .ok (.istore_n 3, 1) := oq_62 (byt chX5_answer_4 11 rfl)
theorem dX5_answer_76 : decode cX5_answer 76 = .ok (.iinc 5 1, 3) := oq_132 (byt chX5_answer_4 12 rfl) (byt chX5_answer_4 13 rfl) (byt chX5_answer_4 14 rfl) rfl
theorem dX5_answer_79 : decode cX5_answer 79 = .ok (.goto (-37), 3) := oq_167 (byt chX5_answer_4 15 rfl) (byt chX5_answer_5 0 rfl) (byt chX5_answer_5 1 rfl) (by decide +kernel)
theorem dX5_answer_82 : decode cX5_answer 82 = .ok (.iinc 4 1, 3) := oq_132 (byt chX5_answer_5 2 rfl) (byt chX5_answer_5 3 rfl) (byt chX5_answer_5 4 rfl) rfl
theorem dX5_answer_85 : decode cX5_answer 85 = .ok (.goto (-55), 3) := oq_167 (byt chX5_answer_5 5 rfl) (byt chX5_answer_5 6 rfl) (byt chX5_answer_5 7 rfl) (by decide +kernel)
theorem dX5_answer_88 : decode cX5_answer 88 = .ok (.iload_n 1, 1) := oq_27 (byt chX5_answer_5 8 rfl)
theorem dX5_answer_89 : decode cX5_answer 89 = .ok (.ifCond .ne 5, 3) := oq_154 (byt chX5_answer_5 9 rfl) (byt chX5_answer_5 10 rfl) (byt chX5_answer_5 11 rfl) (by decide +kernel)
theorem dX5_answer_92 : decode cX5_answer 92 = .ok (.iload_n 3, 1) := oq_29 (byt chX5_answer_5 12 rfl)
theorem dX5_answer_93 : decode cX5_answer 93 = .ok (.ireturn, 1) := oq_172 (byt chX5_answer_5 13 rfl)
theorem dX5_answer_94 : decode cX5_answer 94 = .ok (.iload_n 1, 1) := oq_27 (byt chX5_answer_5 14 rfl)
theorem dX5_answer_95 : decode cX5_answer 95 = .ok (.iconst 1, 1) := oq_4 (byt chX5_answer_5 15 rfl)
theorem dX5_answer_96 : decode cX5_answer 96 = .ok (.if_icmp .ne 7, 3) := oq_160 (byt chX5_answer_6 0 rfl) (byt chX5_answer_6 1 rfl) (byt chX5_answer_6 2 rfl) (by decide +kernel)
theorem dX5_answer_99 : decode cX5_answer 99 = .ok (.iload_n 2, 1) := oq_28 (byt chX5_answer_6 3 rfl)
theorem dX5_answer_100 : decode cX5_answer 100 = .ok (.goto 11, 3) := oq_167 (byt chX5_answer_6 4 rfl) (byt chX5_answer_6 5 rfl) (byt chX5_answer_6 6 rfl) (by decide +kernel)
theorem dX5_answer_103 : decode cX5_answer 103 = .ok (.iload_n 2, 1) := oq_28 (byt chX5_answer_6 7 rfl)
theorem dX5_answer_104 : decode cX5_answer 104 = .ok (.aload_n 0, 1) := oq_42 (byt chX5_answer_6 8 rfl)
theorem dX5_answer_105 : decode cX5_answer 105 = .ok (.invokevirtual 38, 3) := oq_182 (byt chX5_answer_6 9 rfl) (byt chX5_answer_6 10 rfl) (byt chX5_answer_6 11 rfl) rfl
theorem dX5_answer_108 : decode cX5_answer 108 = .ok (.invokestatic 42, 3) := oq_184 (byt chX5_answer_6 12 rfl) (byt chX5_answer_6 13 rfl) (byt chX5_answer_6 14 rfl) rfl
theorem dX5_answer_111 : decode cX5_answer 111 = .ok (.ireturn, 1) := oq_172 (byt chX5_answer_6 15 rfl)
abbrev mX5_answer : MI := (yX5_answer, cX5_answer, 7, (some .int), noE)
theorem okX5_answer : cok mX5_answer 2 := ⟨tw872, tw9, by decide, by decide, by decide, by decide +kernel⟩
def fX5_answer (M : Mem) (a0 a1 : Int) : Option Int :=
  if a1 < 10 then (iterC (fun (rec2 : (Int × Int × Int) → Option Int) (s3 : Int × Int × Int) => if M.2.1 a0 = 7 then if s3.2.2 < M.1 a0 0 then (iterC (fun (rec6 : (Int × Int × Int) → Option Int) (s7 : Int × Int × Int) => if s7.2.2 < 5 then ((fX5_takenFrom M a0 s3.2.2 s7.2.2).bind fun r9 => if M.2.1 (M.1 a0 4) = 12 ∧ (0 : Int) ≤ s3.2.2 ∧ s3.2.2 < M.2.2.1 (M.1 a0 4) then rec6 (w32 (s7.1 + r9), w32 (s7.2.1 + (w32 (r9 * (M.1 (M.1 a0 4) s3.2.2)))), w32 (s7.2.2 + 1)) else none) else (rec2 (s7.1, s7.2.1, w32 (s3.2.2 + 1)))) BIG (s3.1, s3.2.1, 0)) else (if a1 = 0 then (some s3.2.1) else (if a1 = 1 then (some s3.1) else ((fX7_limitOfAll M a0).bind fun r14 => (fX5_nightsFor M s3.1 r14).bind fun r16 => some r16))) else none) BIG (0, 0, 0)) else ((fX5_takenFrom M a0 (w32 ((w32 (a1 - 10)).tdiv 5)) ((w32 (a1 - 10)).tmod 5)).bind fun r18 => some r18)
set_option maxRecDepth 100000 in
set_option maxHeartbeats 4000000 in
theorem kX5_answer (d : Nat) (hd : 4 ≤ d) (M : Mem) (a0 a1 : Int) : Ct mX5_answer d 0 0 [pA a0, pI a1] M (dI M) (fX5_answer M a0 a1) := by
  obtain ⟨d, rfl⟩ : ∃ k, d = k + 1 := ⟨d - 1, by omega⟩
  refine Ct.of 5 (fun _ _ _ => trivial) (by decide +kernel) rfl ?_
  unfold fX5_answer
  refine v_iload_n dX5_answer_0 rfl ?_
  refine v_bipush dX5_answer_1 (by decide) ?_
  refine v_icmp_lt (tgt := 23) dX5_answer_3 (by decide) (fun c1 => ?_) (fun c1 => ?_)
  · refine v_iconst dX5_answer_23 (by decide) ?_
    refine v_istore_n (ls' := [some (pA a0), some (pI a1), some (pI 0), none, none, none, none]) dX5_answer_24 (by decide) rfl ?_
    refine v_iconst dX5_answer_25 (by decide) ?_
    refine v_istore_n (ls' := [some (pA a0), some (pI a1), some (pI 0), some (pI 0), none, none, none]) dX5_answer_26 (by decide) rfl ?_
    refine v_iconst dX5_answer_27 (by decide) ?_
    refine v_istore (ls' := [some (pA a0), some (pI a1), some (pI 0), some (pI 0), some (pI 0), none, none]) dX5_answer_28 (by decide) rfl ?_
    refine v_loop (fun (s3 : Int × Int × Int) => [some (pA a0), some (pI a1), some (pI s3.1), some (pI s3.2.1), some (pI s3.2.2), none, none]) (fun (s3 : Int × Int × Int) => M) (s0 := (0, 0, 0)) ?_
    intro rec2 hrec2 s3
    refine v_iload dX5_answer_30 rfl ?_
    refine v_aload_n dX5_answer_32 rfl ?_
    refine v_if (fun h4 => ?_)
    refine v_get (v := pI (M.1 a0 0)) 7 0 rfl inX7 (by decide) tw55 dX5_answer_33 h4 rfl ?_
    refine v_icmp_ge (tgt := 88) dX5_answer_36 (by decide) (fun c5 => ?_) (fun c5 => ?_)
    · refine v_iconst dX5_answer_39 (by decide) ?_
      refine v_istore (ls' := [some (pA a0), some (pI a1), some (pI s3.1), some (pI s3.2.1), some (pI s3.2.2), some (pI 0), none]) dX5_answer_40 (by decide) rfl ?_
      refine v_loop (fun (s7 : Int × Int × Int) => [some (pA a0), some (pI a1), some (pI s7.1), some (pI s7.2.1), some (pI s3.2.2), some (pI s7.2.2), none]) (fun (s7 : Int × Int × Int) => M) (s0 := (s3.1, s3.2.1, 0)) ?_
      intro rec6 hrec6 s7
      refine v_iload dX5_answer_42 rfl ?_
      refine v_iconst dX5_answer_44 (by decide) ?_
      refine v_icmp_ge (tgt := 82) dX5_answer_45 (by decide) (fun c8 => ?_) (fun c8 => ?_)
      · refine v_aload_n dX5_answer_48 rfl ?_
        refine v_iload dX5_answer_49 rfl ?_
        refine v_iload dX5_answer_51 rfl ?_
        refine v_cS (mi := mX5_answer) (c0 := 0) (c1 := 0) (As := [pA a0, pI s3.2.2, pI s7.2.2]) (st := []) (kX5_takenFrom d (by omega) _ _ _ _) okX5_takenFrom (Or.inl tw873) tw874 rfl (Nat.le_of_ble_eq_true rfl) dX5_answer_53 (fun r9 => [pI r9]) (fun r9 => M) (fun _ => rfl) (fun _ => rfl) (fun r9 h10 => ?_) rfl
        refine v_istore (ls' := [some (pA a0), some (pI a1), some (pI s7.1), some (pI s7.2.1), some (pI s3.2.2), some (pI s7.2.2), some (pI r9)]) dX5_answer_56 (by decide) rfl ?_
        refine v_iload_n dX5_answer_58 rfl ?_
        refine v_iload dX5_answer_59 rfl ?_
        refine v_iadd dX5_answer_61 ?_
        refine v_istore_n (ls' := [some (pA a0), some (pI a1), some (pI (w32 (s7.1 + r9))), some (pI s7.2.1), some (pI s3.2.2), some (pI s7.2.2), some (pI r9)]) dX5_answer_62 (by decide) rfl ?_
        refine v_iload_n dX5_answer_63 rfl ?_
        refine v_iload dX5_answer_64 rfl ?_
        refine v_aload_n dX5_answer_66 rfl ?_
        refine v_get (v := pA (M.1 a0 4)) 7 4 rfl inX7 (by decide) tw77 dX5_answer_67 h4 rfl ?_
        refine v_iload dX5_answer_70 rfl ?_
        refine v_if (fun h11 => ?_)
        refine v_iaload h11 dX5_answer_72 ?_
        refine v_imul dX5_answer_73 ?_
        refine v_iadd dX5_answer_74 ?_
        refine v_istore_n (ls' := [some (pA a0), some (pI a1), some (pI (w32 (s7.1 + r9))), some (pI (w32 (s7.2.1 + (w32 (r9 * (M.1 (M.1 a0 4) s3.2.2)))))), some (pI s3.2.2), some (pI s7.2.2), some (pI r9)]) dX5_answer_75 (by decide) rfl ?_
        refine v_iinc (ls' := [some (pA a0), some (pI a1), some (pI (w32 (s7.1 + r9))), some (pI (w32 (s7.2.1 + (w32 (r9 * (M.1 (M.1 a0 4) s3.2.2)))))), some (pI s3.2.2), some (pI (w32 (s7.2.2 + 1))), some (pI r9)]) dX5_answer_76 (by decide) rfl rfl ?_
        refine v_goto (tgt := 42) dX5_answer_79 (by decide) ?_
        exact v_drop [some (pA a0), some (pI a1), some (pI (w32 (s7.1 + r9))), some (pI (w32 (s7.2.1 + (w32 (r9 * (M.1 (M.1 a0 4) s3.2.2)))))), some (pI s3.2.2), some (pI (w32 (s7.2.2 + 1))), none] (ls_s (ls_s (ls_s (ls_s (ls_s (ls_s (ls_n ls_e))))))) (hrec6 (w32 (s7.1 + r9), w32 (s7.2.1 + (w32 (r9 * (M.1 (M.1 a0 4) s3.2.2)))), w32 (s7.2.2 + 1)))
      · refine v_iinc (ls' := [some (pA a0), some (pI a1), some (pI s7.1), some (pI s7.2.1), some (pI (w32 (s3.2.2 + 1))), some (pI s7.2.2), none]) dX5_answer_82 (by decide) rfl rfl ?_
        refine v_goto (tgt := 30) dX5_answer_85 (by decide) ?_
        exact v_drop [some (pA a0), some (pI a1), some (pI s7.1), some (pI s7.2.1), some (pI (w32 (s3.2.2 + 1))), none, none] (ls_s (ls_s (ls_s (ls_s (ls_s (ls_n (ls_n ls_e))))))) (hrec2 (s7.1, s7.2.1, w32 (s3.2.2 + 1)))
    · refine v_iload_n dX5_answer_88 rfl ?_
      refine v_if_ne (tgt := 94) dX5_answer_89 (by decide) (fun c12 => ?_) (fun c12 => ?_)
      · refine v_iload_n dX5_answer_92 rfl ?_
        exact v_ireturn dX5_answer_93 rfl rfl
      · refine v_iload_n dX5_answer_94 rfl ?_
        refine v_iconst dX5_answer_95 (by decide) ?_
        refine v_icmp_ne (tgt := 103) dX5_answer_96 (by decide) (fun c13 => ?_) (fun c13 => ?_)
        · refine v_iload_n dX5_answer_99 rfl ?_
          refine v_goto (tgt := 111) dX5_answer_100 (by decide) ?_
          exact v_ireturn dX5_answer_111 rfl rfl
        · refine v_iload_n dX5_answer_103 rfl ?_
          refine v_aload_n dX5_answer_104 rfl ?_
          refine v_cV (mi := mX5_answer) (c0 := 0) (c1 := 0) (As := []) (st := [pI s3.1]) (kX7_limitOfAll d (by omega) _ _) rfl h4 rfl okX7_limitOfAll (Or.inl tw879) tw880 tw881 rfl (Nat.le_of_ble_eq_true rfl) dX5_answer_105 (fun r14 => [pI r14, pI s3.1]) (fun r14 => M) (fun _ => rfl) (fun _ => rfl) (fun r14 h15 => ?_) rfl
          refine v_cS (mi := mX5_answer) (c0 := 0) (c1 := 0) (As := [pI s3.1, pI r14]) (st := []) (kX5_nightsFor d (by omega) _ _ _) okX5_nightsFor (Or.inl tw883) tw884 rfl (Nat.le_of_ble_eq_true rfl) dX5_answer_108 (fun r16 => [pI r16]) (fun r16 => M) (fun _ => rfl) (fun _ => rfl) (fun r16 h17 => ?_) rfl
          exact v_ireturn dX5_answer_111 rfl rfl
  · refine v_aload_n dX5_answer_6 rfl ?_
    refine v_iload_n dX5_answer_7 rfl ?_
    refine v_bipush dX5_answer_8 (by decide) ?_
    refine v_isub dX5_answer_10 ?_
    refine v_iconst dX5_answer_11 (by decide) ?_
    refine v_idiv (by decide) dX5_answer_12 ?_
    refine v_iload_n dX5_answer_13 rfl ?_
    refine v_bipush dX5_answer_14 (by decide) ?_
    refine v_isub dX5_answer_16 ?_
    refine v_iconst dX5_answer_17 (by decide) ?_
    refine v_irem (by decide) dX5_answer_18 ?_
    refine v_cS (mi := mX5_answer) (c0 := 0) (c1 := 0) (As := [pA a0, pI (w32 ((w32 (a1 - 10)).tdiv 5)), pI ((w32 (a1 - 10)).tmod 5)]) (st := []) (kX5_takenFrom d (by omega) _ _ _ _) okX5_takenFrom (Or.inl tw873) tw874 rfl (Nat.le_of_ble_eq_true rfl) dX5_answer_19 (fun r18 => [pI r18]) (fun r18 => M) (fun _ => rfl) (fun _ => rfl) (fun r18 h19 => ?_) rfl
    exact v_ireturn dX5_answer_22 rfl rfl
theorem chX5_leastOf_0 : (cX5_leastOf.data.toList.drop 0).take 16 = [18, 68, 62, 27, 16, 202, 184, 0, 54, 54, 4, 21, 4, 28, 163, 0] := by decide +kernel
theorem chX5_leastOf_1 : (cX5_leastOf.data.toList.drop 16).take 16 = [31, 21, 4, 16, 54, 163, 0, 24, 29, 42, 180, 0, 11, 16, 54, 21] := by decide +kernel
theorem chX5_leastOf_2 : (cX5_leastOf.data.toList.drop 32).take 16 = [4, 96, 46, 184, 0, 49, 62, 132, 4, 1, 167, 255, 225, 29, 172] := by decide +kernel
theorem dX5_leastOf_0 : decode cX5_leastOf 0 = .ok (.ldc 68, 2) := oq_18 (byt chX5_leastOf_0 0 rfl) (byt chX5_leastOf_0 1 rfl) rfl
theorem dX5_leastOf_2 : decode cX5_leastOf 2 = .ok (.istore_n 3, 1) := oq_62 (byt chX5_leastOf_0 2 rfl)
theorem dX5_leastOf_3 : decode cX5_leastOf 3 = .ok (.iload_n 1, 1) := oq_27 (byt chX5_leastOf_0 3 rfl)
theorem dX5_leastOf_4 : decode cX5_leastOf 4 = .ok (.bipush (-54), 2) := oq_16 (byt chX5_leastOf_0 4 rfl) (byt chX5_leastOf_0 5 rfl) rfl
theorem dX5_leastOf_6 : decode cX5_leastOf 6 = .ok (.invokestatic 54, 3) := oq_184 (byt chX5_leastOf_0 6 rfl) (byt chX5_leastOf_0 7 rfl) (byt chX5_leastOf_0 8 rfl) rfl
theorem dX5_leastOf_9 : decode cX5_leastOf 9 = .ok (.istore 4, 2) := oq_54 (byt chX5_leastOf_0 9 rfl) (byt chX5_leastOf_0 10 rfl) rfl
theorem dX5_leastOf_11 : decode cX5_leastOf 11 = .ok (.iload 4, 2) := oq_21 (byt chX5_leastOf_0 11 rfl) (byt chX5_leastOf_0 12 rfl) rfl
theorem dX5_leastOf_13 : decode cX5_leastOf 13 = .ok (.iload_n 2, 1) := oq_28 (byt chX5_leastOf_0 13 rfl)
theorem dX5_leastOf_14 : decode cX5_leastOf 14 = .ok (.if_icmp .gt 31, 3) := oq_163 (byt chX5_leastOf_0 14 rfl) (byt chX5_leastOf_0 15 rfl) (byt chX5_leastOf_1 0 rfl) (by decide +kernel)
theorem dX5_leastOf_17 : decode cX5_leastOf 17 = .ok (.iload 4, 2) := oq_21 (byt chX5_leastOf_1 1 rfl) (byt chX5_leastOf_1 2 rfl) rfl
theorem dX5_leastOf_19 : decode cX5_leastOf 19 = .ok (.bipush 54, 2) := oq_16 (byt chX5_leastOf_1 3 rfl) (byt chX5_leastOf_1 4 rfl) rfl
theorem dX5_leastOf_21 : decode cX5_leastOf 21 = .ok (.if_icmp .gt 24, 3) := oq_163 (byt chX5_leastOf_1 5 rfl) (byt chX5_leastOf_1 6 rfl) (byt chX5_leastOf_1 7 rfl) (by decide +kernel)
theorem dX5_leastOf_24 : decode cX5_leastOf 24 = .ok (.iload_n 3, 1) := oq_29 (byt chX5_leastOf_1 8 rfl)
theorem dX5_leastOf_25 : decode cX5_leastOf 25 = .ok (.aload_n 0, 1) := oq_42 (byt chX5_leastOf_1 9 rfl)
theorem dX5_leastOf_26 : decode cX5_leastOf 26 = .ok (.getfield 11, 3) := oq_180 (byt chX5_leastOf_1 10 rfl) (byt chX5_leastOf_1 11 rfl) (byt chX5_leastOf_1 12 rfl) rfl
theorem dX5_leastOf_29 : decode cX5_leastOf 29 = .ok (.bipush 54, 2) := oq_16 (byt chX5_leastOf_1 13 rfl) (byt chX5_leastOf_1 14 rfl) rfl
theorem dX5_leastOf_31 : decode cX5_leastOf 31 = .ok (.iload 4, 2) := oq_21 (byt chX5_leastOf_1 15 rfl) (byt chX5_leastOf_2 0 rfl) rfl
theorem dX5_leastOf_33 : decode cX5_leastOf 33 = .ok (.iadd, 1) := oq_96 (byt chX5_leastOf_2 1 rfl)
theorem dX5_leastOf_34 : decode cX5_leastOf 34 = .ok (.iaload, 1) := oq_46 (byt chX5_leastOf_2 2 rfl)
theorem dX5_leastOf_35 : decode cX5_leastOf 35 = .ok (.invokestatic 49, 3) := oq_184 (byt chX5_leastOf_2 3 rfl) (byt chX5_leastOf_2 4 rfl) (byt chX5_leastOf_2 5 rfl) rfl
theorem dX5_leastOf_38 : decode cX5_leastOf 38 = .ok (.istore_n 3, 1) := oq_62 (byt chX5_leastOf_2 6 rfl)
theorem dX5_leastOf_39 : decode cX5_leastOf 39 = .ok (.iinc 4 1, 3) := oq_132 (byt chX5_leastOf_2 7 rfl) (byt chX5_leastOf_2 8 rfl) (byt chX5_leastOf_2 9 rfl) rfl
theorem dX5_leastOf_42 : decode cX5_leastOf 42 = .ok (.goto (-31), 3) := oq_167 (byt chX5_leastOf_2 10 rfl) (byt chX5_leastOf_2 11 rfl) (byt chX5_leastOf_2 12 rfl) (by decide +kernel)
theorem dX5_leastOf_45 : decode cX5_leastOf 45 = .ok (.iload_n 3, 1) := oq_29 (byt chX5_leastOf_2 13 rfl)
theorem dX5_leastOf_46 : decode cX5_leastOf 46 = .ok (.ireturn, 1) := oq_172 (byt chX5_leastOf_2 14 rfl)
abbrev mX5_leastOf : MI := (yX5_leastOf, cX5_leastOf, 5, (some .int), noE)
theorem okX5_leastOf : cok mX5_leastOf 2 := ⟨tw905, tw9, by decide, by decide, by decide, by decide +kernel⟩
def fX5_leastOf (M : Mem) (a0 a1 a2 : Int) : Option Int :=
  iterC (fun (rec1 : (Int × Int) → Option Int) (s2 : Int × Int) => if a2 < s2.2 then (some s2.1) else (if 54 < s2.2 then (some s2.1) else (if M.2.1 a0 = 5 then if M.2.1 (M.1 a0 0) = 12 ∧ (0 : Int) ≤ (w32 (54 + s2.2)) ∧ (w32 (54 + s2.2)) < M.2.2.1 (M.1 a0 0) then rec1 (imin s2.1 (M.1 (M.1 a0 0) (w32 (54 + s2.2))), w32 (s2.2 + 1)) else none else none))) BIG (1000000, imax a1 (-54))
set_option maxRecDepth 100000 in
set_option maxHeartbeats 4000000 in
theorem kX5_leastOf (d : Nat) (hd : 1 ≤ d) (M : Mem) (a0 a1 a2 : Int) : Ct mX5_leastOf d 0 0 [pA a0, pI a1, pI a2] M (dI M) (fX5_leastOf M a0 a1 a2) := by
  obtain ⟨d, rfl⟩ : ∃ k, d = k + 1 := ⟨d - 1, by omega⟩
  refine Ct.of 2 (fun _ _ _ => trivial) (by decide +kernel) rfl ?_
  unfold fX5_leastOf
  refine v_ldc (n := 1000000) dX5_leastOf_0 (by decide) tw899 ?_
  refine v_istore_n (ls' := [some (pA a0), some (pI a1), some (pI a2), some (pI 1000000), none]) dX5_leastOf_2 (by decide) rfl ?_
  refine v_iload_n dX5_leastOf_3 rfl ?_
  refine v_bipush dX5_leastOf_4 (by decide) ?_
  refine v_mmax (mi := mX5_leastOf) tw878 tw624 tw12 tw625 (Nat.le_of_ble_eq_true rfl) dX5_leastOf_6 ?_
  refine v_istore (ls' := [some (pA a0), some (pI a1), some (pI a2), some (pI 1000000), some (pI (imax a1 (-54)))]) dX5_leastOf_9 (by decide) rfl ?_
  refine v_drop [some (pA a0), none, some (pI a2), some (pI 1000000), some (pI (imax a1 (-54)))] (ls_s (ls_n (ls_s (ls_s (ls_s ls_e))))) ?_
  refine v_loop (fun (s2 : Int × Int) => [some (pA a0), none, some (pI a2), some (pI s2.1), some (pI s2.2)]) (fun (s2 : Int × Int) => M) (s0 := (1000000, imax a1 (-54))) ?_
  intro rec1 hrec1 s2
  refine v_iload dX5_leastOf_11 rfl ?_
  refine v_iload_n dX5_leastOf_13 rfl ?_
  refine v_icmp_gt (tgt := 45) dX5_leastOf_14 (by decide) (fun c3 => ?_) (fun c3 => ?_)
  · refine v_iload_n dX5_leastOf_45 rfl ?_
    exact v_ireturn dX5_leastOf_46 rfl rfl
  · refine v_iload dX5_leastOf_17 rfl ?_
    refine v_bipush dX5_leastOf_19 (by decide) ?_
    refine v_icmp_gt (tgt := 45) dX5_leastOf_21 (by decide) (fun c4 => ?_) (fun c4 => ?_)
    · refine v_iload_n dX5_leastOf_45 rfl ?_
      exact v_ireturn dX5_leastOf_46 rfl rfl
    · refine v_iload_n dX5_leastOf_24 rfl ?_
      refine v_aload_n dX5_leastOf_25 rfl ?_
      refine v_if (fun h5 => ?_)
      refine v_get (v := pA (M.1 a0 0)) 5 0 rfl inX5 (by decide) tw390 dX5_leastOf_26 h5 rfl ?_
      refine v_bipush dX5_leastOf_29 (by decide) ?_
      refine v_iload dX5_leastOf_31 rfl ?_
      refine v_iadd dX5_leastOf_33 ?_
      refine v_if (fun h6 => ?_)
      refine v_iaload h6 dX5_leastOf_34 ?_
      refine v_mmin (mi := mX5_leastOf) tw877 tw469 tw12 tw470 (Nat.le_of_ble_eq_true rfl) dX5_leastOf_35 ?_
      refine v_istore_n (ls' := [some (pA a0), none, some (pI a2), some (pI (imin s2.1 (M.1 (M.1 a0 0) (w32 (54 + s2.2))))), some (pI s2.2)]) dX5_leastOf_38 (by decide) rfl ?_
      refine v_iinc (ls' := [some (pA a0), none, some (pI a2), some (pI (imin s2.1 (M.1 (M.1 a0 0) (w32 (54 + s2.2))))), some (pI (w32 (s2.2 + 1)))]) dX5_leastOf_39 (by decide) rfl rfl ?_
      refine v_goto (tgt := 11) dX5_leastOf_42 (by decide) ?_
      exact hrec1 (imin s2.1 (M.1 (M.1 a0 0) (w32 (54 + s2.2))), w32 (s2.2 + 1))
theorem chX5_carryGood_0 : (cX5_carryGood.data.toList.drop 0).take 16 = [16, 54, 43, 28, 182, 0, 28, 184, 0, 49, 62, 29, 154, 0, 5, 3] := by decide +kernel
theorem chX5_carryGood_1 : (cX5_carryGood.data.toList.drop 16).take 16 = [172, 42, 180, 0, 11, 18, 68, 184, 0, 69, 42, 180, 0, 15, 18, 68] := by decide +kernel
theorem chX5_carryGood_2 : (cX5_carryGood.data.toList.drop 32).take 16 = [184, 0, 69, 42, 180, 0, 11, 16, 54, 3, 79, 3, 54, 4, 21, 4] := by decide +kernel
theorem chX5_carryGood_3 : (cX5_carryGood.data.toList.drop 48).take 16 = [43, 180, 0, 18, 162, 0, 98, 29, 116, 54, 5, 21, 5, 29, 163, 0] := by decide +kernel
theorem chX5_carryGood_4 : (cX5_carryGood.data.toList.drop 64).take 16 = [62, 21, 5, 43, 21, 4, 28, 182, 0, 73, 96, 54, 6, 42, 21, 6] := by decide +kernel
theorem chX5_carryGood_5 : (cX5_carryGood.data.toList.drop 80).take 16 = [43, 21, 4, 28, 182, 0, 46, 100, 21, 6, 182, 0, 76, 54, 7, 42] := by decide +kernel
theorem chX5_carryGood_6 : (cX5_carryGood.data.toList.drop 96).take 16 = [180, 0, 15, 16, 54, 21, 5, 96, 18, 68, 21, 7, 21, 5, 184, 0] := by decide +kernel
theorem chX5_carryGood_7 : (cX5_carryGood.data.toList.drop 112).take 16 = [79, 96, 184, 0, 49, 79, 132, 5, 1, 167, 255, 194, 42, 180, 0, 11] := by decide +kernel
theorem chX5_carryGood_8 : (cX5_carryGood.data.toList.drop 128).take 16 = [58, 5, 42, 42, 180, 0, 15, 181, 0, 11, 42, 25, 5, 181, 0, 15] := by decide +kernel
theorem chX5_carryGood_9 : (cX5_carryGood.data.toList.drop 144).take 16 = [132, 4, 1, 167, 255, 155, 42, 180, 0, 11, 16, 54, 46, 172] := by decide +kernel
theorem dX5_carryGood_0 : decode cX5_carryGood 0 = .ok (.bipush 54, 2) := oq_16 (byt chX5_carryGood_0 0 rfl) (byt chX5_carryGood_0 1 rfl) rfl
theorem dX5_carryGood_2 : decode cX5_carryGood 2 = .ok (.aload_n 1, 1) := oq_43 (byt chX5_carryGood_0 2 rfl)
theorem dX5_carryGood_3 : decode cX5_carryGood 3 = .ok (.iload_n 2, 1) := oq_28 (byt chX5_carryGood_0 3 rfl)
theorem dX5_carryGood_4 : decode cX5_carryGood 4 = .ok (.invokevirtual 28, 3) := oq_182 (byt chX5_carryGood_0 4 rfl) (byt chX5_carryGood_0 5 rfl) (byt chX5_carryGood_0 6 rfl) rfl
theorem dX5_carryGood_7 : decode cX5_carryGood 7 = .ok (.invokestatic 49, 3) := oq_184 (byt chX5_carryGood_0 7 rfl) (byt chX5_carryGood_0 8 rfl) (byt chX5_carryGood_0 9 rfl) rfl
theorem dX5_carryGood_10 : decode cX5_carryGood 10 = .ok (.istore_n 3, 1) := oq_62 (byt chX5_carryGood_0 10 rfl)
theorem dX5_carryGood_11 : decode cX5_carryGood 11 = .ok (.iload_n 3, 1) := oq_29 (byt chX5_carryGood_0 11 rfl)
theorem dX5_carryGood_12 : decode cX5_carryGood 12 = .ok (.ifCond .ne 5, 3) := oq_154 (byt chX5_carryGood_0 12 rfl) (byt chX5_carryGood_0 13 rfl) (byt chX5_carryGood_0 14 rfl) (by decide +kernel)
theorem dX5_carryGood_15 : decode cX5_carryGood 15 = .ok (.iconst 0, 1) := oq_3 (byt chX5_carryGood_0 15 rfl)
theorem dX5_carryGood_16 : decode cX5_carryGood 16 = .ok (.ireturn, 1) := oq_172 (byt chX5_carryGood_1 0 rfl)
theorem dX5_carryGood_17 : decode cX5_carryGood 17 = .ok (.aload_n 0, 1) := oq_42 (byt chX5_carryGood_1 1 rfl)
theorem dX5_carryGood_18 : decode cX5_carryGood 18 = .ok (.getfield 11, 3) := oq_180 (byt chX5_carryGood_1 2 rfl) (byt chX5_carryGood_1 3 rfl) (byt chX5_carryGood_1 4 rfl) rfl
theorem dX5_carryGood_21 : decode cX5_carryGood 21 = .ok (.ldc 68, 2) := oq_18 (byt chX5_carryGood_1 5 rfl) (byt chX5_carryGood_1 6 rfl) rfl
theorem dX5_carryGood_23 : decode cX5_carryGood 23 = .ok (.invokestatic 69, 3) := oq_184 (byt chX5_carryGood_1 7 rfl) (byt chX5_carryGood_1 8 rfl) (byt chX5_carryGood_1 9 rfl) rfl
theorem dX5_carryGood_26 : decode cX5_carryGood 26 = .ok (.aload_n 0, 1) := oq_42 (byt chX5_carryGood_1 10 rfl)
theorem dX5_carryGood_27 : decode cX5_carryGood 27 = .ok (.getfield 15, 3) := oq_180 (byt chX5_carryGood_1 11 rfl) (byt chX5_carryGood_1 12 rfl) (byt chX5_carryGood_1 13 rfl) rfl
theorem dX5_carryGood_30 : decode cX5_carryGood 30 = .ok (.ldc 68, 2) := oq_18 (byt chX5_carryGood_1 14 rfl) (byt chX5_carryGood_1 15 rfl) rfl
theorem dX5_carryGood_32 : decode cX5_carryGood 32 = .ok (.invokestatic 69, 3) := oq_184 (byt chX5_carryGood_2 0 rfl) (byt chX5_carryGood_2 1 rfl) (byt chX5_carryGood_2 2 rfl) rfl
theorem dX5_carryGood_35 : decode cX5_carryGood 35 = .ok (.aload_n 0, 1) := oq_42 (byt chX5_carryGood_2 3 rfl)
theorem dX5_carryGood_36 : decode cX5_carryGood 36 = .ok (.getfield 11, 3) := oq_180 (byt chX5_carryGood_2 4 rfl) (byt chX5_carryGood_2 5 rfl) (byt chX5_carryGood_2 6 rfl) rfl
theorem dX5_carryGood_39 : decode cX5_carryGood 39 = .ok (.bipush 54, 2) := oq_16 (byt chX5_carryGood_2 7 rfl) (byt chX5_carryGood_2 8 rfl) rfl
theorem dX5_carryGood_41 : decode cX5_carryGood 41 = .ok (.iconst 0, 1) := oq_3 (byt chX5_carryGood_2 9 rfl)
theorem dX5_carryGood_42 : decode cX5_carryGood 42 = .ok (.iastore, 1) := oq_79 (byt chX5_carryGood_2 10 rfl)
theorem dX5_carryGood_43 : decode cX5_carryGood 43 = .ok (.iconst 0, 1) := oq_3 (byt chX5_carryGood_2 11 rfl)
theorem dX5_carryGood_44 : decode cX5_carryGood 44 = .ok (.istore 4, 2) := oq_54 (byt chX5_carryGood_2 12 rfl) (byt chX5_carryGood_2 13 rfl) rfl
theorem dX5_carryGood_46 : decode cX5_carryGood 46 = .ok (.iload 4, 2) := oq_21 (byt chX5_carryGood_2 14 rfl) (byt chX5_carryGood_2 15 rfl) rfl
theorem dX5_carryGood_48 : decode cX5_carryGood 48 = .ok (.aload_n 1, 1) := oq_43 (byt chX5_carryGood_3 0 rfl)
theorem dX5_carryGood_49 : decode cX5_carryGood 49 = .ok (.getfield 18, 3) := oq_180 (byt chX5_carryGood_3 1 rfl) (byt chX5_carryGood_3 2 rfl) (byt chX5_carryGood_3 3 rfl) rfl
theorem dX5_carryGood_52 : decode cX5_carryGood 52 = .ok (.if_icmp .ge 98, 3) := oq_162 (byt chX5_carryGood_3 4 rfl) (byt chX5_carryGood_3 5 rfl) (byt chX5_carryGood_3 6 rfl) (by decide +kernel)
theorem dX5_carryGood_55 : decode cX5_carryGood 55 = .ok (.iload_n 3, 1) := oq_29 (byt chX5_carryGood_3 7 rfl)
theorem dX5_carryGood_56 : decode cX5_carryGood 56 = .ok (.ineg, 1) := oq_116 (byt chX5_carryGood_3 8 rfl)
theorem dX5_carryGood_57 : decode cX5_carryGood 57 = .ok (.istore 5, 2) := oq_54 (byt chX5_carryGood_3 9 rfl) (byt chX5_carryGood_3 10 rfl) rfl
theorem dX5_carryGood_59 : decode cX5_carryGood 59 = .ok (.iload 5, 2) := oq_21 (byt chX5_carryGood_3 11 rfl) (byt chX5_carryGood_3 12 rfl) rfl
theorem dX5_carryGood_61 : decode cX5_carryGood 61 = .ok (.iload_n 3, 1) := oq_29 (byt chX5_carryGood_3 13 rfl)
theorem dX5_carryGood_62 : decode cX5_carryGood 62 = .ok (.if_icmp .gt 62, 3) := oq_163 (byt chX5_carryGood_3 14 rfl) (byt chX5_carryGood_3 15 rfl) (byt chX5_carryGood_4 0 rfl) (by decide +kernel)
theorem dX5_carryGood_65 : decode cX5_carryGood 65 = .ok (.iload 5, 2) := oq_21 (byt chX5_carryGood_4 1 rfl) (byt chX5_carryGood_4 2 rfl) rfl
theorem dX5_carryGood_67 : decode cX5_carryGood 67 = .ok (.aload_n 1, 1) := oq_43 (byt chX5_carryGood_4 3 rfl)
theorem dX5_carryGood_68 : decode cX5_carryGood 68 = .ok (.iload 4, 2) := oq_21 (byt chX5_carryGood_4 4 rfl) (byt chX5_carryGood_4 5 rfl) rfl
theorem dX5_carryGood_70 : decode cX5_carryGood 70 = .ok (.iload_n 2, 1) := oq_28 (byt chX5_carryGood_4 6 rfl)
theorem dX5_carryGood_71 : decode cX5_carryGood 71 = .ok (.invokevirtual 73, 3) := oq_182 (byt chX5_carryGood_4 7 rfl) (byt chX5_carryGood_4 8 rfl) (byt chX5_carryGood_4 9 rfl) rfl
theorem dX5_carryGood_74 : decode cX5_carryGood 74 = .ok (.iadd, 1) := oq_96 (byt chX5_carryGood_4 10 rfl)
theorem dX5_carryGood_75 : decode cX5_carryGood 75 = .ok (.istore 6, 2) := oq_54 (byt chX5_carryGood_4 11 rfl) (byt chX5_carryGood_4 12 rfl) rfl
theorem dX5_carryGood_77 : decode cX5_carryGood 77 = .ok (.aload_n 0, 1) := oq_42 (byt chX5_carryGood_4 13 rfl)
theorem dX5_carryGood_78 : decode cX5_carryGood 78 = .ok (.iload 6, 2) := oq_21 (byt chX5_carryGood_4 14 rfl) (byt chX5_carryGood_4 15 rfl) rfl
theorem dX5_carryGood_80 : decode cX5_carryGood 80 = .ok (.aload_n 1, 1) := oq_43 (byt chX5_carryGood_5 0 rfl)
theorem dX5_carryGood_81 : decode cX5_carryGood 81 = .ok (.iload 4, 2) := oq_21 (byt chX5_carryGood_5 1 rfl) (byt chX5_carryGood_5 2 rfl) rfl
theorem dX5_carryGood_83 : decode cX5_carryGood 83 = .ok (.iload_n 2, 1) := oq_28 (byt chX5_carryGood_5 3 rfl)
theorem dX5_carryGood_84 : decode cX5_carryGood 84 = .ok (.invokevirtual 46, 3) := oq_182 (byt chX5_carryGood_5 4 rfl) (byt chX5_carryGood_5 5 rfl) (byt chX5_carryGood_5 6 rfl) rfl
theorem dX5_carryGood_87 : decode cX5_carryGood 87 = .ok (.isub, 1) := oq_100 (byt chX5_carryGood_5 7 rfl)
theorem dX5_carryGood_88 : decode cX5_carryGood 88 = .ok (.iload 6, 2) := oq_21 (byt chX5_carryGood_5 8 rfl) (byt chX5_carryGood_5 9 rfl) rfl
theorem dX5_carryGood_90 : decode cX5_carryGood 90 = .ok (.invokevirtual 76, 3) := oq_182 (byt chX5_carryGood_5 10 rfl) (byt chX5_carryGood_5 11 rfl) (byt chX5_carryGood_5 12 rfl) rfl
theorem dX5_carryGood_93 : decode cX5_carryGood 93 = .ok (.istore 7, 2) := oq_54 (byt chX5_carryGood_5 13 rfl) (byt chX5_carryGood_5 14 rfl) rfl
theorem dX5_carryGood_95 : decode cX5_carryGood 95 = .ok (.aload_n 0, 1) := oq_42 (byt chX5_carryGood_5 15 rfl)
theorem dX5_carryGood_96 : decode cX5_carryGood 96 = .ok (.getfield 15, 3) := oq_180 (byt chX5_carryGood_6 0 rfl) (byt chX5_carryGood_6 1 rfl) (byt chX5_carryGood_6 2 rfl) rfl
theorem dX5_carryGood_99 : decode cX5_carryGood 99 = .ok (.bipush 54, 2) := oq_16 (byt chX5_carryGood_6 3 rfl) (byt chX5_carryGood_6 4 rfl) rfl
theorem dX5_carryGood_101 : decode cX5_carryGood 101 = .ok (.iload 5, 2) := oq_21 (byt chX5_carryGood_6 5 rfl) (byt chX5_carryGood_6 6 rfl) rfl
theorem dX5_carryGood_103 : decode cX5_carryGood 103 = .ok (.iadd, 1) := oq_96 (byt chX5_carryGood_6 7 rfl)
theorem dX5_carryGood_104 : decode cX5_carryGood 104 = .ok (.ldc 68, 2) := oq_18 (byt chX5_carryGood_6 8 rfl) (byt chX5_carryGood_6 9 rfl) rfl
theorem dX5_carryGood_106 : decode cX5_carryGood 106 = .ok (.iload 7, 2) := oq_21 (byt chX5_carryGood_6 10 rfl) (byt chX5_carryGood_6 11 rfl) rfl
theorem dX5_carryGood_108 : decode cX5_carryGood 108 = .ok (.iload 5, 2) := oq_21 (byt chX5_carryGood_6 12 rfl) (byt chX5_carryGood_6 13 rfl) rfl
theorem dX5_carryGood_110 : decode cX5_carryGood 110 = .ok (.invokestatic 79, 3) := oq_184 (byt chX5_carryGood_6 14 rfl) (byt chX5_carryGood_6 15 rfl) (byt chX5_carryGood_7 0 rfl) rfl
theorem dX5_carryGood_113 : decode cX5_carryGood 113 = .ok (.iadd, 1) := oq_96 (byt chX5_carryGood_7 1 rfl)
theorem dX5_carryGood_114 : decode cX5_carryGood 114 = .ok (.invokestatic 49, 3) := oq_184 (byt chX5_carryGood_7 2 rfl) (byt chX5_carryGood_7 3 rfl) (byt chX5_carryGood_7 4 rfl) rfl
theorem dX5_carryGood_117 : decode cX5_carryGood 117 = .ok (.iastore, 1) := oq_79 (byt chX5_carryGood_7 5 rfl)
theorem dX5_carryGood_118 : decode cX5_carryGood 118 = .ok (.iinc 5 1, 3) := oq_132 (byt chX5_carryGood_7 6 rfl) (byt chX5_carryGood_7 7 rfl) (byt chX5_carryGood_7 8 rfl) rfl
theorem dX5_carryGood_121 : decode cX5_carryGood 121 = .ok (.goto (-62), 3) := oq_167 (byt chX5_carryGood_7 9 rfl) (byt chX5_carryGood_7 10 rfl) (byt chX5_carryGood_7 11 rfl) (by decide +kernel)
theorem dX5_carryGood_124 : decode cX5_carryGood 124 = .ok (.aload_n 0, 1) := oq_42 (byt chX5_carryGood_7 12 rfl)
theorem dX5_carryGood_125 : decode cX5_carryGood 125 = .ok (.getfield 11, 3) := oq_180 (byt chX5_carryGood_7 13 rfl) (byt chX5_carryGood_7 14 rfl) (byt chX5_carryGood_7 15 rfl) rfl
theorem dX5_carryGood_128 : decode cX5_carryGood 128 = .ok (.astore 5, 2) := oq_58 (byt chX5_carryGood_8 0 rfl) (byt chX5_carryGood_8 1 rfl) rfl
theorem dX5_carryGood_130 : decode cX5_carryGood 130 = .ok (.aload_n 0, 1) := oq_42 (byt chX5_carryGood_8 2 rfl)
theorem dX5_carryGood_131 : decode cX5_carryGood 131 = .ok (.aload_n 0, 1) := oq_42 (byt chX5_carryGood_8 3 rfl)
theorem dX5_carryGood_132 : decode cX5_carryGood 132 = .ok (.getfield 15, 3) := oq_180 (byt chX5_carryGood_8 4 rfl) (byt chX5_carryGood_8 5 rfl) (byt chX5_carryGood_8 6 rfl) rfl
theorem dX5_carryGood_135 : decode cX5_carryGood 135 = .ok (.putfield 11, 3) := oq_181 (byt chX5_carryGood_8 7 rfl) (byt chX5_carryGood_8 8 rfl) (byt chX5_carryGood_8 9 rfl) rfl
theorem dX5_carryGood_138 : decode cX5_carryGood 138 = .ok (.aload_n 0, 1) := oq_42 (byt chX5_carryGood_8 10 rfl)
theorem dX5_carryGood_139 : decode cX5_carryGood 139 = .ok (.aload 5, 2) := oq_25 (byt chX5_carryGood_8 11 rfl) (byt chX5_carryGood_8 12 rfl) rfl
theorem dX5_carryGood_141 : decode cX5_carryGood 141 = .ok (.putfield 15, 3) := oq_181 (byt chX5_carryGood_8 13 rfl) (byt chX5_carryGood_8 14 rfl) (byt chX5_carryGood_8 15 rfl) rfl
theorem dX5_carryGood_144 : decode cX5_carryGood 144 = .ok (.iinc 4 1, 3) := oq_132 (byt chX5_carryGood_9 0 rfl) (byt chX5_carryGood_9 1 rfl) (byt chX5_carryGood_9 2 rfl) rfl
theorem dX5_carryGood_147 : decode cX5_carryGood 147 = .ok (.goto (-101), 3) := oq_167 (byt chX5_carryGood_9 3 rfl) (byt chX5_carryGood_9 4 rfl) (byt chX5_carryGood_9 5 rfl) (by decide +kernel)
theorem dX5_carryGood_150 : decode cX5_carryGood 150 = .ok (.aload_n 0, 1) := oq_42 (byt chX5_carryGood_9 6 rfl)
theorem dX5_carryGood_151 : decode cX5_carryGood 151 = .ok (.getfield 11, 3) := oq_180 (byt chX5_carryGood_9 7 rfl) (byt chX5_carryGood_9 8 rfl) (byt chX5_carryGood_9 9 rfl) rfl
theorem dX5_carryGood_154 : decode cX5_carryGood 154 = .ok (.bipush 54, 2) := oq_16 (byt chX5_carryGood_9 10 rfl) (byt chX5_carryGood_9 11 rfl) rfl
theorem dX5_carryGood_156 : decode cX5_carryGood 156 = .ok (.iaload, 1) := oq_46 (byt chX5_carryGood_9 12 rfl)
theorem dX5_carryGood_157 : decode cX5_carryGood 157 = .ok (.ireturn, 1) := oq_172 (byt chX5_carryGood_9 13 rfl)
abbrev mX5_carryGood : MI := (yX5_carryGood, cX5_carryGood, 8, (some .int), noE)
theorem okX5_carryGood : cok mX5_carryGood 2 := ⟨tw898, tw9, by decide, by decide, by decide, by decide +kernel⟩
def fX5_carryGood (M : Mem) (a0 a1 a2 : Int) : Option (Int × Mem) :=
  if M.2.1 a1 = 7 then (fX7_lackOfAll M a1 a2).bind fun r1 => if imin 54 r1 = 0 then (some (0, M)) else (if M.2.1 a0 = 5 then (fX10_fillRow M (M.1 a0 0) 1000000).bind fun r6 => if r6.2.1 a0 = 5 then (fX10_fillRow r6 (r6.1 a0 1) 1000000).bind fun r9 => if r9.2.1 a0 = 5 then if r9.2.1 (r9.1 a0 0) = 12 ∧ (0 : Int) ≤ 54 ∧ 54 < r9.2.2.1 (r9.1 a0 0) then bM (mst r9 (r9.1 a0 0) 54 0) fun M13 => iterC (fun (rec15 : (Int × Mem) → Option (Int × Mem)) (s16 : Int × Mem) => if s16.2.2.1 a1 = 7 then if s16.1 < s16.2.1 a1 0 then (iterC (fun (rec19 : (Int × Mem) → Option (Int × Mem)) (s20 : Int × Mem) => if imin 54 r1 < s20.1 then (if s20.2.2.1 a0 = 5 then if (-1 : Int) ≤ (s20.2.1 a0 1) then bM (mst s20.2 a0 0 (s20.2.1 a0 1)) fun M24 => if (-1 : Int) ≤ (s20.2.1 a0 0) then bM (mst M24 a0 1 (s20.2.1 a0 0)) fun M27 => rec15 (w32 (s16.1 + 1), M27) else none else none else none) else (if s20.2.2.1 a1 = 7 then (fX7_lackOf s20.2 a1 s16.1 a2).bind fun r29 => (fX7_spareOf s20.2 a1 s16.1 a2).bind fun r32 => if s20.2.2.1 a0 = 5 then (fX5_leastOf s20.2 a0 (w32 ((w32 (s20.1 + r29)) - r32)) (w32 (s20.1 + r29))).bind fun r34 => if s20.2.2.1 (s20.2.1 a0 1) = 12 ∧ (0 : Int) ≤ (w32 (54 + s20.1)) ∧ (w32 (54 + s20.1)) < s20.2.2.2.1 (s20.2.1 a0 1) then bM (mst s20.2 (s20.2.1 a0 1) (w32 (54 + s20.1)) (imin 1000000 (w32 (r34 + (iabs s20.1))))) fun M38 => rec19 (w32 (s20.1 + 1), M38) else none else none else none)) BIG (w32 (-(imin 54 r1)), s16.2)) else (if s16.2.2.1 a0 = 5 then if s16.2.2.1 (s16.2.1 a0 0) = 12 ∧ (0 : Int) ≤ 54 ∧ 54 < s16.2.2.2.1 (s16.2.1 a0 0) then some (s16.2.1 (s16.2.1 a0 0) 54, s16.2) else none else none) else none) BIG (0, M13) else none else none else none else none) else none
set_option maxRecDepth 100000 in
set_option maxHeartbeats 4000000 in
theorem kX5_carryGood (d : Nat) (hd : 3 ≤ d) (M : Mem) (a0 a1 a2 : Int) : Ct mX5_carryGood d 0 0 [pA a0, pA a1, pI a2] M dIM (fX5_carryGood M a0 a1 a2) := by
  obtain ⟨d, rfl⟩ : ∃ k, d = k + 1 := ⟨d - 1, by omega⟩
  refine Ct.of 5 (fun _ _ _ => trivial) (by decide +kernel) rfl ?_
  unfold fX5_carryGood
  refine v_bipush dX5_carryGood_0 (by decide) ?_
  refine v_aload_n dX5_carryGood_2 rfl ?_
  refine v_iload_n dX5_carryGood_3 rfl ?_
  refine v_if (fun h3 => ?_)
  refine v_cV (mi := mX5_carryGood) (c0 := 0) (c1 := 0) (As := [pI a2]) (st := [pI 54]) (kX7_lackOfAll d (by omega) _ _ _) rfl h3 rfl okX7_lackOfAll (Or.inl tw865) tw866 tw867 rfl (Nat.le_of_ble_eq_true rfl) dX5_carryGood_4 (fun r1 => [pI r1, pI 54]) (fun r1 => M) (fun _ => rfl) (fun _ => rfl) (fun r1 h2 => ?_) rfl
  refine v_mmin (mi := mX5_carryGood) tw877 tw469 tw12 tw470 (Nat.le_of_ble_eq_true rfl) dX5_carryGood_7 ?_
  refine v_istore_n (ls' := [some (pA a0), some (pA a1), some (pI a2), some (pI (imin 54 r1)), none, none, none, none]) dX5_carryGood_10 (by decide) rfl ?_
  refine v_iload_n dX5_carryGood_11 rfl ?_
  refine v_if_ne (tgt := 17) dX5_carryGood_12 (by decide) (fun c4 => ?_) (fun c4 => ?_)
  · refine v_iconst dX5_carryGood_15 (by decide) ?_
    exact v_ireturn dX5_carryGood_16 rfl rfl
  · refine v_aload_n dX5_carryGood_17 rfl ?_
    refine v_if (fun h5 => ?_)
    refine v_get (v := pA (M.1 a0 0)) 5 0 rfl inX5 (by decide) tw390 dX5_carryGood_18 h5 rfl ?_
    refine v_ldc (n := 1000000) dX5_carryGood_21 (by decide) tw899 ?_
    refine v_cS (mi := mX5_carryGood) (c0 := 0) (c1 := 0) (As := [pA (M.1 a0 0), pI 1000000]) (st := []) (kX10_fillRow d (by omega) _ _ _) okX10_fillRow (Or.inr nw19) tw52 rfl (Nat.le_of_ble_eq_true rfl) dX5_carryGood_23 (fun r6 => []) (fun r6 => r6) (fun _ => rfl) (fun _ => rfl) (fun r6 h7 => ?_) rfl
    refine v_aload_n dX5_carryGood_26 rfl ?_
    refine v_if (fun h8 => ?_)
    refine v_get (v := pA (r6.1 a0 1)) 5 1 rfl inX5 (by decide) tw391 dX5_carryGood_27 h8 rfl ?_
    refine v_ldc (n := 1000000) dX5_carryGood_30 (by decide) tw899 ?_
    refine v_cS (mi := mX5_carryGood) (c0 := 0) (c1 := 0) (As := [pA (r6.1 a0 1), pI 1000000]) (st := []) (kX10_fillRow d (by omega) _ _ _) okX10_fillRow (Or.inr nw19) tw52 rfl (Nat.le_of_ble_eq_true rfl) dX5_carryGood_32 (fun r9 => []) (fun r9 => r9) (fun _ => rfl) (fun _ => rfl) (fun r9 h10 => ?_) rfl
    refine v_aload_n dX5_carryGood_35 rfl ?_
    refine v_if (fun h11 => ?_)
    refine v_get (v := pA (r9.1 a0 0)) 5 0 rfl inX5 (by decide) tw390 dX5_carryGood_36 h11 rfl ?_
    refine v_bipush dX5_carryGood_39 (by decide) ?_
    refine v_iconst dX5_carryGood_41 (by decide) ?_
    refine v_if (fun h12 => ?_)
    refine v_iastore h12 dX5_carryGood_42 ?_
    refine v_bM (fun M13 e14 => ?_)
    refine v_iconst dX5_carryGood_43 (by decide) ?_
    refine v_istore (ls' := [some (pA a0), some (pA a1), some (pI a2), some (pI (imin 54 r1)), some (pI 0), none, none, none]) dX5_carryGood_44 (by decide) rfl ?_
    refine v_loop (fun (s16 : Int × Mem) => [some (pA a0), some (pA a1), some (pI a2), some (pI (imin 54 r1)), some (pI s16.1), none, none, none]) (fun (s16 : Int × Mem) => s16.2) (s0 := (0, M13)) ?_
    intro rec15 hrec15 s16
    refine v_iload dX5_carryGood_46 rfl ?_
    refine v_aload_n dX5_carryGood_48 rfl ?_
    refine v_if (fun h17 => ?_)
    refine v_get (v := pI (s16.2.1 a1 0)) 7 0 rfl inX7 (by decide) tw55 dX5_carryGood_49 h17 rfl ?_
    refine v_icmp_ge (tgt := 150) dX5_carryGood_52 (by decide) (fun c18 => ?_) (fun c18 => ?_)
    · refine v_iload_n dX5_carryGood_55 rfl ?_
      refine v_ineg dX5_carryGood_56 ?_
      refine v_istore (ls' := [some (pA a0), some (pA a1), some (pI a2), some (pI (imin 54 r1)), some (pI s16.1), some (pI (w32 (-(imin 54 r1)))), none, none]) dX5_carryGood_57 (by decide) rfl ?_
      refine v_loop (fun (s20 : Int × Mem) => [some (pA a0), some (pA a1), some (pI a2), some (pI (imin 54 r1)), some (pI s16.1), some (pI s20.1), none, none]) (fun (s20 : Int × Mem) => s20.2) (s0 := (w32 (-(imin 54 r1)), s16.2)) ?_
      intro rec19 hrec19 s20
      refine v_iload dX5_carryGood_59 rfl ?_
      refine v_iload_n dX5_carryGood_61 rfl ?_
      refine v_icmp_gt (tgt := 124) dX5_carryGood_62 (by decide) (fun c21 => ?_) (fun c21 => ?_)
      · refine v_aload_n dX5_carryGood_124 rfl ?_
        refine v_if (fun h22 => ?_)
        refine v_get (v := pA (s20.2.1 a0 0)) 5 0 rfl inX5 (by decide) tw390 dX5_carryGood_125 h22 rfl ?_
        refine v_astore (ls' := [some (pA a0), some (pA a1), some (pI a2), some (pI (imin 54 r1)), some (pI s16.1), some (pA (s20.2.1 a0 0)), none, none]) dX5_carryGood_128 (by decide) rfl ?_
        refine v_aload_n dX5_carryGood_130 rfl ?_
        refine v_aload_n dX5_carryGood_131 rfl ?_
        refine v_get (v := pA (s20.2.1 a0 1)) 5 1 rfl inX5 (by decide) tw391 dX5_carryGood_132 h22 rfl ?_
        refine v_if (fun h23 => ?_)
        refine v_put (x := s20.2.1 a0 1) 5 0 rfl inX5 (by decide) tw390 (Or.inl rfl) rfl dX5_carryGood_135 h22 rfl (fun _ => h23) ?_
        refine v_bM (fun M24 e25 => ?_)
        refine v_aload_n dX5_carryGood_138 rfl ?_
        refine v_aload dX5_carryGood_139 rfl ?_
        refine v_if (fun h26 => ?_)
        refine v_put (x := s20.2.1 a0 0) 5 1 rfl inX5 (by decide) tw391 (Or.inl rfl) rfl dX5_carryGood_141 (by rw [e25]; exact h22) rfl (fun _ => h26) ?_
        refine v_bM (fun M27 e28 => ?_)
        refine v_iinc (ls' := [some (pA a0), some (pA a1), some (pI a2), some (pI (imin 54 r1)), some (pI (w32 (s16.1 + 1))), some (pA (s20.2.1 a0 0)), none, none]) dX5_carryGood_144 (by decide) rfl rfl ?_
        refine v_goto (tgt := 46) dX5_carryGood_147 (by decide) ?_
        exact v_drop [some (pA a0), some (pA a1), some (pI a2), some (pI (imin 54 r1)), some (pI (w32 (s16.1 + 1))), none, none, none] (ls_s (ls_s (ls_s (ls_s (ls_s (ls_n (ls_n (ls_n ls_e)))))))) (hrec15 (w32 (s16.1 + 1), M27))
      · refine v_iload dX5_carryGood_65 rfl ?_
        refine v_aload_n dX5_carryGood_67 rfl ?_
        refine v_iload dX5_carryGood_68 rfl ?_
        refine v_iload_n dX5_carryGood_70 rfl ?_
        refine v_if (fun h31 => ?_)
        refine v_cV (mi := mX5_carryGood) (c0 := 0) (c1 := 0) (As := [pI s16.1, pI a2]) (st := [pI s20.1]) (kX7_lackOf d (by omega) _ _ _ _) rfl h31 rfl okX7_lackOf (Or.inl tw901) tw707 tw708 rfl (Nat.le_of_ble_eq_true rfl) dX5_carryGood_71 (fun r29 => [pI r29, pI s20.1]) (fun r29 => s20.2) (fun _ => rfl) (fun _ => rfl) (fun r29 h30 => ?_) rfl
        refine v_iadd dX5_carryGood_74 ?_
        refine v_istore (ls' := [some (pA a0), some (pA a1), some (pI a2), some (pI (imin 54 r1)), some (pI s16.1), some (pI s20.1), some (pI (w32 (s20.1 + r29))), none]) dX5_carryGood_75 (by decide) rfl ?_
        refine v_aload_n dX5_carryGood_77 rfl ?_
        refine v_iload dX5_carryGood_78 rfl ?_
        refine v_aload_n dX5_carryGood_80 rfl ?_
        refine v_iload dX5_carryGood_81 rfl ?_
        refine v_iload_n dX5_carryGood_83 rfl ?_
        refine v_cV (mi := mX5_carryGood) (c0 := 0) (c1 := 0) (As := [pI s16.1, pI a2]) (st := [pI (w32 (s20.1 + r29)), pA a0]) (kX7_spareOf d (by omega) _ _ _ _) rfl h31 rfl okX7_spareOf (Or.inl tw876) tw701 tw702 rfl (Nat.le_of_ble_eq_true rfl) dX5_carryGood_84 (fun r32 => [pI r32, pI (w32 (s20.1 + r29)), pA a0]) (fun r32 => s20.2) (fun _ => rfl) (fun _ => rfl) (fun r32 h33 => ?_) rfl
        refine v_isub dX5_carryGood_87 ?_
        refine v_iload dX5_carryGood_88 rfl ?_
        refine v_if (fun h36 => ?_)
        refine v_cV (mi := mX5_carryGood) (c0 := 0) (c1 := 0) (As := [pI (w32 ((w32 (s20.1 + r29)) - r32)), pI (w32 (s20.1 + r29))]) (st := []) (kX5_leastOf d (by omega) _ _ _ _) rfl h36 rfl okX5_leastOf (Or.inl tw902) tw904 tp18 rfl (Nat.le_of_ble_eq_true rfl) dX5_carryGood_90 (fun r34 => [pI r34]) (fun r34 => s20.2) (fun _ => rfl) (fun _ => rfl) (fun r34 h35 => ?_) rfl
        refine v_istore (ls' := [some (pA a0), some (pA a1), some (pI a2), some (pI (imin 54 r1)), some (pI s16.1), some (pI s20.1), some (pI (w32 (s20.1 + r29))), some (pI r34)]) dX5_carryGood_93 (by decide) rfl ?_
        refine v_aload_n dX5_carryGood_95 rfl ?_
        refine v_get (v := pA (s20.2.1 a0 1)) 5 1 rfl inX5 (by decide) tw391 dX5_carryGood_96 h36 rfl ?_
        refine v_bipush dX5_carryGood_99 (by decide) ?_
        refine v_iload dX5_carryGood_101 rfl ?_
        refine v_iadd dX5_carryGood_103 ?_
        refine v_ldc (n := 1000000) dX5_carryGood_104 (by decide) tw899 ?_
        refine v_iload dX5_carryGood_106 rfl ?_
        refine v_iload dX5_carryGood_108 rfl ?_
        refine v_mabs (mi := mX5_carryGood) tw906 tw907 tw12 tw908 (Nat.le_of_ble_eq_true rfl) dX5_carryGood_110 ?_
        refine v_iadd dX5_carryGood_113 ?_
        refine v_mmin (mi := mX5_carryGood) tw877 tw469 tw12 tw470 (Nat.le_of_ble_eq_true rfl) dX5_carryGood_114 ?_
        refine v_if (fun h37 => ?_)
        refine v_iastore h37 dX5_carryGood_117 ?_
        refine v_bM (fun M38 e39 => ?_)
        refine v_iinc (ls' := [some (pA a0), some (pA a1), some (pI a2), some (pI (imin 54 r1)), some (pI s16.1), some (pI (w32 (s20.1 + 1))), some (pI (w32 (s20.1 + r29))), some (pI r34)]) dX5_carryGood_118 (by decide) rfl rfl ?_
        refine v_goto (tgt := 59) dX5_carryGood_121 (by decide) ?_
        exact v_drop [some (pA a0), some (pA a1), some (pI a2), some (pI (imin 54 r1)), some (pI s16.1), some (pI (w32 (s20.1 + 1))), none, none] (ls_s (ls_s (ls_s (ls_s (ls_s (ls_s (ls_n (ls_n ls_e)))))))) (hrec19 (w32 (s20.1 + 1), M38))
    · refine v_aload_n dX5_carryGood_150 rfl ?_
      refine v_if (fun h40 => ?_)
      refine v_get (v := pA (s16.2.1 a0 0)) 5 0 rfl inX5 (by decide) tw390 dX5_carryGood_151 h40 rfl ?_
      refine v_bipush dX5_carryGood_154 (by decide) ?_
      refine v_if (fun h41 => ?_)
      refine v_iaload h41 dX5_carryGood_156 ?_
      exact v_ireturn dX5_carryGood_157 rfl rfl
