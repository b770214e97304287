theorem dX10_aid_0 : decode cX10_aid 0 = .ok (.aload_n 0, 1) := by decide +kernel
theorem dX10_aid_1 : decode cX10_aid 1 = .ok (.getfield 12, 3) := by decide +kernel
theorem dX10_aid_4 : decode cX10_aid 4 = .ok (.iload_n 1, 1) := by decide +kernel
theorem dX10_aid_5 : decode cX10_aid 5 = .ok (.invokevirtual 92, 3) := by decide +kernel
theorem dX10_aid_8 : decode cX10_aid 8 = .ok (.astore_n 3, 1) := by decide +kernel
theorem dX10_aid_9 : decode cX10_aid 9 = .ok (.aload_n 3, 1) := by decide +kernel
theorem dX10_aid_10 : decode cX10_aid 10 = .ok (.ifnull 11, 3) := by decide +kernel
theorem dX10_aid_13 : decode cX10_aid 13 = .ok (.aload_n 3, 1) := by decide +kernel
theorem dX10_aid_14 : decode cX10_aid 14 = .ok (.iload_n 2, 1) := by decide +kernel
theorem dX10_aid_15 : decode cX10_aid 15 = .ok (.invokestatic 221, 3) := by decide +kernel
theorem dX10_aid_18 : decode cX10_aid 18 = .ok (.ifCond .ne 6, 3) := by decide +kernel
theorem dX10_aid_21 : decode cX10_aid 21 = .ok (.bipush (-2), 2) := by decide +kernel
theorem dX10_aid_23 : decode cX10_aid 23 = .ok (.ireturn, 1) := by decide +kernel
theorem dX10_aid_24 : decode cX10_aid 24 = .ok (.aload_n 3, 1) := by decide +kernel
theorem dX10_aid_25 : decode cX10_aid 25 = .ok (.invokestatic 225, 3) := by decide +kernel
theorem dX10_aid_28 : decode cX10_aid 28 = .ok (.ifCond .eq 11, 3) := by decide +kernel
theorem dX10_aid_31 : decode cX10_aid 31 = .ok (.aload_n 3, 1) := by decide +kernel
theorem dX10_aid_32 : decode cX10_aid 32 = .ok (.iload_n 2, 1) := by decide +kernel
theorem dX10_aid_33 : decode cX10_aid 33 = .ok (.invokestatic 229, 3) := by decide +kernel
theorem dX10_aid_36 : decode cX10_aid 36 = .ok (.goto 4, 3) := by decide +kernel
theorem dX10_aid_39 : decode cX10_aid 39 = .ok (.iconst (-1), 1) := by decide +kernel
theorem dX10_aid_40 : decode cX10_aid 40 = .ok (.ireturn, 1) := by decide +kernel
abbrev mX10_aid : MI := (yX10_aid, cX10_aid, 4, (some .int), noE)
theorem okX10_aid : cok mX10_aid 2 := ⟨tw853, tw1, by decide, by decide, by decide, by decide +kernel⟩
def fX10_aid (M : Mem) (a0 a1 a2 : Int) : Option Int :=
  if M.2.1 a0 = 9 then if M.2.1 (M.1 a0 0) = 6 then (fX6_townAt M (M.1 a0 0) a1).bind fun r2 => if r2 = -1 then (some (-2)) else ((fX5_isAsked M r2 a2).bind fun r6 => if r6 = 0 then (some (-2)) else ((fX5_isEnough M r2).bind fun r9 => if r9 = 0 then (some (-1)) else ((fX5_answer M r2 a2).bind fun r12 => some r12))) else none else none
set_option maxRecDepth 100000 in
set_option maxHeartbeats 4000000 in
theorem kX10_aid (d : Nat) (hd : 5 ≤ d) (M : Mem) (a0 a1 a2 : Int) : Ct mX10_aid d 0 0 [pA a0, pI a1, pI a2] M (dI M) (fX10_aid M a0 a1 a2) := by
  obtain ⟨d, rfl⟩ : ∃ k, d = k + 1 := ⟨d - 1, by omega⟩
  refine Ct.of 1 (fun _ _ _ => trivial) (by decide +kernel) rfl ?_
  unfold fX10_aid
  refine v_aload_n dX10_aid_0 rfl ?_
  refine v_if (fun h1 => ?_)
  refine v_get (v := pA (M.1 a0 0)) 9 0 rfl inX10 (by decide) tw421 dX10_aid_1 h1 rfl ?_
  refine v_iload_n dX10_aid_4 rfl ?_
  refine v_if (fun h4 => ?_)
  refine v_cV (mi := mX10_aid) (c0 := 0) (c1 := 0) (As := [pI a1]) (st := []) (kX6_townAt d (by omega) _ _ _) rfl h4 rfl okX6_townAt (Or.inl tw680) tw681 tw682 rfl (Nat.le_of_ble_eq_true rfl) dX10_aid_5 (fun r2 => [pA r2]) (fun r2 => M) (fun _ => rfl) (fun _ => rfl) (fun r2 h3 => ?_) rfl
  refine v_astore_n (ls' := [some (pA a0), some (pI a1), some (pI a2), some (pA r2)]) dX10_aid_8 (by decide) rfl ?_
  refine v_aload_n dX10_aid_9 rfl ?_
  refine v_ifnull (tgt := 21) dX10_aid_10 (by decide) (fun c5 => ?_) (fun c5 => ?_)
  · refine v_bipush dX10_aid_21 (by decide) ?_
    exact v_ireturn dX10_aid_23 rfl rfl
  · refine v_aload_n dX10_aid_13 rfl ?_
    refine v_iload_n dX10_aid_14 rfl ?_
    refine v_cS (mi := mX10_aid) (c0 := 0) (c1 := 0) (As := [pA r2, pI a2]) (st := []) (kX5_isAsked d (by omega) _ _ _) okX5_isAsked (Or.inl tw854) tw855 rfl (Nat.le_of_ble_eq_true rfl) dX10_aid_15 (fun r6 => [pI r6]) (fun r6 => M) (fun _ => rfl) (fun _ => rfl) (fun r6 h7 => ?_) rfl
    refine v_if_ne (tgt := 24) dX10_aid_18 (by decide) (fun c8 => ?_) (fun c8 => ?_)
    · refine v_bipush dX10_aid_21 (by decide) ?_
      exact v_ireturn dX10_aid_23 rfl rfl
    · refine v_aload_n dX10_aid_24 rfl ?_
      refine v_cS (mi := mX10_aid) (c0 := 0) (c1 := 0) (As := [pA r2]) (st := []) (kX5_isEnough d (by omega) _ _) okX5_isEnough (Or.inl tw857) tw858 rfl (Nat.le_of_ble_eq_true rfl) dX10_aid_25 (fun r9 => [pI r9]) (fun r9 => M) (fun _ => rfl) (fun _ => rfl) (fun r9 h10 => ?_) rfl
      refine v_if_eq (tgt := 39) dX10_aid_28 (by decide) (fun c11 => ?_) (fun c11 => ?_)
      · refine v_iconst dX10_aid_39 (by decide) ?_
        exact v_ireturn dX10_aid_40 rfl rfl
      · refine v_aload_n dX10_aid_31 rfl ?_
        refine v_iload_n dX10_aid_32 rfl ?_
        refine v_cS (mi := mX10_aid) (c0 := 0) (c1 := 0) (As := [pA r2, pI a2]) (st := []) (kX5_answer d (by omega) _ _ _) okX5_answer (Or.inl tw870) tw871 rfl (Nat.le_of_ble_eq_true rfl) dX10_aid_33 (fun r12 => [pI r12]) (fun r12 => M) (fun _ => rfl) (fun _ => rfl) (fun r12 h13 => ?_) rfl
        refine v_goto (tgt := 40) dX10_aid_36 (by decide) ?_
        exact v_ireturn dX10_aid_40 rfl rfl
theorem dX10_carry_0 : decode cX10_carry 0 = .ok (.aload_n 0, 1) := by decide +kernel
theorem dX10_carry_1 : decode cX10_carry 1 = .ok (.getfield 12, 3) := by decide +kernel
theorem dX10_carry_4 : decode cX10_carry 4 = .ok (.iload_n 1, 1) := by decide +kernel
theorem dX10_carry_5 : decode cX10_carry 5 = .ok (.invokevirtual 92, 3) := by decide +kernel
theorem dX10_carry_8 : decode cX10_carry 8 = .ok (.astore_n 2, 1) := by decide +kernel
theorem dX10_carry_9 : decode cX10_carry 9 = .ok (.aload_n 2, 1) := by decide +kernel
theorem dX10_carry_10 : decode cX10_carry 10 = .ok (.ifnonnull 7, 3) := by decide +kernel
theorem dX10_carry_13 : decode cX10_carry 13 = .ok (.iconst (-1), 1) := by decide +kernel
theorem dX10_carry_14 : decode cX10_carry 14 = .ok (.goto 11, 3) := by decide +kernel
theorem dX10_carry_17 : decode cX10_carry 17 = .ok (.aload_n 0, 1) := by decide +kernel
theorem dX10_carry_18 : decode cX10_carry 18 = .ok (.getfield 47, 3) := by decide +kernel
theorem dX10_carry_21 : decode cX10_carry 21 = .ok (.aload_n 2, 1) := by decide +kernel
theorem dX10_carry_22 : decode cX10_carry 22 = .ok (.invokevirtual 233, 3) := by decide +kernel
theorem dX10_carry_25 : decode cX10_carry 25 = .ok (.ireturn, 1) := by decide +kernel
abbrev mX10_carry : MI := (yX10_carry, cX10_carry, 3, (some .int), noE)
theorem okX10_carry : cok mX10_carry 1 := ⟨tw889, tw1, by decide, by decide, by decide, by decide +kernel⟩
def fX10_carry (M : Mem) (a0 a1 : Int) : Option (Int × Mem) :=
  if M.2.1 a0 = 9 then if M.2.1 (M.1 a0 0) = 6 then (fX6_townAt M (M.1 a0 0) a1).bind fun r2 => if r2 = -1 then (some ((-1), M)) else (if M.2.1 (M.1 a0 4) = 5 then (fX5_carryAll M (M.1 a0 4) r2).bind fun r6 => some (r6.1, r6.2) else none) else none else none
set_option maxRecDepth 100000 in
set_option maxHeartbeats 4000000 in
theorem kX10_carry (d : Nat) (hd : 5 ≤ d) (M : Mem) (a0 a1 : Int) : Ct mX10_carry d 0 0 [pA a0, pI a1] M dIM (fX10_carry M a0 a1) := by
  obtain ⟨d, rfl⟩ : ∃ k, d = k + 1 := ⟨d - 1, by omega⟩
  refine Ct.of 1 (fun _ _ _ => trivial) (by decide +kernel) rfl ?_
  unfold fX10_carry
  refine v_aload_n dX10_carry_0 rfl ?_
  refine v_if (fun h1 => ?_)
  refine v_get (v := pA (M.1 a0 0)) 9 0 rfl inX10 (by decide) tw421 dX10_carry_1 h1 rfl ?_
  refine v_iload_n dX10_carry_4 rfl ?_
  refine v_if (fun h4 => ?_)
  refine v_cV (mi := mX10_carry) (c0 := 0) (c1 := 0) (As := [pI a1]) (st := []) (kX6_townAt d (by omega) _ _ _) rfl h4 rfl okX6_townAt (Or.inl tw680) tw681 tw682 rfl (Nat.le_of_ble_eq_true rfl) dX10_carry_5 (fun r2 => [pA r2]) (fun r2 => M) (fun _ => rfl) (fun _ => rfl) (fun r2 h3 => ?_) rfl
  refine v_astore_n (ls' := [some (pA a0), some (pI a1), some (pA r2)]) dX10_carry_8 (by decide) rfl ?_
  refine v_aload_n dX10_carry_9 rfl ?_
  refine v_ifnonnull (tgt := 17) dX10_carry_10 (by decide) (fun c5 => ?_) (fun c5 => ?_)
  · refine v_iconst dX10_carry_13 (by decide) ?_
    refine v_goto (tgt := 25) dX10_carry_14 (by decide) ?_
    exact v_ireturn dX10_carry_25 rfl rfl
  · refine v_aload_n dX10_carry_17 rfl ?_
    refine v_get (v := pA (M.1 a0 4)) 9 4 rfl inX10 (by decide) tw425 dX10_carry_18 h1 rfl ?_
    refine v_aload_n dX10_carry_21 rfl ?_
    refine v_if (fun h8 => ?_)
    refine v_cV (mi := mX10_carry) (c0 := 0) (c1 := 0) (As := [pA r2]) (st := []) (kX5_carryAll d (by omega) _ _ _) rfl h8 rfl okX5_carryAll (Or.inl tw890) tw891 tw892 rfl (Nat.le_of_ble_eq_true rfl) dX10_carry_22 (fun r6 => [pI r6.1]) (fun r6 => r6.2) (fun _ => rfl) (fun _ => rfl) (fun r6 h7 => ?_) rfl
    exact v_ireturn dX10_carry_25 rfl rfl
theorem dX10_round_0 : decode cX10_round 0 = .ok (.aload_n 0, 1) := by decide +kernel
theorem dX10_round_1 : decode cX10_round 1 = .ok (.getfield 12, 3) := by decide +kernel
theorem dX10_round_4 : decode cX10_round 4 = .ok (.iload_n 1, 1) := by decide +kernel
theorem dX10_round_5 : decode cX10_round 5 = .ok (.invokevirtual 92, 3) := by decide +kernel
theorem dX10_round_8 : decode cX10_round 8 = .ok (.astore_n 3, 1) := by decide +kernel
theorem dX10_round_9 : decode cX10_round 9 = .ok (.aload_n 3, 1) := by decide +kernel
theorem dX10_round_10 : decode cX10_round 10 = .ok (.ifnonnull 5, 3) := by decide +kernel
theorem dX10_round_13 : decode cX10_round 13 = .ok (.iconst (-1), 1) := by decide +kernel
theorem dX10_round_14 : decode cX10_round 14 = .ok (.ireturn, 1) := by decide +kernel
theorem dX10_round_15 : decode cX10_round 15 = .ok (.iload_n 2, 1) := by decide +kernel
theorem dX10_round_16 : decode cX10_round 16 = .ok (.iconst (-1), 1) := by decide +kernel
theorem dX10_round_17 : decode cX10_round 17 = .ok (.if_icmp .ne 8, 3) := by decide +kernel
theorem dX10_round_20 : decode cX10_round 20 = .ok (.aload_n 3, 1) := by decide +kernel
theorem dX10_round_21 : decode cX10_round 21 = .ok (.invokevirtual 237, 3) := by decide +kernel
theorem dX10_round_24 : decode cX10_round 24 = .ok (.ireturn, 1) := by decide +kernel
theorem dX10_round_25 : decode cX10_round 25 = .ok (.aload_n 3, 1) := by decide +kernel
theorem dX10_round_26 : decode cX10_round 26 = .ok (.iload_n 2, 1) := by decide +kernel
theorem dX10_round_27 : decode cX10_round 27 = .ok (.invokevirtual 104, 3) := by decide +kernel
theorem dX10_round_30 : decode cX10_round 30 = .ok (.ifCond .eq 11, 3) := by decide +kernel
theorem dX10_round_33 : decode cX10_round 33 = .ok (.aload_n 3, 1) := by decide +kernel
theorem dX10_round_34 : decode cX10_round 34 = .ok (.iload_n 2, 1) := by decide +kernel
theorem dX10_round_35 : decode cX10_round 35 = .ok (.invokevirtual 241, 3) := by decide +kernel
theorem dX10_round_38 : decode cX10_round 38 = .ok (.goto 4, 3) := by decide +kernel
theorem dX10_round_41 : decode cX10_round 41 = .ok (.iconst (-1), 1) := by decide +kernel
theorem dX10_round_42 : decode cX10_round 42 = .ok (.ireturn, 1) := by decide +kernel
abbrev mX10_round : MI := (yX10_round, cX10_round, 4, (some .int), noE)
theorem okX10_round : cok mX10_round 2 := ⟨tw912, tw1, by decide, by decide, by decide, by decide +kernel⟩
def fX10_round (M : Mem) (a0 a1 a2 : Int) : Option Int :=
  if M.2.1 a0 = 9 then if M.2.1 (M.1 a0 0) = 6 then (fX6_townAt M (M.1 a0 0) a1).bind fun r2 => if r2 = -1 then (some (-1)) else (if a2 = (-1) then (if M.2.1 r2 = 7 then (fX7_allHome M r2).bind fun r7 => some r7 else none) else (if M.2.1 r2 = 7 then (fX7_isHouse M r2 a2).bind fun r10 => if r10 = 0 then (some (-1)) else ((fX7_homeAgain M r2 a2).bind fun r14 => some r14) else none)) else none else none
set_option maxRecDepth 100000 in
set_option maxHeartbeats 4000000 in
theorem kX10_round (d : Nat) (hd : 2 ≤ d) (M : Mem) (a0 a1 a2 : Int) : Ct mX10_round d 0 0 [pA a0, pI a1, pI a2] M (dI M) (fX10_round M a0 a1 a2) := by
  obtain ⟨d, rfl⟩ : ∃ k, d = k + 1 := ⟨d - 1, by omega⟩
  refine Ct.of 1 (fun _ _ _ => trivial) (by decide +kernel) rfl ?_
  unfold fX10_round
  refine v_aload_n dX10_round_0 rfl ?_
  refine v_if (fun h1 => ?_)
  refine v_get (v := pA (M.1 a0 0)) 9 0 rfl inX10 (by decide) tw421 dX10_round_1 h1 rfl ?_
  refine v_iload_n dX10_round_4 rfl ?_
  refine v_if (fun h4 => ?_)
  refine v_cV (mi := mX10_round) (c0 := 0) (c1 := 0) (As := [pI a1]) (st := []) (kX6_townAt d (by omega) _ _ _) rfl h4 rfl okX6_townAt (Or.inl tw680) tw681 tw682 rfl (Nat.le_of_ble_eq_true rfl) dX10_round_5 (fun r2 => [pA r2]) (fun r2 => M) (fun _ => rfl) (fun _ => rfl) (fun r2 h3 => ?_) rfl
  refine v_astore_n (ls' := [some (pA a0), some (pI a1), some (pI a2), some (pA r2)]) dX10_round_8 (by decide) rfl ?_
  refine v_aload_n dX10_round_9 rfl ?_
  refine v_ifnonnull (tgt := 15) dX10_round_10 (by decide) (fun c5 => ?_) (fun c5 => ?_)
  · refine v_iconst dX10_round_13 (by decide) ?_
    exact v_ireturn dX10_round_14 rfl rfl
  · refine v_iload_n dX10_round_15 rfl ?_
    refine v_iconst dX10_round_16 (by decide) ?_
    refine v_icmp_ne (tgt := 25) dX10_round_17 (by decide) (fun c6 => ?_) (fun c6 => ?_)
    · refine v_aload_n dX10_round_20 rfl ?_
      refine v_if (fun h9 => ?_)
      refine v_cV (mi := mX10_round) (c0 := 0) (c1 := 0) (As := []) (st := []) (kX7_allHome d (by omega) _ _) rfl h9 rfl okX7_allHome (Or.inl tw913) tw914 tw915 rfl (Nat.le_of_ble_eq_true rfl) dX10_round_21 (fun r7 => [pI r7]) (fun r7 => M) (fun _ => rfl) (fun _ => rfl) (fun r7 h8 => ?_) rfl
      exact v_ireturn dX10_round_24 rfl rfl
    · refine v_aload_n dX10_round_25 rfl ?_
      refine v_iload_n dX10_round_26 rfl ?_
      refine v_if (fun h12 => ?_)
      refine v_cV (mi := mX10_round) (c0 := 0) (c1 := 0) (As := [pI a2]) (st := []) (kX7_isHouse d (by omega) _ _ _) rfl h12 rfl okX7_isHouse (Or.inl tw684) tw685 tw686 rfl (Nat.le_of_ble_eq_true rfl) dX10_round_27 (fun r10 => [pI r10]) (fun r10 => M) (fun _ => rfl) (fun _ => rfl) (fun r10 h11 => ?_) rfl
      refine v_if_eq (tgt := 41) dX10_round_30 (by decide) (fun c13 => ?_) (fun c13 => ?_)
      · refine v_iconst dX10_round_41 (by decide) ?_
        exact v_ireturn dX10_round_42 rfl rfl
      · refine v_aload_n dX10_round_33 rfl ?_
        refine v_iload_n dX10_round_34 rfl ?_
        refine v_cV (mi := mX10_round) (c0 := 0) (c1 := 0) (As := [pI a2]) (st := []) (kX7_homeAgain d (by omega) _ _ _) rfl h12 rfl okX7_homeAgain (Or.inl tw924) tw918 tw919 rfl (Nat.le_of_ble_eq_true rfl) dX10_round_35 (fun r14 => [pI r14]) (fun r14 => M) (fun _ => rfl) (fun _ => rfl) (fun r14 h15 => ?_) rfl
        refine v_goto (tgt := 42) dX10_round_38 (by decide) ?_
        exact v_ireturn dX10_round_42 rfl rfl
theorem dX10_meets_0 : decode cX10_meets 0 = .ok (.aload_n 0, 1) := by decide +kernel
theorem dX10_meets_1 : decode cX10_meets 1 = .ok (.getfield 12, 3) := by decide +kernel
theorem dX10_meets_4 : decode cX10_meets 4 = .ok (.iload_n 1, 1) := by decide +kernel
theorem dX10_meets_5 : decode cX10_meets 5 = .ok (.invokevirtual 92, 3) := by decide +kernel
theorem dX10_meets_8 : decode cX10_meets 8 = .ok (.astore 4, 2) := by decide +kernel
theorem dX10_meets_10 : decode cX10_meets 10 = .ok (.aload 4, 2) := by decide +kernel
theorem dX10_meets_12 : decode cX10_meets 12 = .ok (.ifnull 21, 3) := by decide +kernel
theorem dX10_meets_15 : decode cX10_meets 15 = .ok (.aload 4, 2) := by decide +kernel
theorem dX10_meets_17 : decode cX10_meets 17 = .ok (.iload_n 2, 1) := by decide +kernel
theorem dX10_meets_18 : decode cX10_meets 18 = .ok (.invokevirtual 104, 3) := by decide +kernel
theorem dX10_meets_21 : decode cX10_meets 21 = .ok (.ifCond .eq 12, 3) := by decide +kernel
theorem dX10_meets_24 : decode cX10_meets 24 = .ok (.aload 4, 2) := by decide +kernel
theorem dX10_meets_26 : decode cX10_meets 26 = .ok (.iload_n 3, 1) := by decide +kernel
theorem dX10_meets_27 : decode cX10_meets 27 = .ok (.invokevirtual 104, 3) := by decide +kernel
theorem dX10_meets_30 : decode cX10_meets 30 = .ok (.ifCond .ne 5, 3) := by decide +kernel
theorem dX10_meets_33 : decode cX10_meets 33 = .ok (.iconst (-1), 1) := by decide +kernel
theorem dX10_meets_34 : decode cX10_meets 34 = .ok (.ireturn, 1) := by decide +kernel
theorem dX10_meets_35 : decode cX10_meets 35 = .ok (.aload 4, 2) := by decide +kernel
theorem dX10_meets_37 : decode cX10_meets 37 = .ok (.iload_n 2, 1) := by decide +kernel
theorem dX10_meets_38 : decode cX10_meets 38 = .ok (.iload_n 3, 1) := by decide +kernel
theorem dX10_meets_39 : decode cX10_meets 39 = .ok (.invokevirtual 244, 3) := by decide +kernel
theorem dX10_meets_42 : decode cX10_meets 42 = .ok (.ireturn, 1) := by decide +kernel
abbrev mX10_meets : MI := (yX10_meets, cX10_meets, 5, (some .int), noE)
theorem okX10_meets : cok mX10_meets 3 := ⟨tw928, tw1, by decide, by decide, by decide, by decide +kernel⟩
def fX10_meets (M : Mem) (a0 a1 a2 a3 : Int) : Option Int :=
  if M.2.1 a0 = 9 then if M.2.1 (M.1 a0 0) = 6 then (fX6_townAt M (M.1 a0 0) a1).bind fun r2 => if r2 = -1 then (some (-1)) else (if M.2.1 r2 = 7 then (fX7_isHouse M r2 a2).bind fun r6 => if r6 = 0 then (some (-1)) else ((fX7_isHouse M r2 a3).bind fun r10 => if r10 = 0 then (some (-1)) else ((fX7_meeting M r2 a2 a3).bind fun r13 => some r13)) else none) else none else none
set_option maxRecDepth 100000 in
set_option maxHeartbeats 4000000 in
theorem kX10_meets (d : Nat) (hd : 2 ≤ d) (M : Mem) (a0 a1 a2 a3 : Int) : Ct mX10_meets d 0 0 [pA a0, pI a1, pI a2, pI a3] M (dI M) (fX10_meets M a0 a1 a2 a3) := by
  obtain ⟨d, rfl⟩ : ∃ k, d = k + 1 := ⟨d - 1, by omega⟩
  refine Ct.of 1 (fun _ _ _ => trivial) (by decide +kernel) rfl ?_
  unfold fX10_meets
  refine v_aload_n dX10_meets_0 rfl ?_
  refine v_if (fun h1 => ?_)
  refine v_get (v := pA (M.1 a0 0)) 9 0 rfl inX10 (by decide) tw421 dX10_meets_1 h1 rfl ?_
  refine v_iload_n dX10_meets_4 rfl ?_
  refine v_if (fun h4 => ?_)
  refine v_cV (mi := mX10_meets) (c0 := 0) (c1 := 0) (As := [pI a1]) (st := []) (kX6_townAt d (by omega) _ _ _) rfl h4 rfl okX6_townAt (Or.inl tw680) tw681 tw682 rfl (Nat.le_of_ble_eq_true rfl) dX10_meets_5 (fun r2 => [pA r2]) (fun r2 => M) (fun _ => rfl) (fun _ => rfl) (fun r2 h3 => ?_) rfl
  refine v_astore (ls' := [some (pA a0), some (pI a1), some (pI a2), some (pI a3), some (pA r2)]) dX10_meets_8 (by decide) rfl ?_
  refine v_aload dX10_meets_10 rfl ?_
  refine v_ifnull (tgt := 33) dX10_meets_12 (by decide) (fun c5 => ?_) (fun c5 => ?_)
  · refine v_iconst dX10_meets_33 (by decide) ?_
    exact v_ireturn dX10_meets_34 rfl rfl
  · refine v_aload dX10_meets_15 rfl ?_
    refine v_iload_n dX10_meets_17 rfl ?_
    refine v_if (fun h8 => ?_)
    refine v_cV (mi := mX10_meets) (c0 := 0) (c1 := 0) (As := [pI a2]) (st := []) (kX7_isHouse d (by omega) _ _ _) rfl h8 rfl okX7_isHouse (Or.inl tw684) tw685 tw686 rfl (Nat.le_of_ble_eq_true rfl) dX10_meets_18 (fun r6 => [pI r6]) (fun r6 => M) (fun _ => rfl) (fun _ => rfl) (fun r6 h7 => ?_) rfl
    refine v_if_eq (tgt := 33) dX10_meets_21 (by decide) (fun c9 => ?_) (fun c9 => ?_)
    · refine v_iconst dX10_meets_33 (by decide) ?_
      exact v_ireturn dX10_meets_34 rfl rfl
    · refine v_aload dX10_meets_24 rfl ?_
      refine v_iload_n dX10_meets_26 rfl ?_
      refine v_cV (mi := mX10_meets) (c0 := 0) (c1 := 0) (As := [pI a3]) (st := []) (kX7_isHouse d (by omega) _ _ _) rfl h8 rfl okX7_isHouse (Or.inl tw684) tw685 tw686 rfl (Nat.le_of_ble_eq_true rfl) dX10_meets_27 (fun r10 => [pI r10]) (fun r10 => M) (fun _ => rfl) (fun _ => rfl) (fun r10 h11 => ?_) rfl
      refine v_if_ne (tgt := 35) dX10_meets_30 (by decide) (fun c12 => ?_) (fun c12 => ?_)
      · refine v_iconst dX10_meets_33 (by decide) ?_
        exact v_ireturn dX10_meets_34 rfl rfl
      · refine v_aload dX10_meets_35 rfl ?_
        refine v_iload_n dX10_meets_37 rfl ?_
        refine v_iload_n dX10_meets_38 rfl ?_
        refine v_cV (mi := mX10_meets) (c0 := 0) (c1 := 0) (As := [pI a2, pI a3]) (st := []) (kX7_meeting d (by omega) _ _ _ _) rfl h8 rfl okX7_meeting (Or.inl tw929) tw930 tw931 rfl (Nat.le_of_ble_eq_true rfl) dX10_meets_39 (fun r13 => [pI r13]) (fun r13 => M) (fun _ => rfl) (fun _ => rfl) (fun r13 h14 => ?_) rfl
        exact v_ireturn dX10_meets_42 rfl rfl
theorem dX10_sight_0 : decode cX10_sight 0 = .ok (.aload_n 0, 1) := by decide +kernel
theorem dX10_sight_1 : decode cX10_sight 1 = .ok (.getfield 12, 3) := by decide +kernel
theorem dX10_sight_4 : decode cX10_sight 4 = .ok (.iload_n 1, 1) := by decide +kernel
theorem dX10_sight_5 : decode cX10_sight 5 = .ok (.invokevirtual 247, 3) := by decide +kernel
theorem dX10_sight_8 : decode cX10_sight 8 = .ok (.astore_n 3, 1) := by decide +kernel
theorem dX10_sight_9 : decode cX10_sight 9 = .ok (.aload_n 3, 1) := by decide +kernel
theorem dX10_sight_10 : decode cX10_sight 10 = .ok (.ifnonnull 6, 3) := by decide +kernel
theorem dX10_sight_13 : decode cX10_sight 13 = .ok (.bipush (-2), 2) := by decide +kernel
theorem dX10_sight_15 : decode cX10_sight 15 = .ok (.ireturn, 1) := by decide +kernel
theorem dX10_sight_16 : decode cX10_sight 16 = .ok (.iload_n 2, 1) := by decide +kernel
theorem dX10_sight_17 : decode cX10_sight 17 = .ok (.ifCond .ne 8, 3) := by decide +kernel
theorem dX10_sight_20 : decode cX10_sight 20 = .ok (.aload_n 3, 1) := by decide +kernel
theorem dX10_sight_21 : decode cX10_sight 21 = .ok (.getfield 251, 3) := by decide +kernel
theorem dX10_sight_24 : decode cX10_sight 24 = .ok (.ireturn, 1) := by decide +kernel
theorem dX10_sight_25 : decode cX10_sight 25 = .ok (.iload_n 2, 1) := by decide +kernel
theorem dX10_sight_26 : decode cX10_sight 26 = .ok (.bipush 10, 2) := by decide +kernel
theorem dX10_sight_28 : decode cX10_sight 28 = .ok (.if_icmp .lt 24, 3) := by decide +kernel
theorem dX10_sight_31 : decode cX10_sight 31 = .ok (.iload_n 2, 1) := by decide +kernel
theorem dX10_sight_32 : decode cX10_sight 32 = .ok (.bipush 10, 2) := by decide +kernel
theorem dX10_sight_34 : decode cX10_sight 34 = .ok (.aload_n 3, 1) := by decide +kernel
theorem dX10_sight_35 : decode cX10_sight 35 = .ok (.getfield 251, 3) := by decide +kernel
theorem dX10_sight_38 : decode cX10_sight 38 = .ok (.iadd, 1) := by decide +kernel
theorem dX10_sight_39 : decode cX10_sight 39 = .ok (.if_icmp .ge 13, 3) := by decide +kernel
theorem dX10_sight_42 : decode cX10_sight 42 = .ok (.aload_n 3, 1) := by decide +kernel
theorem dX10_sight_43 : decode cX10_sight 43 = .ok (.getfield 254, 3) := by decide +kernel
theorem dX10_sight_46 : decode cX10_sight 46 = .ok (.iload_n 2, 1) := by decide +kernel
theorem dX10_sight_47 : decode cX10_sight 47 = .ok (.bipush 10, 2) := by decide +kernel
theorem dX10_sight_49 : decode cX10_sight 49 = .ok (.isub, 1) := by decide +kernel
theorem dX10_sight_50 : decode cX10_sight 50 = .ok (.iaload, 1) := by decide +kernel
theorem dX10_sight_51 : decode cX10_sight 51 = .ok (.ireturn, 1) := by decide +kernel
theorem dX10_sight_52 : decode cX10_sight 52 = .ok (.iload_n 2, 1) := by decide +kernel
theorem dX10_sight_53 : decode cX10_sight 53 = .ok (.bipush 20, 2) := by decide +kernel
theorem dX10_sight_55 : decode cX10_sight 55 = .ok (.if_icmp .lt 24, 3) := by decide +kernel
theorem dX10_sight_58 : decode cX10_sight 58 = .ok (.iload_n 2, 1) := by decide +kernel
theorem dX10_sight_59 : decode cX10_sight 59 = .ok (.bipush 20, 2) := by decide +kernel
theorem dX10_sight_61 : decode cX10_sight 61 = .ok (.aload_n 3, 1) := by decide +kernel
theorem dX10_sight_62 : decode cX10_sight 62 = .ok (.getfield 251, 3) := by decide +kernel
theorem dX10_sight_65 : decode cX10_sight 65 = .ok (.iadd, 1) := by decide +kernel
theorem dX10_sight_66 : decode cX10_sight 66 = .ok (.if_icmp .ge 13, 3) := by decide +kernel
theorem dX10_sight_69 : decode cX10_sight 69 = .ok (.aload_n 3, 1) := by decide +kernel
theorem dX10_sight_70 : decode cX10_sight 70 = .ok (.getfield 257, 3) := by decide +kernel
theorem dX10_sight_73 : decode cX10_sight 73 = .ok (.iload_n 2, 1) := by decide +kernel
theorem dX10_sight_74 : decode cX10_sight 74 = .ok (.bipush 20, 2) := by decide +kernel
theorem dX10_sight_76 : decode cX10_sight 76 = .ok (.isub, 1) := by decide +kernel
theorem dX10_sight_77 : decode cX10_sight 77 = .ok (.iaload, 1) := by decide +kernel
theorem dX10_sight_78 : decode cX10_sight 78 = .ok (.ireturn, 1) := by decide +kernel
theorem dX10_sight_79 : decode cX10_sight 79 = .ok (.iload_n 2, 1) := by decide +kernel
theorem dX10_sight_80 : decode cX10_sight 80 = .ok (.bipush 30, 2) := by decide +kernel
theorem dX10_sight_82 : decode cX10_sight 82 = .ok (.if_icmp .lt 19, 3) := by decide +kernel
theorem dX10_sight_85 : decode cX10_sight 85 = .ok (.iload_n 2, 1) := by decide +kernel
theorem dX10_sight_86 : decode cX10_sight 86 = .ok (.bipush 60, 2) := by decide +kernel
theorem dX10_sight_88 : decode cX10_sight 88 = .ok (.if_icmp .ge 13, 3) := by decide +kernel
theorem dX10_sight_91 : decode cX10_sight 91 = .ok (.aload_n 3, 1) := by decide +kernel
theorem dX10_sight_92 : decode cX10_sight 92 = .ok (.getfield 260, 3) := by decide +kernel
theorem dX10_sight_95 : decode cX10_sight 95 = .ok (.iload_n 2, 1) := by decide +kernel
theorem dX10_sight_96 : decode cX10_sight 96 = .ok (.bipush 30, 2) := by decide +kernel
theorem dX10_sight_98 : decode cX10_sight 98 = .ok (.isub, 1) := by decide +kernel
theorem dX10_sight_99 : decode cX10_sight 99 = .ok (.iaload, 1) := by decide +kernel
theorem dX10_sight_100 : decode cX10_sight 100 = .ok (.ireturn, 1) := by decide +kernel
theorem dX10_sight_101 : decode cX10_sight 101 = .ok (.bipush (-2), 2) := by decide +kernel
theorem dX10_sight_103 : decode cX10_sight 103 = .ok (.ireturn, 1) := by decide +kernel
abbrev mX10_sight : MI := (yX10_sight, cX10_sight, 4, (some .int), noE)
theorem okX10_sight : cok mX10_sight 2 := ⟨tw936, tw1, by decide, by decide, by decide, by decide +kernel⟩
def fX10_sight (M : Mem) (a0 a1 a2 : Int) : Option Int :=
  if M.2.1 a0 = 9 then if M.2.1 (M.1 a0 0) = 6 then (fX6_sightAt M (M.1 a0 0) a1).bind fun r2 => if r2 = -1 then (some (-2)) else (if a2 = 0 then (if M.2.1 r2 = 4 then some (M.1 r2 0) else none) else (jn (fun (t9 : Unit) => jn (fun (t11 : Unit) => if a2 < 30 then (some (-2)) else (if a2 < 60 then (if M.2.1 r2 = 4 then if M.2.1 (M.1 r2 3) = 12 ∧ (0 : Int) ≤ (w32 (a2 - 30)) ∧ (w32 (a2 - 30)) < M.2.2.1 (M.1 r2 3) then some (M.1 (M.1 r2 3) (w32 (a2 - 30))) else none else none) else (some (-2)))) (fun (j10 : Unit → Option Int) => if a2 < 20 then (j10 ()) else (if M.2.1 r2 = 4 then if a2 < w32 (20 + (M.1 r2 0)) then (if M.2.1 (M.1 r2 2) = 12 ∧ (0 : Int) ≤ (w32 (a2 - 20)) ∧ (w32 (a2 - 20)) < M.2.2.1 (M.1 r2 2) then some (M.1 (M.1 r2 2) (w32 (a2 - 20))) else none) else (j10 ()) else none))) (fun (j8 : Unit → Option Int) => if a2 < 10 then (j8 ()) else (if M.2.1 r2 = 4 then if a2 < w32 (10 + (M.1 r2 0)) then (if M.2.1 (M.1 r2 1) = 12 ∧ (0 : Int) ≤ (w32 (a2 - 10)) ∧ (w32 (a2 - 10)) < M.2.2.1 (M.1 r2 1) then some (M.1 (M.1 r2 1) (w32 (a2 - 10))) else none) else (j8 ()) else none)))) else none else none
set_option maxRecDepth 100000 in
set_option maxHeartbeats 4000000 in
theorem kX10_sight (d : Nat) (hd : 2 ≤ d) (M : Mem) (a0 a1 a2 : Int) : Ct mX10_sight d 0 0 [pA a0, pI a1, pI a2] M (dI M) (fX10_sight M a0 a1 a2) := by
  obtain ⟨d, rfl⟩ : ∃ k, d = k + 1 := ⟨d - 1, by omega⟩
  refine Ct.of 1 (fun _ _ _ => trivial) (by decide +kernel) rfl ?_
  unfold fX10_sight
  refine v_aload_n dX10_sight_0 rfl ?_
  refine v_if (fun h1 => ?_)
  refine v_get (v := pA (M.1 a0 0)) 9 0 rfl inX10 (by decide) tw421 dX10_sight_1 h1 rfl ?_
  refine v_iload_n dX10_sight_4 rfl ?_
  refine v_if (fun h4 => ?_)
  refine v_cV (mi := mX10_sight) (c0 := 0) (c1 := 0) (As := [pI a1]) (st := []) (kX6_sightAt d (by omega) _ _ _) rfl h4 rfl okX6_sightAt (Or.inl tw937) tw938 tw939 rfl (Nat.le_of_ble_eq_true rfl) dX10_sight_5 (fun r2 => [pA r2]) (fun r2 => M) (fun _ => rfl) (fun _ => rfl) (fun r2 h3 => ?_) rfl
  refine v_astore_n (ls' := [some (pA a0), some (pI a1), some (pI a2), some (pA r2)]) dX10_sight_8 (by decide) rfl ?_
  refine v_aload_n dX10_sight_9 rfl ?_
  refine v_ifnonnull (tgt := 16) dX10_sight_10 (by decide) (fun c5 => ?_) (fun c5 => ?_)
  · refine v_bipush dX10_sight_13 (by decide) ?_
    exact v_ireturn dX10_sight_15 rfl rfl
  · refine v_iload_n dX10_sight_16 rfl ?_
    refine v_if_ne (tgt := 25) dX10_sight_17 (by decide) (fun c6 => ?_) (fun c6 => ?_)
    · refine v_aload_n dX10_sight_20 rfl ?_
      refine v_if (fun h7 => ?_)
      refine v_get (v := pI (M.1 r2 0)) 4 0 rfl inX4 (by decide) tw187 dX10_sight_21 h7 rfl ?_
      exact v_ireturn dX10_sight_24 rfl rfl
    · refine v_iload_n dX10_sight_25 rfl ?_
      refine v_bipush dX10_sight_26 (by decide) ?_
      refine v_join (fun (t9 : Unit) => [none, none, some (pI a2), some (pA r2)]) (fun (t9 : Unit) => []) (fun (t9 : Unit) => M) 52 (fun t9 => ?_) (fun j8 hj8 => ?_)
      · refine v_iload_n dX10_sight_52 rfl ?_
        refine v_bipush dX10_sight_53 (by decide) ?_
        refine v_join (fun (t11 : Unit) => [none, none, some (pI a2), some (pA r2)]) (fun (t11 : Unit) => []) (fun (t11 : Unit) => M) 79 (fun t11 => ?_) (fun j10 hj10 => ?_)
        · refine v_iload_n dX10_sight_79 rfl ?_
          refine v_bipush dX10_sight_80 (by decide) ?_
          refine v_icmp_lt (tgt := 101) dX10_sight_82 (by decide) (fun c12 => ?_) (fun c12 => ?_)
          · refine v_bipush dX10_sight_101 (by decide) ?_
            exact v_ireturn dX10_sight_103 rfl rfl
          · refine v_iload_n dX10_sight_85 rfl ?_
            refine v_bipush dX10_sight_86 (by decide) ?_
            refine v_icmp_ge (tgt := 101) dX10_sight_88 (by decide) (fun c13 => ?_) (fun c13 => ?_)
            · refine v_aload_n dX10_sight_91 rfl ?_
              refine v_if (fun h14 => ?_)
              refine v_get (v := pA (M.1 r2 3)) 4 3 rfl inX4 (by decide) tw194 dX10_sight_92 h14 rfl ?_
              refine v_iload_n dX10_sight_95 rfl ?_
              refine v_bipush dX10_sight_96 (by decide) ?_
              refine v_isub dX10_sight_98 ?_
              refine v_if (fun h15 => ?_)
              refine v_iaload h15 dX10_sight_99 ?_
              exact v_ireturn dX10_sight_100 rfl rfl
            · refine v_bipush dX10_sight_101 (by decide) ?_
              exact v_ireturn dX10_sight_103 rfl rfl
        · refine v_icmp_lt (tgt := 79) dX10_sight_55 (by decide) (fun c16 => ?_) (fun c16 => ?_)
          · exact hj10 ()
          · refine v_iload_n dX10_sight_58 rfl ?_
            refine v_bipush dX10_sight_59 (by decide) ?_
            refine v_aload_n dX10_sight_61 rfl ?_
            refine v_if (fun h17 => ?_)
            refine v_get (v := pI (M.1 r2 0)) 4 0 rfl inX4 (by decide) tw187 dX10_sight_62 h17 rfl ?_
            refine v_iadd dX10_sight_65 ?_
            refine v_icmp_ge (tgt := 79) dX10_sight_66 (by decide) (fun c18 => ?_) (fun c18 => ?_)
            · refine v_aload_n dX10_sight_69 rfl ?_
              refine v_get (v := pA (M.1 r2 2)) 4 2 rfl inX4 (by decide) tw191 dX10_sight_70 h17 rfl ?_
              refine v_iload_n dX10_sight_73 rfl ?_
              refine v_bipush dX10_sight_74 (by decide) ?_
              refine v_isub dX10_sight_76 ?_
              refine v_if (fun h19 => ?_)
              refine v_iaload h19 dX10_sight_77 ?_
              exact v_ireturn dX10_sight_78 rfl rfl
            · exact hj10 ()
      · refine v_icmp_lt (tgt := 52) dX10_sight_28 (by decide) (fun c20 => ?_) (fun c20 => ?_)
        · exact v_drop [none, none, some (pI a2), some (pA r2)] (ls_n (ls_n (ls_s (ls_s ls_e)))) (hj8 ())
        · refine v_iload_n dX10_sight_31 rfl ?_
          refine v_bipush dX10_sight_32 (by decide) ?_
          refine v_aload_n dX10_sight_34 rfl ?_
          refine v_if (fun h21 => ?_)
          refine v_get (v := pI (M.1 r2 0)) 4 0 rfl inX4 (by decide) tw187 dX10_sight_35 h21 rfl ?_
          refine v_iadd dX10_sight_38 ?_
          refine v_icmp_ge (tgt := 52) dX10_sight_39 (by decide) (fun c22 => ?_) (fun c22 => ?_)
          · refine v_aload_n dX10_sight_42 rfl ?_
            refine v_get (v := pA (M.1 r2 1)) 4 1 rfl inX4 (by decide) tw189 dX10_sight_43 h21 rfl ?_
            refine v_iload_n dX10_sight_46 rfl ?_
            refine v_bipush dX10_sight_47 (by decide) ?_
            refine v_isub dX10_sight_49 ?_
            refine v_if (fun h23 => ?_)
            refine v_iaload h23 dX10_sight_50 ?_
            exact v_ireturn dX10_sight_51 rfl rfl
          · exact v_drop [none, none, some (pI a2), some (pA r2)] (ls_n (ls_n (ls_s (ls_s ls_e)))) (hj8 ())
theorem dX10_hands_0 : decode cX10_hands 0 = .ok (.aload_n 0, 1) := by decide +kernel
theorem dX10_hands_1 : decode cX10_hands 1 = .ok (.getfield 12, 3) := by decide +kernel
theorem dX10_hands_4 : decode cX10_hands 4 = .ok (.iload 4, 2) := by decide +kernel
theorem dX10_hands_6 : decode cX10_hands 6 = .ok (.invokevirtual 247, 3) := by decide +kernel
theorem dX10_hands_9 : decode cX10_hands 9 = .ok (.astore 6, 2) := by decide +kernel
theorem dX10_hands_11 : decode cX10_hands 11 = .ok (.aload 6, 2) := by decide +kernel
theorem dX10_hands_13 : decode cX10_hands 13 = .ok (.ifnull 31, 3) := by decide +kernel
theorem dX10_hands_16 : decode cX10_hands 16 = .ok (.iload 5, 2) := by decide +kernel
theorem dX10_hands_18 : decode cX10_hands 18 = .ok (.iconst (-1), 1) := by decide +kernel
theorem dX10_hands_19 : decode cX10_hands 19 = .ok (.if_icmp .lt 25, 3) := by decide +kernel
theorem dX10_hands_22 : decode cX10_hands 22 = .ok (.iload 5, 2) := by decide +kernel
theorem dX10_hands_24 : decode cX10_hands 24 = .ok (.aload 6, 2) := by decide +kernel
theorem dX10_hands_26 : decode cX10_hands 26 = .ok (.getfield 251, 3) := by decide +kernel
theorem dX10_hands_29 : decode cX10_hands 29 = .ok (.if_icmp .ge 15, 3) := by decide +kernel
theorem dX10_hands_32 : decode cX10_hands 32 = .ok (.aload_n 0, 1) := by decide +kernel
theorem dX10_hands_33 : decode cX10_hands 33 = .ok (.iload_n 1, 1) := by decide +kernel
theorem dX10_hands_34 : decode cX10_hands 34 = .ok (.iload_n 2, 1) := by decide +kernel
theorem dX10_hands_35 : decode cX10_hands 35 = .ok (.iload_n 3, 1) := by decide +kernel
theorem dX10_hands_36 : decode cX10_hands 36 = .ok (.bipush 40, 2) := by decide +kernel
theorem dX10_hands_38 : decode cX10_hands 38 = .ok (.invokevirtual 185, 3) := by decide +kernel
theorem dX10_hands_41 : decode cX10_hands 41 = .ok (.ifCond .ne 5, 3) := by decide +kernel
theorem dX10_hands_44 : decode cX10_hands 44 = .ok (.iconst (-1), 1) := by decide +kernel
theorem dX10_hands_45 : decode cX10_hands 45 = .ok (.ireturn, 1) := by decide +kernel
theorem dX10_hands_46 : decode cX10_hands 46 = .ok (.iload 5, 2) := by decide +kernel
theorem dX10_hands_48 : decode cX10_hands 48 = .ok (.iconst (-1), 1) := by decide +kernel
theorem dX10_hands_49 : decode cX10_hands 49 = .ok (.if_icmp .ne 15, 3) := by decide +kernel
theorem dX10_hands_52 : decode cX10_hands 52 = .ok (.aload 6, 2) := by decide +kernel
theorem dX10_hands_54 : decode cX10_hands 54 = .ok (.aload_n 0, 1) := by decide +kernel
theorem dX10_hands_55 : decode cX10_hands 55 = .ok (.getfield 40, 3) := by decide +kernel
theorem dX10_hands_58 : decode cX10_hands 58 = .ok (.invokevirtual 263, 3) := by decide +kernel
theorem dX10_hands_61 : decode cX10_hands 61 = .ok (.goto 14, 3) := by decide +kernel
theorem dX10_hands_64 : decode cX10_hands 64 = .ok (.aload 6, 2) := by decide +kernel
theorem dX10_hands_66 : decode cX10_hands 66 = .ok (.aload_n 0, 1) := by decide +kernel
theorem dX10_hands_67 : decode cX10_hands 67 = .ok (.getfield 40, 3) := by decide +kernel
theorem dX10_hands_70 : decode cX10_hands 70 = .ok (.iload 5, 2) := by decide +kernel
theorem dX10_hands_72 : decode cX10_hands 72 = .ok (.invokevirtual 267, 3) := by decide +kernel
theorem dX10_hands_75 : decode cX10_hands 75 = .ok (.ireturn, 1) := by decide +kernel
abbrev mX10_hands : MI := (yX10_hands, cX10_hands, 7, (some .int), noE)
theorem okX10_hands : cok mX10_hands 5 := ⟨tw944, tw1, by decide, by decide, by decide, by decide +kernel⟩
def fX10_hands (M : Mem) (a0 a1 a2 a3 a4 a5 : Int) : Option (Int × Mem) :=
  if M.2.1 a0 = 9 then if M.2.1 (M.1 a0 0) = 6 then (fX6_sightAt M (M.1 a0 0) a4).bind fun r2 => if r2 = -1 then (some ((-1), M)) else (if a5 < (-1) then (some ((-1), M)) else (if M.2.1 r2 = 4 then if a5 < M.1 r2 0 then ((fX10_walkTo M a0 a1 a2 a3 40).bind fun r9 => if r9.1 = 0 then (some ((-1), r9.2)) else (if a5 = (-1) then (if r9.2.2.1 a0 = 9 then if r9.2.2.1 r2 = 4 then (fX4_ways r9.2 r2 (r9.2.1 a0 3)).bind fun r14 => some (r14, r9.2) else none else none) else (if r9.2.2.1 a0 = 9 then if r9.2.2.1 r2 = 4 then (fX4_mayBe r9.2 r2 (r9.2.1 a0 3) a5).bind fun r18 => some (r18, r9.2) else none else none))) else (some ((-1), M)) else none)) else none else none
set_option maxRecDepth 100000 in
set_option maxHeartbeats 4000000 in
theorem kX10_hands (d : Nat) (hd : 25 ≤ d) (M : Mem) (a0 a1 a2 a3 a4 a5 : Int) : Ct mX10_hands d 0 0 [pA a0, pI a1, pI a2, pI a3, pI a4, pI a5] M dIM (fX10_hands M a0 a1 a2 a3 a4 a5) := by
  obtain ⟨d, rfl⟩ : ∃ k, d = k + 1 := ⟨d - 1, by omega⟩
  refine Ct.of 1 (fun _ _ _ => trivial) (by decide +kernel) rfl ?_
  unfold fX10_hands
  refine v_aload_n dX10_hands_0 rfl ?_
  refine v_if (fun h1 => ?_)
  refine v_get (v := pA (M.1 a0 0)) 9 0 rfl inX10 (by decide) tw421 dX10_hands_1 h1 rfl ?_
  refine v_iload dX10_hands_4 rfl ?_
  refine v_if (fun h4 => ?_)
  refine v_cV (mi := mX10_hands) (c0 := 0) (c1 := 0) (As := [pI a4]) (st := []) (kX6_sightAt d (by omega) _ _ _) rfl h4 rfl okX6_sightAt (Or.inl tw937) tw938 tw939 rfl (Nat.le_of_ble_eq_true rfl) dX10_hands_6 (fun r2 => [pA r2]) (fun r2 => M) (fun _ => rfl) (fun _ => rfl) (fun r2 h3 => ?_) rfl
  refine v_astore (ls' := [some (pA a0), some (pI a1), some (pI a2), some (pI a3), some (pI a4), some (pI a5), some (pA r2)]) dX10_hands_9 (by decide) rfl ?_
  refine v_aload dX10_hands_11 rfl ?_
  refine v_ifnull (tgt := 44) dX10_hands_13 (by decide) (fun c5 => ?_) (fun c5 => ?_)
  · refine v_iconst dX10_hands_44 (by decide) ?_
    exact v_ireturn dX10_hands_45 rfl rfl
  · refine v_iload dX10_hands_16 rfl ?_
    refine v_iconst dX10_hands_18 (by decide) ?_
    refine v_icmp_lt (tgt := 44) dX10_hands_19 (by decide) (fun c6 => ?_) (fun c6 => ?_)
    · refine v_iconst dX10_hands_44 (by decide) ?_
      exact v_ireturn dX10_hands_45 rfl rfl
    · refine v_iload dX10_hands_22 rfl ?_
      refine v_aload dX10_hands_24 rfl ?_
      refine v_if (fun h7 => ?_)
      refine v_get (v := pI (M.1 r2 0)) 4 0 rfl inX4 (by decide) tw187 dX10_hands_26 h7 rfl ?_
      refine v_icmp_ge (tgt := 44) dX10_hands_29 (by decide) (fun c8 => ?_) (fun c8 => ?_)
      · refine v_aload_n dX10_hands_32 rfl ?_
        refine v_iload_n dX10_hands_33 rfl ?_
        refine v_iload_n dX10_hands_34 rfl ?_
        refine v_iload_n dX10_hands_35 rfl ?_
        refine v_bipush dX10_hands_36 (by decide) ?_
        refine v_cV (mi := mX10_hands) (c0 := 0) (c1 := 0) (As := [pI a1, pI a2, pI a3, pI 40]) (st := []) (kX10_walkTo d (by omega) _ _ _ _ _ _) rfl h1 rfl okX10_walkTo (Or.inl tw734) tw736 tp14 rfl (Nat.le_of_ble_eq_true rfl) dX10_hands_38 (fun r9 => [pI r9.1]) (fun r9 => r9.2) (fun _ => rfl) (fun _ => rfl) (fun r9 h10 => ?_) rfl
        refine v_if_ne (tgt := 46) dX10_hands_41 (by decide) (fun c11 => ?_) (fun c11 => ?_)
        · refine v_iconst dX10_hands_44 (by decide) ?_
          exact v_ireturn dX10_hands_45 rfl rfl
        · refine v_iload dX10_hands_46 rfl ?_
          refine v_iconst dX10_hands_48 (by decide) ?_
          refine v_icmp_ne (tgt := 64) dX10_hands_49 (by decide) (fun c12 => ?_) (fun c12 => ?_)
          · refine v_aload dX10_hands_52 rfl ?_
            refine v_aload_n dX10_hands_54 rfl ?_
            refine v_if (fun h13 => ?_)
            refine v_get (v := pA (r9.2.1 a0 3)) 9 3 rfl inX10 (by decide) tw424 dX10_hands_55 h13 rfl ?_
            refine v_if (fun h16 => ?_)
            refine v_cV (mi := mX10_hands) (c0 := 0) (c1 := 0) (As := [pA (r9.2.1 a0 3)]) (st := []) (kX4_ways d (by omega) _ _ _) rfl h16 rfl okX4_ways (Or.inl tw945) tw946 tw947 rfl (Nat.le_of_ble_eq_true rfl) dX10_hands_58 (fun r14 => [pI r14]) (fun r14 => r9.2) (fun _ => rfl) (fun _ => rfl) (fun r14 h15 => ?_) rfl
            refine v_goto (tgt := 75) dX10_hands_61 (by decide) ?_
            exact v_ireturn dX10_hands_75 rfl rfl
          · refine v_aload dX10_hands_64 rfl ?_
            refine v_aload_n dX10_hands_66 rfl ?_
            refine v_if (fun h17 => ?_)
            refine v_get (v := pA (r9.2.1 a0 3)) 9 3 rfl inX10 (by decide) tw424 dX10_hands_67 h17 rfl ?_
            refine v_iload dX10_hands_70 rfl ?_
            refine v_if (fun h20 => ?_)
            refine v_cV (mi := mX10_hands) (c0 := 0) (c1 := 0) (As := [pA (r9.2.1 a0 3), pI a5]) (st := []) (kX4_mayBe d (by omega) _ _ _ _) rfl h20 rfl okX4_mayBe (Or.inl tw961) tw962 tw963 rfl (Nat.le_of_ble_eq_true rfl) dX10_hands_72 (fun r18 => [pI r18]) (fun r18 => r9.2) (fun _ => rfl) (fun _ => rfl) (fun r18 h19 => ?_) rfl
            exact v_ireturn dX10_hands_75 rfl rfl
      · refine v_iconst dX10_hands_44 (by decide) ?_
        exact v_ireturn dX10_hands_45 rfl rfl
theorem dX10_moved_0 : decode cX10_moved 0 = .ok (.aload_n 0, 1) := by decide +kernel
theorem dX10_moved_1 : decode cX10_moved 1 = .ok (.getfield 12, 3) := by decide +kernel
theorem dX10_moved_4 : decode cX10_moved 4 = .ok (.iload_n 1, 1) := by decide +kernel
theorem dX10_moved_5 : decode cX10_moved 5 = .ok (.invokevirtual 92, 3) := by decide +kernel
theorem dX10_moved_8 : decode cX10_moved 8 = .ok (.astore 4, 2) := by decide +kernel
theorem dX10_moved_10 : decode cX10_moved 10 = .ok (.aload_n 0, 1) := by decide +kernel
theorem dX10_moved_11 : decode cX10_moved 11 = .ok (.getfield 12, 3) := by decide +kernel
theorem dX10_moved_14 : decode cX10_moved 14 = .ok (.iload_n 2, 1) := by decide +kernel
theorem dX10_moved_15 : decode cX10_moved 15 = .ok (.invokevirtual 247, 3) := by decide +kernel
theorem dX10_moved_18 : decode cX10_moved 18 = .ok (.astore 5, 2) := by decide +kernel
theorem dX10_moved_20 : decode cX10_moved 20 = .ok (.aload 4, 2) := by decide +kernel
theorem dX10_moved_22 : decode cX10_moved 22 = .ok (.ifnull 8, 3) := by decide +kernel
theorem dX10_moved_25 : decode cX10_moved 25 = .ok (.aload 5, 2) := by decide +kernel
theorem dX10_moved_27 : decode cX10_moved 27 = .ok (.ifnonnull 5, 3) := by decide +kernel
theorem dX10_moved_30 : decode cX10_moved 30 = .ok (.iconst (-1), 1) := by decide +kernel
theorem dX10_moved_31 : decode cX10_moved 31 = .ok (.ireturn, 1) := by decide +kernel
theorem dX10_moved_32 : decode cX10_moved 32 = .ok (.aload 5, 2) := by decide +kernel
theorem dX10_moved_34 : decode cX10_moved 34 = .ok (.aload 4, 2) := by decide +kernel
theorem dX10_moved_36 : decode cX10_moved 36 = .ok (.iload_n 3, 1) := by decide +kernel
theorem dX10_moved_37 : decode cX10_moved 37 = .ok (.invokevirtual 270, 3) := by decide +kernel
theorem dX10_moved_40 : decode cX10_moved 40 = .ok (.ireturn, 1) := by decide +kernel
abbrev mX10_moved : MI := (yX10_moved, cX10_moved, 6, (some .int), noE)
theorem okX10_moved : cok mX10_moved 3 := ⟨tw970, tw1, by decide, by decide, by decide, by decide +kernel⟩
def fX10_moved (M : Mem) (a0 a1 a2 a3 : Int) : Option Int :=
  if M.2.1 a0 = 9 then if M.2.1 (M.1 a0 0) = 6 then (fX6_townAt M (M.1 a0 0) a1).bind fun r2 => (fX6_sightAt M (M.1 a0 0) a2).bind fun r5 => if r2 = -1 then (some (-1)) else (if r5 = -1 then (some (-1)) else (if M.2.1 r5 = 4 then (fX4_movedFrom M r5 r2 a3).bind fun r9 => some r9 else none)) else none else none
set_option maxRecDepth 100000 in
set_option maxHeartbeats 4000000 in
theorem kX10_moved (d : Nat) (hd : 3 ≤ d) (M : Mem) (a0 a1 a2 a3 : Int) : Ct mX10_moved d 0 0 [pA a0, pI a1, pI a2, pI a3] M (dI M) (fX10_moved M a0 a1 a2 a3) := by
  obtain ⟨d, rfl⟩ : ∃ k, d = k + 1 := ⟨d - 1, by omega⟩
  refine Ct.of 2 (fun _ _ _ => trivial) (by decide +kernel) rfl ?_
  unfold fX10_moved
  refine v_aload_n dX10_moved_0 rfl ?_
  refine v_if (fun h1 => ?_)
  refine v_get (v := pA (M.1 a0 0)) 9 0 rfl inX10 (by decide) tw421 dX10_moved_1 h1 rfl ?_
  refine v_iload_n dX10_moved_4 rfl ?_
  refine v_if (fun h4 => ?_)
  refine v_cV (mi := mX10_moved) (c0 := 0) (c1 := 0) (As := [pI a1]) (st := []) (kX6_townAt d (by omega) _ _ _) rfl h4 rfl okX6_townAt (Or.inl tw680) tw681 tw682 rfl (Nat.le_of_ble_eq_true rfl) dX10_moved_5 (fun r2 => [pA r2]) (fun r2 => M) (fun _ => rfl) (fun _ => rfl) (fun r2 h3 => ?_) rfl
  refine v_astore (ls' := [some (pA a0), some (pI a1), some (pI a2), some (pI a3), some (pA r2), none]) dX10_moved_8 (by decide) rfl ?_
  refine v_aload_n dX10_moved_10 rfl ?_
  refine v_get (v := pA (M.1 a0 0)) 9 0 rfl inX10 (by decide) tw421 dX10_moved_11 h1 rfl ?_
  refine v_iload_n dX10_moved_14 rfl ?_
  refine v_cV (mi := mX10_moved) (c0 := 0) (c1 := 0) (As := [pI a2]) (st := []) (kX6_sightAt d (by omega) _ _ _) rfl h4 rfl okX6_sightAt (Or.inl tw937) tw938 tw939 rfl (Nat.le_of_ble_eq_true rfl) dX10_moved_15 (fun r5 => [pA r5]) (fun r5 => M) (fun _ => rfl) (fun _ => rfl) (fun r5 h6 => ?_) rfl
  refine v_astore (ls' := [some (pA a0), some (pI a1), some (pI a2), some (pI a3), some (pA r2), some (pA r5)]) dX10_moved_18 (by decide) rfl ?_
  refine v_aload dX10_moved_20 rfl ?_
  refine v_ifnull (tgt := 30) dX10_moved_22 (by decide) (fun c7 => ?_) (fun c7 => ?_)
  · refine v_iconst dX10_moved_30 (by decide) ?_
    exact v_ireturn dX10_moved_31 rfl rfl
  · refine v_aload dX10_moved_25 rfl ?_
    refine v_ifnonnull (tgt := 32) dX10_moved_27 (by decide) (fun c8 => ?_) (fun c8 => ?_)
    · refine v_iconst dX10_moved_30 (by decide) ?_
      exact v_ireturn dX10_moved_31 rfl rfl
    · refine v_aload dX10_moved_32 rfl ?_
      refine v_aload dX10_moved_34 rfl ?_
      refine v_iload_n dX10_moved_36 rfl ?_
      refine v_if (fun h11 => ?_)
      refine v_cV (mi := mX10_moved) (c0 := 0) (c1 := 0) (As := [pA r2, pI a3]) (st := []) (kX4_movedFrom d (by omega) _ _ _ _) rfl h11 rfl okX4_movedFrom (Or.inl tw971) tw972 tw973 rfl (Nat.le_of_ble_eq_true rfl) dX10_moved_37 (fun r9 => [pI r9]) (fun r9 => M) (fun _ => rfl) (fun _ => rfl) (fun r9 h10 => ?_) rfl
      exact v_ireturn dX10_moved_40 rfl rfl
theorem dX10_quit_0 : decode cX10_quit 0 = .ok (.aload_n 0, 1) := by decide +kernel
theorem dX10_quit_1 : decode cX10_quit 1 = .ok (.getfield 12, 3) := by decide +kernel
theorem dX10_quit_4 : decode cX10_quit 4 = .ok (.iload_n 1, 1) := by decide +kernel
theorem dX10_quit_5 : decode cX10_quit 5 = .ok (.invokevirtual 148, 3) := by decide +kernel
theorem dX10_quit_8 : decode cX10_quit 8 = .ok (.astore 6, 2) := by decide +kernel
theorem dX10_quit_10 : decode cX10_quit 10 = .ok (.aload 6, 2) := by decide +kernel
theorem dX10_quit_12 : decode cX10_quit 12 = .ok (.ifnull 24, 3) := by decide +kernel
theorem dX10_quit_15 : decode cX10_quit 15 = .ok (.iload_n 2, 1) := by decide +kernel
theorem dX10_quit_16 : decode cX10_quit 16 = .ok (.ifCond .lt 20, 3) := by decide +kernel
theorem dX10_quit_19 : decode cX10_quit 19 = .ok (.iload_n 2, 1) := by decide +kernel
theorem dX10_quit_20 : decode cX10_quit 20 = .ok (.bipush 40, 2) := by decide +kernel
theorem dX10_quit_22 : decode cX10_quit 22 = .ok (.if_icmp .gt 14, 3) := by decide +kernel
theorem dX10_quit_25 : decode cX10_quit 25 = .ok (.iload_n 3, 1) := by decide +kernel
theorem dX10_quit_26 : decode cX10_quit 26 = .ok (.iconst 1, 1) := by decide +kernel
theorem dX10_quit_27 : decode cX10_quit 27 = .ok (.if_icmp .lt 9, 3) := by decide +kernel
theorem dX10_quit_30 : decode cX10_quit 30 = .ok (.iload_n 3, 1) := by decide +kernel
theorem dX10_quit_31 : decode cX10_quit 31 = .ok (.bipush 9, 2) := by decide +kernel
theorem dX10_quit_33 : decode cX10_quit 33 = .ok (.if_icmp .le 5, 3) := by decide +kernel
theorem dX10_quit_36 : decode cX10_quit 36 = .ok (.iconst (-1), 1) := by decide +kernel
theorem dX10_quit_37 : decode cX10_quit 37 = .ok (.ireturn, 1) := by decide +kernel
theorem dX10_quit_38 : decode cX10_quit 38 = .ok (.iload 4, 2) := by decide +kernel
theorem dX10_quit_40 : decode cX10_quit 40 = .ok (.ifCond .lt 23, 3) := by decide +kernel
theorem dX10_quit_43 : decode cX10_quit 43 = .ok (.iload 4, 2) := by decide +kernel
theorem dX10_quit_45 : decode cX10_quit 45 = .ok (.bipush 20, 2) := by decide +kernel
theorem dX10_quit_47 : decode cX10_quit 47 = .ok (.if_icmp .ge 16, 3) := by decide +kernel
theorem dX10_quit_50 : decode cX10_quit 50 = .ok (.iload 5, 2) := by decide +kernel
theorem dX10_quit_52 : decode cX10_quit 52 = .ok (.iconst (-1), 1) := by decide +kernel
theorem dX10_quit_53 : decode cX10_quit 53 = .ok (.if_icmp .lt 10, 3) := by decide +kernel
theorem dX10_quit_56 : decode cX10_quit 56 = .ok (.iload 5, 2) := by decide +kernel
theorem dX10_quit_58 : decode cX10_quit 58 = .ok (.bipush 60, 2) := by decide +kernel
theorem dX10_quit_60 : decode cX10_quit 60 = .ok (.if_icmp .le 5, 3) := by decide +kernel
theorem dX10_quit_63 : decode cX10_quit 63 = .ok (.iconst (-1), 1) := by decide +kernel
theorem dX10_quit_64 : decode cX10_quit 64 = .ok (.ireturn, 1) := by decide +kernel
theorem dX10_quit_65 : decode cX10_quit 65 = .ok (.iload 5, 2) := by decide +kernel
theorem dX10_quit_67 : decode cX10_quit 67 = .ok (.iconst (-1), 1) := by decide +kernel
theorem dX10_quit_68 : decode cX10_quit 68 = .ok (.if_icmp .ne 15, 3) := by decide +kernel
theorem dX10_quit_71 : decode cX10_quit 71 = .ok (.aload 6, 2) := by decide +kernel
theorem dX10_quit_73 : decode cX10_quit 73 = .ok (.iload_n 2, 1) := by decide +kernel
theorem dX10_quit_74 : decode cX10_quit 74 = .ok (.iload_n 3, 1) := by decide +kernel
theorem dX10_quit_75 : decode cX10_quit 75 = .ok (.iload 4, 2) := by decide +kernel
theorem dX10_quit_77 : decode cX10_quit 77 = .ok (.invokevirtual 274, 3) := by decide +kernel
theorem dX10_quit_80 : decode cX10_quit 80 = .ok (.goto 14, 3) := by decide +kernel
theorem dX10_quit_83 : decode cX10_quit 83 = .ok (.aload 6, 2) := by decide +kernel
theorem dX10_quit_85 : decode cX10_quit 85 = .ok (.iload_n 2, 1) := by decide +kernel
theorem dX10_quit_86 : decode cX10_quit 86 = .ok (.iload_n 3, 1) := by decide +kernel
theorem dX10_quit_87 : decode cX10_quit 87 = .ok (.iload 4, 2) := by decide +kernel
theorem dX10_quit_89 : decode cX10_quit 89 = .ok (.iload 5, 2) := by decide +kernel
theorem dX10_quit_91 : decode cX10_quit 91 = .ok (.invokevirtual 277, 3) := by decide +kernel
theorem dX10_quit_94 : decode cX10_quit 94 = .ok (.ireturn, 1) := by decide +kernel
abbrev mX10_quit : MI := (yX10_quit, cX10_quit, 7, (some .int), noE)
theorem okX10_quit : cok mX10_quit 5 := ⟨tw988, tw1, by decide, by decide, by decide, by decide +kernel⟩
def fX10_quit (M : Mem) (a0 a1 a2 a3 a4 a5 : Int) : Option Int :=
  if M.2.1 a0 = 9 then if M.2.1 (M.1 a0 0) = 6 then (fX6_lawAt M (M.1 a0 0) a1).bind fun r2 => if r2 = -1 then (some (-1)) else (if a2 < 0 then (some (-1)) else (if 40 < a2 then (some (-1)) else (if a3 < 1 then (some (-1)) else (if 9 < a3 then (some (-1)) else (if a4 < 0 then (some (-1)) else (if a4 < 20 then (if a5 < (-1) then (some (-1)) else (if 60 < a5 then (some (-1)) else (if a5 = (-1) then (if M.2.1 r2 = 0 then (fX0_firstQuit M r2 a2 a3 a4).bind fun r15 => some r15 else none) else (if M.2.1 r2 = 0 then (fX0_fewestGifts M r2 a2 a3 a4 a5).bind fun r18 => some r18 else none)))) else (some (-1)))))))) else none else none
set_option maxRecDepth 100000 in
set_option maxHeartbeats 4000000 in
theorem kX10_quit (d : Nat) (hd : 2 ≤ d) (M : Mem) (a0 a1 a2 a3 a4 a5 : Int) : Ct mX10_quit d 0 0 [pA a0, pI a1, pI a2, pI a3, pI a4, pI a5] M (dI M) (fX10_quit M a0 a1 a2 a3 a4 a5) := by
  obtain ⟨d, rfl⟩ : ∃ k, d = k + 1 := ⟨d - 1, by omega⟩
  refine Ct.of 1 (fun _ _ _ => trivial) (by decide +kernel) rfl ?_
  unfold fX10_quit
  refine v_aload_n dX10_quit_0 rfl ?_
  refine v_if (fun h1 => ?_)
  refine v_get (v := pA (M.1 a0 0)) 9 0 rfl inX10 (by decide) tw421 dX10_quit_1 h1 rfl ?_
  refine v_iload_n dX10_quit_4 rfl ?_
  refine v_if (fun h4 => ?_)
  refine v_cV (mi := mX10_quit) (c0 := 0) (c1 := 0) (As := [pI a1]) (st := []) (kX6_lawAt d (by omega) _ _ _) rfl h4 rfl okX6_lawAt (Or.inl tw714) tw715 tw716 rfl (Nat.le_of_ble_eq_true rfl) dX10_quit_5 (fun r2 => [pA r2]) (fun r2 => M) (fun _ => rfl) (fun _ => rfl) (fun r2 h3 => ?_) rfl
  refine v_astore (ls' := [some (pA a0), some (pI a1), some (pI a2), some (pI a3), some (pI a4), some (pI a5), some (pA r2)]) dX10_quit_8 (by decide) rfl ?_
  refine v_aload dX10_quit_10 rfl ?_
  refine v_ifnull (tgt := 36) dX10_quit_12 (by decide) (fun c5 => ?_) (fun c5 => ?_)
  · refine v_iconst dX10_quit_36 (by decide) ?_
    exact v_ireturn dX10_quit_37 rfl rfl
  · refine v_iload_n dX10_quit_15 rfl ?_
    refine v_if_lt (tgt := 36) dX10_quit_16 (by decide) (fun c6 => ?_) (fun c6 => ?_)
    · refine v_iconst dX10_quit_36 (by decide) ?_
      exact v_ireturn dX10_quit_37 rfl rfl
    · refine v_iload_n dX10_quit_19 rfl ?_
      refine v_bipush dX10_quit_20 (by decide) ?_
      refine v_icmp_gt (tgt := 36) dX10_quit_22 (by decide) (fun c7 => ?_) (fun c7 => ?_)
      · refine v_iconst dX10_quit_36 (by decide) ?_
        exact v_ireturn dX10_quit_37 rfl rfl
      · refine v_iload_n dX10_quit_25 rfl ?_
        refine v_iconst dX10_quit_26 (by decide) ?_
        refine v_icmp_lt (tgt := 36) dX10_quit_27 (by decide) (fun c8 => ?_) (fun c8 => ?_)
        · refine v_iconst dX10_quit_36 (by decide) ?_
          exact v_ireturn dX10_quit_37 rfl rfl
        · refine v_iload_n dX10_quit_30 rfl ?_
          refine v_bipush dX10_quit_31 (by decide) ?_
          refine v_icmp_le (tgt := 38) dX10_quit_33 (by decide) (fun c9 => ?_) (fun c9 => ?_)
          · refine v_iconst dX10_quit_36 (by decide) ?_
            exact v_ireturn dX10_quit_37 rfl rfl
          · refine v_iload dX10_quit_38 rfl ?_
            refine v_if_lt (tgt := 63) dX10_quit_40 (by decide) (fun c10 => ?_) (fun c10 => ?_)
            · refine v_iconst dX10_quit_63 (by decide) ?_
              exact v_ireturn dX10_quit_64 rfl rfl
            · refine v_iload dX10_quit_43 rfl ?_
              refine v_bipush dX10_quit_45 (by decide) ?_
              refine v_icmp_ge (tgt := 63) dX10_quit_47 (by decide) (fun c11 => ?_) (fun c11 => ?_)
              · refine v_iload dX10_quit_50 rfl ?_
                refine v_iconst dX10_quit_52 (by decide) ?_
                refine v_icmp_lt (tgt := 63) dX10_quit_53 (by decide) (fun c12 => ?_) (fun c12 => ?_)
                · refine v_iconst dX10_quit_63 (by decide) ?_
                  exact v_ireturn dX10_quit_64 rfl rfl
                · refine v_iload dX10_quit_56 rfl ?_
                  refine v_bipush dX10_quit_58 (by decide) ?_
                  refine v_icmp_le (tgt := 65) dX10_quit_60 (by decide) (fun c13 => ?_) (fun c13 => ?_)
                  · refine v_iconst dX10_quit_63 (by decide) ?_
                    exact v_ireturn dX10_quit_64 rfl rfl
                  · refine v_iload dX10_quit_65 rfl ?_
                    refine v_iconst dX10_quit_67 (by decide) ?_
                    refine v_icmp_ne (tgt := 83) dX10_quit_68 (by decide) (fun c14 => ?_) (fun c14 => ?_)
                    · refine v_aload dX10_quit_71 rfl ?_
                      refine v_iload_n dX10_quit_73 rfl ?_
                      refine v_iload_n dX10_quit_74 rfl ?_
                      refine v_iload dX10_quit_75 rfl ?_
                      refine v_if (fun h17 => ?_)
                      refine v_cV (mi := mX10_quit) (c0 := 0) (c1 := 0) (As := [pI a2, pI a3, pI a4]) (st := []) (kX0_firstQuit d (by omega) _ _ _ _ _) rfl h17 rfl okX0_firstQuit (Or.inl tw989) tw990 tw991 rfl (Nat.le_of_ble_eq_true rfl) dX10_quit_77 (fun r15 => [pI r15]) (fun r15 => M) (fun _ => rfl) (fun _ => rfl) (fun r15 h16 => ?_) rfl
                      refine v_goto (tgt := 94) dX10_quit_80 (by decide) ?_
                      exact v_ireturn dX10_quit_94 rfl rfl
                    · refine v_aload dX10_quit_83 rfl ?_
                      refine v_iload_n dX10_quit_85 rfl ?_
                      refine v_iload_n dX10_quit_86 rfl ?_
                      refine v_iload dX10_quit_87 rfl ?_
                      refine v_iload dX10_quit_89 rfl ?_
                      refine v_if (fun h20 => ?_)
                      refine v_cV (mi := mX10_quit) (c0 := 0) (c1 := 0) (As := [pI a2, pI a3, pI a4, pI a5]) (st := []) (kX0_fewestGifts d (by omega) _ _ _ _ _ _) rfl h20 rfl okX0_fewestGifts (Or.inl tw994) tw995 tw996 rfl (Nat.le_of_ble_eq_true rfl) dX10_quit_91 (fun r18 => [pI r18]) (fun r18 => M) (fun _ => rfl) (fun _ => rfl) (fun r18 h19 => ?_) rfl
                      exact v_ireturn dX10_quit_94 rfl rfl
              · refine v_iconst dX10_quit_63 (by decide) ?_
                exact v_ireturn dX10_quit_64 rfl rfl
theorem dX10_weighings_0 : decode cX10_weighings 0 = .ok (.iconst 0, 1) := by decide +kernel
theorem dX10_weighings_1 : decode cX10_weighings 1 = .ok (.istore_n 1, 1) := by decide +kernel
theorem dX10_weighings_2 : decode cX10_weighings 2 = .ok (.iconst 1, 1) := by decide +kernel
theorem dX10_weighings_3 : decode cX10_weighings 3 = .ok (.istore_n 2, 1) := by decide +kernel
theorem dX10_weighings_4 : decode cX10_weighings 4 = .ok (.iload_n 2, 1) := by decide +kernel
theorem dX10_weighings_5 : decode cX10_weighings 5 = .ok (.iload_n 0, 1) := by decide +kernel
theorem dX10_weighings_6 : decode cX10_weighings 6 = .ok (.if_icmp .ge 19, 3) := by decide +kernel
theorem dX10_weighings_9 : decode cX10_weighings 9 = .ok (.iload_n 1, 1) := by decide +kernel
theorem dX10_weighings_10 : decode cX10_weighings 10 = .ok (.bipush 10, 2) := by decide +kernel
theorem dX10_weighings_12 : decode cX10_weighings 12 = .ok (.if_icmp .ge 13, 3) := by decide +kernel
theorem dX10_weighings_15 : decode cX10_weighings 15 = .ok (.iinc 1 1, 3) := by decide +kernel
theorem dX10_weighings_18 : decode cX10_weighings 18 = .ok (.iload_n 2, 1) := by decide +kernel
theorem dX10_weighings_19 : decode cX10_weighings 19 = .ok (.iconst 3, 1) := by decide +kernel
theorem dX10_weighings_20 : decode cX10_weighings 20 = .ok (.imul, 1) := by decide +kernel
theorem dX10_weighings_21 : decode cX10_weighings 21 = .ok (.istore_n 2, 1) := by decide +kernel
theorem dX10_weighings_22 : decode cX10_weighings 22 = .ok (.goto (-18), 3) := by decide +kernel
theorem dX10_weighings_25 : decode cX10_weighings 25 = .ok (.iload_n 1, 1) := by decide +kernel
theorem dX10_weighings_26 : decode cX10_weighings 26 = .ok (.ireturn, 1) := by decide +kernel
abbrev mX10_weighings : MI := (yX10_weighings, cX10_weighings, 3, (some .int), noE)
theorem okX10_weighings : cok mX10_weighings 1 := ⟨tw1006, tw1, by decide, by decide, by decide, by decide +kernel⟩
def fX10_weighings (M : Mem) (a0 : Int) : Option Int :=
  iterC (fun (rec1 : (Int × Int) → Option Int) (s2 : Int × Int) => if s2.2 < a0 then (if s2.1 < 10 then (rec1 (w32 (s2.1 + 1), w32 (s2.2 * 3))) else (some s2.1)) else (some s2.1)) BIG (0, 1)
set_option maxRecDepth 100000 in
set_option maxHeartbeats 4000000 in
theorem kX10_weighings (d : Nat) (hd : 0 ≤ d) (M : Mem) (a0 : Int) : Ct mX10_weighings d 0 0 [pI a0] M (dI M) (fX10_weighings M a0) := by
  refine Ct.of 2 (fun _ _ _ => trivial) (by decide +kernel) rfl ?_
  unfold fX10_weighings
  refine v_iconst dX10_weighings_0 (by decide) ?_
  refine v_istore_n (ls' := [some (pI a0), some (pI 0), none]) dX10_weighings_1 (by decide) rfl ?_
  refine v_iconst dX10_weighings_2 (by decide) ?_
  refine v_istore_n (ls' := [some (pI a0), some (pI 0), some (pI 1)]) dX10_weighings_3 (by decide) rfl ?_
  refine v_loop (fun (s2 : Int × Int) => [some (pI a0), some (pI s2.1), some (pI s2.2)]) (fun (s2 : Int × Int) => M) (s0 := (0, 1)) ?_
  intro rec1 hrec1 s2
  refine v_iload_n dX10_weighings_4 rfl ?_
  refine v_iload_n dX10_weighings_5 rfl ?_
  refine v_icmp_ge (tgt := 25) dX10_weighings_6 (by decide) (fun c3 => ?_) (fun c3 => ?_)
  · refine v_iload_n dX10_weighings_9 rfl ?_
    refine v_bipush dX10_weighings_10 (by decide) ?_
    refine v_icmp_ge (tgt := 25) dX10_weighings_12 (by decide) (fun c4 => ?_) (fun c4 => ?_)
    · refine v_iinc (ls' := [some (pI a0), some (pI (w32 (s2.1 + 1))), some (pI s2.2)]) dX10_weighings_15 (by decide) rfl rfl ?_
      refine v_iload_n dX10_weighings_18 rfl ?_
      refine v_iconst dX10_weighings_19 (by decide) ?_
      refine v_imul dX10_weighings_20 ?_
      refine v_istore_n (ls' := [some (pI a0), some (pI (w32 (s2.1 + 1))), some (pI (w32 (s2.2 * 3)))]) dX10_weighings_21 (by decide) rfl ?_
      refine v_goto (tgt := 4) dX10_weighings_22 (by decide) ?_
      exact hrec1 (w32 (s2.1 + 1), w32 (s2.2 * 3))
    · refine v_iload_n dX10_weighings_25 rfl ?_
      exact v_ireturn dX10_weighings_26 rfl rfl
  · refine v_iload_n dX10_weighings_25 rfl ?_
    exact v_ireturn dX10_weighings_26 rfl rfl
theorem dX10_alms_0 : decode cX10_alms 0 = .ok (.iload_n 1, 1) := by decide +kernel
theorem dX10_alms_1 : decode cX10_alms 1 = .ok (.iconst 1, 1) := by decide +kernel
theorem dX10_alms_2 : decode cX10_alms 2 = .ok (.if_icmp .lt 9, 3) := by decide +kernel
theorem dX10_alms_5 : decode cX10_alms 5 = .ok (.iload_n 1, 1) := by decide +kernel
theorem dX10_alms_6 : decode cX10_alms 6 = .ok (.bipush 60, 2) := by decide +kernel
theorem dX10_alms_8 : decode cX10_alms 8 = .ok (.if_icmp .le 5, 3) := by decide +kernel
theorem dX10_alms_11 : decode cX10_alms 11 = .ok (.iconst (-1), 1) := by decide +kernel
theorem dX10_alms_12 : decode cX10_alms 12 = .ok (.ireturn, 1) := by decide +kernel
theorem dX10_alms_13 : decode cX10_alms 13 = .ok (.iload_n 2, 1) := by decide +kernel
theorem dX10_alms_14 : decode cX10_alms 14 = .ok (.ifCond .eq 8, 3) := by decide +kernel
theorem dX10_alms_17 : decode cX10_alms 17 = .ok (.iload_n 1, 1) := by decide +kernel
theorem dX10_alms_18 : decode cX10_alms 18 = .ok (.iconst 1, 1) := by decide +kernel
theorem dX10_alms_19 : decode cX10_alms 19 = .ok (.if_icmp .ne 8, 3) := by decide +kernel
theorem dX10_alms_22 : decode cX10_alms 22 = .ok (.iload_n 1, 1) := by decide +kernel
theorem dX10_alms_23 : decode cX10_alms 23 = .ok (.invokestatic 281, 3) := by decide +kernel
theorem dX10_alms_26 : decode cX10_alms 26 = .ok (.ireturn, 1) := by decide +kernel
theorem dX10_alms_27 : decode cX10_alms 27 = .ok (.iload_n 1, 1) := by decide +kernel
theorem dX10_alms_28 : decode cX10_alms 28 = .ok (.iconst 2, 1) := by decide +kernel
theorem dX10_alms_29 : decode cX10_alms 29 = .ok (.if_icmp .ne 7, 3) := by decide +kernel
theorem dX10_alms_32 : decode cX10_alms 32 = .ok (.iconst (-1), 1) := by decide +kernel
theorem dX10_alms_33 : decode cX10_alms 33 = .ok (.goto 11, 3) := by decide +kernel
theorem dX10_alms_36 : decode cX10_alms 36 = .ok (.iconst 2, 1) := by decide +kernel
theorem dX10_alms_37 : decode cX10_alms 37 = .ok (.iload_n 1, 1) := by decide +kernel
theorem dX10_alms_38 : decode cX10_alms 38 = .ok (.imul, 1) := by decide +kernel
theorem dX10_alms_39 : decode cX10_alms 39 = .ok (.iconst 1, 1) := by decide +kernel
theorem dX10_alms_40 : decode cX10_alms 40 = .ok (.iadd, 1) := by decide +kernel
theorem dX10_alms_41 : decode cX10_alms 41 = .ok (.invokestatic 281, 3) := by decide +kernel
theorem dX10_alms_44 : decode cX10_alms 44 = .ok (.ireturn, 1) := by decide +kernel
abbrev mX10_alms : MI := (yX10_alms, cX10_alms, 3, (some .int), noE)
theorem okX10_alms : cok mX10_alms 2 := ⟨tw1003, tw1, by decide, by decide, by decide, by decide +kernel⟩
def fX10_alms (M : Mem) (a0 a1 a2 : Int) : Option Int :=
  if a1 < 1 then (some (-1)) else (if 60 < a1 then (some (-1)) else (jn (fun (t4 : Unit) => (fX10_weighings M a1).bind fun r5 => some r5) (fun (j3 : Unit → Option Int) => if a2 = 0 then (j3 ()) else (if a1 = 1 then (j3 ()) else (if a1 = 2 then (some (-1)) else ((fX10_weighings M (w32 ((w32 (2 * a1)) + 1))).bind fun r10 => some r10))))))
set_option maxRecDepth 100000 in
set_option maxHeartbeats 4000000 in
theorem kX10_alms (d : Nat) (hd : 1 ≤ d) (M : Mem) (a0 a1 a2 : Int) : Ct mX10_alms d 0 0 [pA a0, pI a1, pI a2] M (dI M) (fX10_alms M a0 a1 a2) := by
  obtain ⟨d, rfl⟩ : ∃ k, d = k + 1 := ⟨d - 1, by omega⟩
  refine Ct.of 0 (fun _ _ _ => trivial) (by decide +kernel) rfl ?_
  unfold fX10_alms
  refine v_iload_n dX10_alms_0 rfl ?_
  refine v_iconst dX10_alms_1 (by decide) ?_
  refine v_icmp_lt (tgt := 11) dX10_alms_2 (by decide) (fun c1 => ?_) (fun c1 => ?_)
  · refine v_iconst dX10_alms_11 (by decide) ?_
    exact v_ireturn dX10_alms_12 rfl rfl
  · refine v_iload_n dX10_alms_5 rfl ?_
    refine v_bipush dX10_alms_6 (by decide) ?_
    refine v_icmp_le (tgt := 13) dX10_alms_8 (by decide) (fun c2 => ?_) (fun c2 => ?_)
    · refine v_iconst dX10_alms_11 (by decide) ?_
      exact v_ireturn dX10_alms_12 rfl rfl
    · refine v_iload_n dX10_alms_13 rfl ?_
      refine v_join (fun (t4 : Unit) => [none, some (pI a1), none]) (fun (t4 : Unit) => []) (fun (t4 : Unit) => M) 22 (fun t4 => ?_) (fun j3 hj3 => ?_)
      · refine v_iload_n dX10_alms_22 rfl ?_
        refine v_cS (mi := mX10_alms) (c0 := 0) (c1 := 0) (As := [pI a1]) (st := []) (kX10_weighings d (by omega) _ _) okX10_weighings (Or.inl tw1004) tw1005 rfl (Nat.le_of_ble_eq_true rfl) dX10_alms_23 (fun r5 => [pI r5]) (fun r5 => M) (fun _ => rfl) (fun _ => rfl) (fun r5 h6 => ?_) rfl
        exact v_ireturn dX10_alms_26 rfl rfl
      · refine v_if_eq (tgt := 22) dX10_alms_14 (by decide) (fun c7 => ?_) (fun c7 => ?_)
        · exact v_drop [none, some (pI a1), none] (ls_n (ls_s (ls_n ls_e))) (hj3 ())
        · refine v_iload_n dX10_alms_17 rfl ?_
          refine v_iconst dX10_alms_18 (by decide) ?_
          refine v_icmp_ne (tgt := 27) dX10_alms_19 (by decide) (fun c8 => ?_) (fun c8 => ?_)
          · exact v_drop [none, some (pI a1), none] (ls_n (ls_s (ls_n ls_e))) (hj3 ())
          · refine v_iload_n dX10_alms_27 rfl ?_
            refine v_iconst dX10_alms_28 (by decide) ?_
            refine v_icmp_ne (tgt := 36) dX10_alms_29 (by decide) (fun c9 => ?_) (fun c9 => ?_)
            · refine v_iconst dX10_alms_32 (by decide) ?_
              refine v_goto (tgt := 44) dX10_alms_33 (by decide) ?_
              exact v_ireturn dX10_alms_44 rfl rfl
            · refine v_iconst dX10_alms_36 (by decide) ?_
              refine v_iload_n dX10_alms_37 rfl ?_
              refine v_imul dX10_alms_38 ?_
              refine v_iconst dX10_alms_39 (by decide) ?_
              refine v_iadd dX10_alms_40 ?_
              refine v_cS (mi := mX10_alms) (c0 := 0) (c1 := 0) (As := [pI (w32 ((w32 (2 * a1)) + 1))]) (st := []) (kX10_weighings d (by omega) _ _) okX10_weighings (Or.inl tw1004) tw1005 rfl (Nat.le_of_ble_eq_true rfl) dX10_alms_41 (fun r10 => [pI r10]) (fun r10 => M) (fun _ => rfl) (fun _ => rfl) (fun r10 h11 => ?_) rfl
              exact v_ireturn dX10_alms_44 rfl rfl
theorem dX10_prize_0 : decode cX10_prize 0 = .ok (.aload_n 0, 1) := by decide +kernel
theorem dX10_prize_1 : decode cX10_prize 1 = .ok (.getfield 12, 3) := by decide +kernel
theorem dX10_prize_4 : decode cX10_prize 4 = .ok (.iload_n 1, 1) := by decide +kernel
theorem dX10_prize_5 : decode cX10_prize 5 = .ok (.invokevirtual 92, 3) := by decide +kernel
theorem dX10_prize_8 : decode cX10_prize 8 = .ok (.astore 4, 2) := by decide +kernel
theorem dX10_prize_10 : decode cX10_prize 10 = .ok (.aload 4, 2) := by decide +kernel
theorem dX10_prize_12 : decode cX10_prize 12 = .ok (.ifnull 21, 3) := by decide +kernel
theorem dX10_prize_15 : decode cX10_prize 15 = .ok (.aload 4, 2) := by decide +kernel
theorem dX10_prize_17 : decode cX10_prize 17 = .ok (.iload_n 2, 1) := by decide +kernel
theorem dX10_prize_18 : decode cX10_prize 18 = .ok (.invokevirtual 104, 3) := by decide +kernel
theorem dX10_prize_21 : decode cX10_prize 21 = .ok (.ifCond .eq 12, 3) := by decide +kernel
theorem dX10_prize_24 : decode cX10_prize 24 = .ok (.aload 4, 2) := by decide +kernel
theorem dX10_prize_26 : decode cX10_prize 26 = .ok (.iload_n 3, 1) := by decide +kernel
theorem dX10_prize_27 : decode cX10_prize 27 = .ok (.invokevirtual 104, 3) := by decide +kernel
theorem dX10_prize_30 : decode cX10_prize 30 = .ok (.ifCond .ne 7, 3) := by decide +kernel
theorem dX10_prize_33 : decode cX10_prize 33 = .ok (.sipush (-1000), 3) := by decide +kernel
theorem dX10_prize_36 : decode cX10_prize 36 = .ok (.ireturn, 1) := by decide +kernel
theorem dX10_prize_37 : decode cX10_prize 37 = .ok (.aload 4, 2) := by decide +kernel
theorem dX10_prize_39 : decode cX10_prize 39 = .ok (.iload_n 2, 1) := by decide +kernel
theorem dX10_prize_40 : decode cX10_prize 40 = .ok (.iload_n 3, 1) := by decide +kernel
theorem dX10_prize_41 : decode cX10_prize 41 = .ok (.invokevirtual 284, 3) := by decide +kernel
theorem dX10_prize_44 : decode cX10_prize 44 = .ok (.ireturn, 1) := by decide +kernel
abbrev mX10_prize : MI := (yX10_prize, cX10_prize, 5, (some .int), noE)
theorem okX10_prize : cok mX10_prize 3 := ⟨tw1010, tw1, by decide, by decide, by decide, by decide +kernel⟩
def fX10_prize (M : Mem) (a0 a1 a2 a3 : Int) : Option Int :=
  if M.2.1 a0 = 9 then if M.2.1 (M.1 a0 0) = 6 then (fX6_townAt M (M.1 a0 0) a1).bind fun r2 => if r2 = -1 then (some (-1000)) else (if M.2.1 r2 = 7 then (fX7_isHouse M r2 a2).bind fun r6 => if r6 = 0 then (some (-1000)) else ((fX7_isHouse M r2 a3).bind fun r10 => if r10 = 0 then (some (-1000)) else ((fX7_prizeOf M r2 a2 a3).bind fun r13 => some r13)) else none) else none else none
set_option maxRecDepth 100000 in
set_option maxHeartbeats 4000000 in
theorem kX10_prize (d : Nat) (hd : 3 ≤ d) (M : Mem) (a0 a1 a2 a3 : Int) : Ct mX10_prize d 0 0 [pA a0, pI a1, pI a2, pI a3] M (dI M) (fX10_prize M a0 a1 a2 a3) := by
  obtain ⟨d, rfl⟩ : ∃ k, d = k + 1 := ⟨d - 1, by omega⟩
  refine Ct.of 1 (fun _ _ _ => trivial) (by decide +kernel) rfl ?_
  unfold fX10_prize
  refine v_aload_n dX10_prize_0 rfl ?_
  refine v_if (fun h1 => ?_)
  refine v_get (v := pA (M.1 a0 0)) 9 0 rfl inX10 (by decide) tw421 dX10_prize_1 h1 rfl ?_
  refine v_iload_n dX10_prize_4 rfl ?_
  refine v_if (fun h4 => ?_)
  refine v_cV (mi := mX10_prize) (c0 := 0) (c1 := 0) (As := [pI a1]) (st := []) (kX6_townAt d (by omega) _ _ _) rfl h4 rfl okX6_townAt (Or.inl tw680) tw681 tw682 rfl (Nat.le_of_ble_eq_true rfl) dX10_prize_5 (fun r2 => [pA r2]) (fun r2 => M) (fun _ => rfl) (fun _ => rfl) (fun r2 h3 => ?_) rfl
  refine v_astore (ls' := [some (pA a0), some (pI a1), some (pI a2), some (pI a3), some (pA r2)]) dX10_prize_8 (by decide) rfl ?_
  refine v_aload dX10_prize_10 rfl ?_
  refine v_ifnull (tgt := 33) dX10_prize_12 (by decide) (fun c5 => ?_) (fun c5 => ?_)
  · refine v_sipush dX10_prize_33 (by decide) ?_
    exact v_ireturn dX10_prize_36 rfl rfl
  · refine v_aload dX10_prize_15 rfl ?_
    refine v_iload_n dX10_prize_17 rfl ?_
    refine v_if (fun h8 => ?_)
    refine v_cV (mi := mX10_prize) (c0 := 0) (c1 := 0) (As := [pI a2]) (st := []) (kX7_isHouse d (by omega) _ _ _) rfl h8 rfl okX7_isHouse (Or.inl tw684) tw685 tw686 rfl (Nat.le_of_ble_eq_true rfl) dX10_prize_18 (fun r6 => [pI r6]) (fun r6 => M) (fun _ => rfl) (fun _ => rfl) (fun r6 h7 => ?_) rfl
    refine v_if_eq (tgt := 33) dX10_prize_21 (by decide) (fun c9 => ?_) (fun c9 => ?_)
    · refine v_sipush dX10_prize_33 (by decide) ?_
      exact v_ireturn dX10_prize_36 rfl rfl
    · refine v_aload dX10_prize_24 rfl ?_
      refine v_iload_n dX10_prize_26 rfl ?_
      refine v_cV (mi := mX10_prize) (c0 := 0) (c1 := 0) (As := [pI a3]) (st := []) (kX7_isHouse d (by omega) _ _ _) rfl h8 rfl okX7_isHouse (Or.inl tw684) tw685 tw686 rfl (Nat.le_of_ble_eq_true rfl) dX10_prize_27 (fun r10 => [pI r10]) (fun r10 => M) (fun _ => rfl) (fun _ => rfl) (fun r10 h11 => ?_) rfl
      refine v_if_ne (tgt := 37) dX10_prize_30 (by decide) (fun c12 => ?_) (fun c12 => ?_)
      · refine v_sipush dX10_prize_33 (by decide) ?_
        exact v_ireturn dX10_prize_36 rfl rfl
      · refine v_aload dX10_prize_37 rfl ?_
        refine v_iload_n dX10_prize_39 rfl ?_
        refine v_iload_n dX10_prize_40 rfl ?_
        refine v_cV (mi := mX10_prize) (c0 := 0) (c1 := 0) (As := [pI a2, pI a3]) (st := []) (kX7_prizeOf d (by omega) _ _ _ _) rfl h8 rfl okX7_prizeOf (Or.inl tw1011) tw1012 tw1013 rfl (Nat.le_of_ble_eq_true rfl) dX10_prize_41 (fun r13 => [pI r13]) (fun r13 => M) (fun _ => rfl) (fun _ => rfl) (fun r13 h14 => ?_) rfl
        exact v_ireturn dX10_prize_44 rfl rfl
theorem dX10_rest_0 : decode cX10_rest 0 = .ok (.aload_n 0, 1) := by decide +kernel
theorem dX10_rest_1 : decode cX10_rest 1 = .ok (.getfield 12, 3) := by decide +kernel
theorem dX10_rest_4 : decode cX10_rest 4 = .ok (.iload_n 1, 1) := by decide +kernel
theorem dX10_rest_5 : decode cX10_rest 5 = .ok (.invokevirtual 92, 3) := by decide +kernel
theorem dX10_rest_8 : decode cX10_rest 8 = .ok (.astore_n 3, 1) := by decide +kernel
theorem dX10_rest_9 : decode cX10_rest 9 = .ok (.aload_n 3, 1) := by decide +kernel
theorem dX10_rest_10 : decode cX10_rest 10 = .ok (.ifnull 8, 3) := by decide +kernel
theorem dX10_rest_13 : decode cX10_rest 13 = .ok (.iload_n 2, 1) := by decide +kernel
theorem dX10_rest_14 : decode cX10_rest 14 = .ok (.iconst (-1), 1) := by decide +kernel
theorem dX10_rest_15 : decode cX10_rest 15 = .ok (.if_icmp .ge 7, 3) := by decide +kernel
theorem dX10_rest_18 : decode cX10_rest 18 = .ok (.iconst (-1), 1) := by decide +kernel
theorem dX10_rest_19 : decode cX10_rest 19 = .ok (.goto 8, 3) := by decide +kernel
theorem dX10_rest_22 : decode cX10_rest 22 = .ok (.aload_n 3, 1) := by decide +kernel
theorem dX10_rest_23 : decode cX10_rest 23 = .ok (.iload_n 2, 1) := by decide +kernel
theorem dX10_rest_24 : decode cX10_rest 24 = .ok (.invokevirtual 287, 3) := by decide +kernel
theorem dX10_rest_27 : decode cX10_rest 27 = .ok (.ireturn, 1) := by decide +kernel
abbrev mX10_rest : MI := (yX10_rest, cX10_rest, 4, (some .int), noE)
theorem okX10_rest : cok mX10_rest 2 := ⟨tw1022, tw1, by decide, by decide, by decide, by decide +kernel⟩
def fX10_rest (M : Mem) (a0 a1 a2 : Int) : Option Int :=
  if M.2.1 a0 = 9 then if M.2.1 (M.1 a0 0) = 6 then (fX6_townAt M (M.1 a0 0) a1).bind fun r2 => if r2 = -1 then (some (-1)) else (if a2 < (-1) then (some (-1)) else (if M.2.1 r2 = 7 then (fX7_restAt M r2 a2).bind fun r7 => some r7 else none)) else none else none
set_option maxRecDepth 100000 in
set_option maxHeartbeats 4000000 in
theorem kX10_rest (d : Nat) (hd : 5 ≤ d) (M : Mem) (a0 a1 a2 : Int) : Ct mX10_rest d 0 0 [pA a0, pI a1, pI a2] M (dI M) (fX10_rest M a0 a1 a2) := by
  obtain ⟨d, rfl⟩ : ∃ k, d = k + 1 := ⟨d - 1, by omega⟩
  refine Ct.of 1 (fun _ _ _ => trivial) (by decide +kernel) rfl ?_
  unfold fX10_rest
  refine v_aload_n dX10_rest_0 rfl ?_
  refine v_if (fun h1 => ?_)
  refine v_get (v := pA (M.1 a0 0)) 9 0 rfl inX10 (by decide) tw421 dX10_rest_1 h1 rfl ?_
  refine v_iload_n dX10_rest_4 rfl ?_
  refine v_if (fun h4 => ?_)
  refine v_cV (mi := mX10_rest) (c0 := 0) (c1 := 0) (As := [pI a1]) (st := []) (kX6_townAt d (by omega) _ _ _) rfl h4 rfl okX6_townAt (Or.inl tw680) tw681 tw682 rfl (Nat.le_of_ble_eq_true rfl) dX10_rest_5 (fun r2 => [pA r2]) (fun r2 => M) (fun _ => rfl) (fun _ => rfl) (fun r2 h3 => ?_) rfl
  refine v_astore_n (ls' := [some (pA a0), some (pI a1), some (pI a2), some (pA r2)]) dX10_rest_8 (by decide) rfl ?_
  refine v_aload_n dX10_rest_9 rfl ?_
  refine v_ifnull (tgt := 18) dX10_rest_10 (by decide) (fun c5 => ?_) (fun c5 => ?_)
  · refine v_iconst dX10_rest_18 (by decide) ?_
    refine v_goto (tgt := 27) dX10_rest_19 (by decide) ?_
    exact v_ireturn dX10_rest_27 rfl rfl
  · refine v_iload_n dX10_rest_13 rfl ?_
    refine v_iconst dX10_rest_14 (by decide) ?_
    refine v_icmp_ge (tgt := 22) dX10_rest_15 (by decide) (fun c6 => ?_) (fun c6 => ?_)
    · refine v_iconst dX10_rest_18 (by decide) ?_
      refine v_goto (tgt := 27) dX10_rest_19 (by decide) ?_
      exact v_ireturn dX10_rest_27 rfl rfl
    · refine v_aload_n dX10_rest_22 rfl ?_
      refine v_iload_n dX10_rest_23 rfl ?_
      refine v_if (fun h9 => ?_)
      refine v_cV (mi := mX10_rest) (c0 := 0) (c1 := 0) (As := [pI a2]) (st := []) (kX7_restAt d (by omega) _ _ _) rfl h9 rfl okX7_restAt (Or.inl tw1023) tw1024 tw1025 rfl (Nat.le_of_ble_eq_true rfl) dX10_rest_24 (fun r7 => [pI r7]) (fun r7 => M) (fun _ => rfl) (fun _ => rfl) (fun r7 h8 => ?_) rfl
      exact v_ireturn dX10_rest_27 rfl rfl
theorem dX10_share_0 : decode cX10_share 0 = .ok (.aload_n 0, 1) := by decide +kernel
theorem dX10_share_1 : decode cX10_share 1 = .ok (.getfield 12, 3) := by decide +kernel
theorem dX10_share_4 : decode cX10_share 4 = .ok (.iload_n 1, 1) := by decide +kernel
theorem dX10_share_5 : decode cX10_share 5 = .ok (.invokevirtual 92, 3) := by decide +kernel
theorem dX10_share_8 : decode cX10_share 8 = .ok (.astore 4, 2) := by decide +kernel
theorem dX10_share_10 : decode cX10_share 10 = .ok (.aload 4, 2) := by decide +kernel
theorem dX10_share_12 : decode cX10_share 12 = .ok (.ifnull 12, 3) := by decide +kernel
theorem dX10_share_15 : decode cX10_share 15 = .ok (.aload 4, 2) := by decide +kernel
theorem dX10_share_17 : decode cX10_share 17 = .ok (.iload_n 2, 1) := by decide +kernel
theorem dX10_share_18 : decode cX10_share 18 = .ok (.invokevirtual 104, 3) := by decide +kernel
theorem dX10_share_21 : decode cX10_share 21 = .ok (.ifCond .ne 5, 3) := by decide +kernel
theorem dX10_share_24 : decode cX10_share 24 = .ok (.iconst (-1), 1) := by decide +kernel
theorem dX10_share_25 : decode cX10_share 25 = .ok (.ireturn, 1) := by decide +kernel
theorem dX10_share_26 : decode cX10_share 26 = .ok (.iconst 0, 1) := by decide +kernel
theorem dX10_share_27 : decode cX10_share 27 = .ok (.istore 5, 2) := by decide +kernel
theorem dX10_share_29 : decode cX10_share 29 = .ok (.iconst 0, 1) := by decide +kernel
theorem dX10_share_30 : decode cX10_share 30 = .ok (.istore 6, 2) := by decide +kernel
theorem dX10_share_32 : decode cX10_share 32 = .ok (.iload 6, 2) := by decide +kernel
theorem dX10_share_34 : decode cX10_share 34 = .ok (.aload 4, 2) := by decide +kernel
theorem dX10_share_36 : decode cX10_share 36 = .ok (.getfield 96, 3) := by decide +kernel
theorem dX10_share_39 : decode cX10_share 39 = .ok (.if_icmp .ge 26, 3) := by decide +kernel
theorem dX10_share_42 : decode cX10_share 42 = .ok (.iload 5, 2) := by decide +kernel
theorem dX10_share_44 : decode cX10_share 44 = .ok (.aload 4, 2) := by decide +kernel
theorem dX10_share_46 : decode cX10_share 46 = .ok (.aload 4, 2) := by decide +kernel
theorem dX10_share_48 : decode cX10_share 48 = .ok (.getfield 133, 3) := by decide +kernel
theorem dX10_share_51 : decode cX10_share 51 = .ok (.iload 6, 2) := by decide +kernel
theorem dX10_share_53 : decode cX10_share 53 = .ok (.invokevirtual 290, 3) := by decide +kernel
theorem dX10_share_56 : decode cX10_share 56 = .ok (.iadd, 1) := by decide +kernel
theorem dX10_share_57 : decode cX10_share 57 = .ok (.istore 5, 2) := by decide +kernel
theorem dX10_share_59 : decode cX10_share 59 = .ok (.iinc 6 1, 3) := by decide +kernel
theorem dX10_share_62 : decode cX10_share 62 = .ok (.goto (-30), 3) := by decide +kernel
theorem dX10_share_65 : decode cX10_share 65 = .ok (.aload 4, 2) := by decide +kernel
theorem dX10_share_67 : decode cX10_share 67 = .ok (.aload 4, 2) := by decide +kernel
theorem dX10_share_69 : decode cX10_share 69 = .ok (.getfield 133, 3) := by decide +kernel
theorem dX10_share_72 : decode cX10_share 72 = .ok (.iload_n 2, 1) := by decide +kernel
theorem dX10_share_73 : decode cX10_share 73 = .ok (.invokevirtual 290, 3) := by decide +kernel
theorem dX10_share_76 : decode cX10_share 76 = .ok (.iload 5, 2) := by decide +kernel
theorem dX10_share_78 : decode cX10_share 78 = .ok (.iload_n 3, 1) := by decide +kernel
theorem dX10_share_79 : decode cX10_share 79 = .ok (.invokestatic 294, 3) := by decide +kernel
theorem dX10_share_82 : decode cX10_share 82 = .ok (.ireturn, 1) := by decide +kernel
abbrev mX10_share : MI := (yX10_share, cX10_share, 7, (some .int), noE)
theorem okX10_share : cok mX10_share 3 := ⟨tw1035, tw1, by decide, by decide, by decide, by decide +kernel⟩
def fX10_share (M : Mem) (a0 a1 a2 a3 : Int) : Option Int :=
  if M.2.1 a0 = 9 then if M.2.1 (M.1 a0 0) = 6 then (fX6_townAt M (M.1 a0 0) a1).bind fun r2 => if r2 = -1 then (some (-1)) else (if M.2.1 r2 = 7 then (fX7_isHouse M r2 a2).bind fun r6 => if r6 = 0 then (some (-1)) else (iterC (fun (rec10 : (Int × Int) → Option Int) (s11 : Int × Int) => if s11.2 < M.1 r2 0 then ((fX7_worthIn M r2 (M.1 r2 2) s11.2).bind fun r13 => rec10 (w32 (s11.1 + r13), w32 (s11.2 + 1))) else ((fX7_worthIn M r2 (M.1 r2 2) a2).bind fun r15 => (fX10_leastTerms M r15 s11.1 a3).bind fun r17 => some r17)) BIG (0, 0)) else none) else none else none
set_option maxRecDepth 100000 in
set_option maxHeartbeats 4000000 in
theorem kX10_share (d : Nat) (hd : 2 ≤ d) (M : Mem) (a0 a1 a2 a3 : Int) : Ct mX10_share d 0 0 [pA a0, pI a1, pI a2, pI a3] M (dI M) (fX10_share M a0 a1 a2 a3) := by
  obtain ⟨d, rfl⟩ : ∃ k, d = k + 1 := ⟨d - 1, by omega⟩
  refine Ct.of 3 (fun _ _ _ => trivial) (by decide +kernel) rfl ?_
  unfold fX10_share
  refine v_aload_n dX10_share_0 rfl ?_
  refine v_if (fun h1 => ?_)
  refine v_get (v := pA (M.1 a0 0)) 9 0 rfl inX10 (by decide) tw421 dX10_share_1 h1 rfl ?_
  refine v_iload_n dX10_share_4 rfl ?_
  refine v_if (fun h4 => ?_)
  refine v_cV (mi := mX10_share) (c0 := 0) (c1 := 0) (As := [pI a1]) (st := []) (kX6_townAt d (by omega) _ _ _) rfl h4 rfl okX6_townAt (Or.inl tw680) tw681 tw682 rfl (Nat.le_of_ble_eq_true rfl) dX10_share_5 (fun r2 => [pA r2]) (fun r2 => M) (fun _ => rfl) (fun _ => rfl) (fun r2 h3 => ?_) rfl
  refine v_astore (ls' := [some (pA a0), some (pI a1), some (pI a2), some (pI a3), some (pA r2), none, none]) dX10_share_8 (by decide) rfl ?_
  refine v_aload dX10_share_10 rfl ?_
  refine v_ifnull (tgt := 24) dX10_share_12 (by decide) (fun c5 => ?_) (fun c5 => ?_)
  · refine v_iconst dX10_share_24 (by decide) ?_
    exact v_ireturn dX10_share_25 rfl rfl
  · refine v_aload dX10_share_15 rfl ?_
    refine v_iload_n dX10_share_17 rfl ?_
    refine v_if (fun h8 => ?_)
    refine v_cV (mi := mX10_share) (c0 := 0) (c1 := 0) (As := [pI a2]) (st := []) (kX7_isHouse d (by omega) _ _ _) rfl h8 rfl okX7_isHouse (Or.inl tw684) tw685 tw686 rfl (Nat.le_of_ble_eq_true rfl) dX10_share_18 (fun r6 => [pI r6]) (fun r6 => M) (fun _ => rfl) (fun _ => rfl) (fun r6 h7 => ?_) rfl
    refine v_if_ne (tgt := 26) dX10_share_21 (by decide) (fun c9 => ?_) (fun c9 => ?_)
    · refine v_iconst dX10_share_24 (by decide) ?_
      exact v_ireturn dX10_share_25 rfl rfl
    · refine v_iconst dX10_share_26 (by decide) ?_
      refine v_istore (ls' := [some (pA a0), some (pI a1), some (pI a2), some (pI a3), some (pA r2), some (pI 0), none]) dX10_share_27 (by decide) rfl ?_
      refine v_iconst dX10_share_29 (by decide) ?_
      refine v_istore (ls' := [some (pA a0), some (pI a1), some (pI a2), some (pI a3), some (pA r2), some (pI 0), some (pI 0)]) dX10_share_30 (by decide) rfl ?_
      refine v_drop [none, none, some (pI a2), some (pI a3), some (pA r2), some (pI 0), some (pI 0)] (ls_n (ls_n (ls_s (ls_s (ls_s (ls_s (ls_s ls_e))))))) ?_
      refine v_loop (fun (s11 : Int × Int) => [none, none, some (pI a2), some (pI a3), some (pA r2), some (pI s11.1), some (pI s11.2)]) (fun (s11 : Int × Int) => M) (s0 := (0, 0)) ?_
      intro rec10 hrec10 s11
      refine v_iload dX10_share_32 rfl ?_
      refine v_aload dX10_share_34 rfl ?_
      refine v_get (v := pI (M.1 r2 0)) 7 0 rfl inX7 (by decide) tw58 dX10_share_36 h8 rfl ?_
      refine v_icmp_ge (tgt := 65) dX10_share_39 (by decide) (fun c12 => ?_) (fun c12 => ?_)
      · refine v_iload dX10_share_42 rfl ?_
        refine v_aload dX10_share_44 rfl ?_
        refine v_aload dX10_share_46 rfl ?_
        refine v_get (v := pA (M.1 r2 2)) 7 2 rfl inX7 (by decide) tw69 dX10_share_48 h8 rfl ?_
        refine v_iload dX10_share_51 rfl ?_
        refine v_cV (mi := mX10_share) (c0 := 0) (c1 := 0) (As := [pA (M.1 r2 2), pI s11.2]) (st := [pI s11.1]) (kX7_worthIn d (by omega) _ _ _ _) rfl h8 rfl okX7_worthIn (Or.inl tw1036) tw1016 tw1017 rfl (Nat.le_of_ble_eq_true rfl) dX10_share_53 (fun r13 => [pI r13, pI s11.1]) (fun r13 => M) (fun _ => rfl) (fun _ => rfl) (fun r13 h14 => ?_) rfl
        refine v_iadd dX10_share_56 ?_
        refine v_istore (ls' := [none, none, some (pI a2), some (pI a3), some (pA r2), some (pI (w32 (s11.1 + r13))), some (pI s11.2)]) dX10_share_57 (by decide) rfl ?_
        refine v_iinc (ls' := [none, none, some (pI a2), some (pI a3), some (pA r2), some (pI (w32 (s11.1 + r13))), some (pI (w32 (s11.2 + 1)))]) dX10_share_59 (by decide) rfl rfl ?_
        refine v_goto (tgt := 32) dX10_share_62 (by decide) ?_
        exact hrec10 (w32 (s11.1 + r13), w32 (s11.2 + 1))
      · refine v_aload dX10_share_65 rfl ?_
        refine v_aload dX10_share_67 rfl ?_
        refine v_get (v := pA (M.1 r2 2)) 7 2 rfl inX7 (by decide) tw69 dX10_share_69 h8 rfl ?_
        refine v_iload_n dX10_share_72 rfl ?_
        refine v_cV (mi := mX10_share) (c0 := 0) (c1 := 0) (As := [pA (M.1 r2 2), pI a2]) (st := []) (kX7_worthIn d (by omega) _ _ _ _) rfl h8 rfl okX7_worthIn (Or.inl tw1036) tw1016 tw1017 rfl (Nat.le_of_ble_eq_true rfl) dX10_share_73 (fun r15 => [pI r15]) (fun r15 => M) (fun _ => rfl) (fun _ => rfl) (fun r15 h16 => ?_) rfl
        refine v_iload dX10_share_76 rfl ?_
        refine v_iload_n dX10_share_78 rfl ?_
        refine v_cS (mi := mX10_share) (c0 := 0) (c1 := 0) (As := [pI r15, pI s11.1, pI a3]) (st := []) (kX10_leastTerms d (by omega) _ _ _ _) okX10_leastTerms (Or.inl tw1037) tw1038 rfl (Nat.le_of_ble_eq_true rfl) dX10_share_79 (fun r17 => [pI r17]) (fun r17 => M) (fun _ => rfl) (fun _ => rfl) (fun r17 h18 => ?_) rfl
        exact v_ireturn dX10_share_82 rfl rfl
theorem dX10_even_0 : decode cX10_even 0 = .ok (.aload_n 0, 1) := by decide +kernel
theorem dX10_even_1 : decode cX10_even 1 = .ok (.getfield 12, 3) := by decide +kernel
theorem dX10_even_4 : decode cX10_even 4 = .ok (.iload_n 1, 1) := by decide +kernel
theorem dX10_even_5 : decode cX10_even 5 = .ok (.invokevirtual 92, 3) := by decide +kernel
theorem dX10_even_8 : decode cX10_even 8 = .ok (.astore_n 3, 1) := by decide +kernel
theorem dX10_even_9 : decode cX10_even 9 = .ok (.aload_n 3, 1) := by decide +kernel
theorem dX10_even_10 : decode cX10_even 10 = .ok (.ifnull 10, 3) := by decide +kernel
theorem dX10_even_13 : decode cX10_even 13 = .ok (.iload_n 2, 1) := by decide +kernel
theorem dX10_even_14 : decode cX10_even 14 = .ok (.invokestatic 115, 3) := by decide +kernel
theorem dX10_even_17 : decode cX10_even 17 = .ok (.ifCond .ne 7, 3) := by decide +kernel
theorem dX10_even_20 : decode cX10_even 20 = .ok (.iconst (-1), 1) := by decide +kernel
theorem dX10_even_21 : decode cX10_even 21 = .ok (.goto 8, 3) := by decide +kernel
theorem dX10_even_24 : decode cX10_even 24 = .ok (.aload_n 3, 1) := by decide +kernel
theorem dX10_even_25 : decode cX10_even 25 = .ok (.iload_n 2, 1) := by decide +kernel
theorem dX10_even_26 : decode cX10_even 26 = .ok (.invokevirtual 298, 3) := by decide +kernel
theorem dX10_even_29 : decode cX10_even 29 = .ok (.ireturn, 1) := by decide +kernel
abbrev mX10_even : MI := (yX10_even, cX10_even, 4, (some .int), noE)
theorem okX10_even : cok mX10_even 2 := ⟨tw1044, tw1, by decide, by decide, by decide, by decide +kernel⟩
def fX10_even (M : Mem) (a0 a1 a2 : Int) : Option Int :=
  if M.2.1 a0 = 9 then if M.2.1 (M.1 a0 0) = 6 then (fX6_townAt M (M.1 a0 0) a1).bind fun r2 => if r2 = -1 then (some (-1)) else ((fX10_isGood M a2).bind fun r6 => if r6 = 0 then (some (-1)) else (if M.2.1 r2 = 7 then (fX7_evenOut M r2 a2).bind fun r9 => some r9 else none)) else none else none
set_option maxRecDepth 100000 in
set_option maxHeartbeats 4000000 in
theorem kX10_even (d : Nat) (hd : 2 ≤ d) (M : Mem) (a0 a1 a2 : Int) : Ct mX10_even d 0 0 [pA a0, pI a1, pI a2] M (dI M) (fX10_even M a0 a1 a2) := by
  obtain ⟨d, rfl⟩ : ∃ k, d = k + 1 := ⟨d - 1, by omega⟩
  refine Ct.of 1 (fun _ _ _ => trivial) (by decide +kernel) rfl ?_
  unfold fX10_even
  refine v_aload_n dX10_even_0 rfl ?_
  refine v_if (fun h1 => ?_)
  refine v_get (v := pA (M.1 a0 0)) 9 0 rfl inX10 (by decide) tw421 dX10_even_1 h1 rfl ?_
  refine v_iload_n dX10_even_4 rfl ?_
  refine v_if (fun h4 => ?_)
  refine v_cV (mi := mX10_even) (c0 := 0) (c1 := 0) (As := [pI a1]) (st := []) (kX6_townAt d (by omega) _ _ _) rfl h4 rfl okX6_townAt (Or.inl tw680) tw681 tw682 rfl (Nat.le_of_ble_eq_true rfl) dX10_even_5 (fun r2 => [pA r2]) (fun r2 => M) (fun _ => rfl) (fun _ => rfl) (fun r2 h3 => ?_) rfl
  refine v_astore_n (ls' := [some (pA a0), some (pI a1), some (pI a2), some (pA r2)]) dX10_even_8 (by decide) rfl ?_
  refine v_aload_n dX10_even_9 rfl ?_
  refine v_ifnull (tgt := 20) dX10_even_10 (by decide) (fun c5 => ?_) (fun c5 => ?_)
  · refine v_iconst dX10_even_20 (by decide) ?_
    refine v_goto (tgt := 29) dX10_even_21 (by decide) ?_
    exact v_ireturn dX10_even_29 rfl rfl
  · refine v_iload_n dX10_even_13 rfl ?_
    refine v_cS (mi := mX10_even) (c0 := 0) (c1 := 0) (As := [pI a2]) (st := []) (kX10_isGood d (by omega) _ _) okX10_isGood (Or.inl tw688) tw689 rfl (Nat.le_of_ble_eq_true rfl) dX10_even_14 (fun r6 => [pI r6]) (fun r6 => M) (fun _ => rfl) (fun _ => rfl) (fun r6 h7 => ?_) rfl
    refine v_if_ne (tgt := 24) dX10_even_17 (by decide) (fun c8 => ?_) (fun c8 => ?_)
    · refine v_iconst dX10_even_20 (by decide) ?_
      refine v_goto (tgt := 29) dX10_even_21 (by decide) ?_
      exact v_ireturn dX10_even_29 rfl rfl
    · refine v_aload_n dX10_even_24 rfl ?_
      refine v_iload_n dX10_even_25 rfl ?_
      refine v_if (fun h11 => ?_)
      refine v_cV (mi := mX10_even) (c0 := 0) (c1 := 0) (As := [pI a2]) (st := []) (kX7_evenOut d (by omega) _ _ _) rfl h11 rfl okX7_evenOut (Or.inl tw1045) tw1046 tw1047 rfl (Nat.le_of_ble_eq_true rfl) dX10_even_26 (fun r9 => [pI r9]) (fun r9 => M) (fun _ => rfl) (fun _ => rfl) (fun r9 h10 => ?_) rfl
      exact v_ireturn dX10_even_29 rfl rfl
theorem dX10_drawn_0 : decode cX10_drawn 0 = .ok (.aload_n 0, 1) := by decide +kernel
theorem dX10_drawn_1 : decode cX10_drawn 1 = .ok (.getfield 12, 3) := by decide +kernel
theorem dX10_drawn_4 : decode cX10_drawn 4 = .ok (.iload_n 1, 1) := by decide +kernel
theorem dX10_drawn_5 : decode cX10_drawn 5 = .ok (.invokevirtual 92, 3) := by decide +kernel
theorem dX10_drawn_8 : decode cX10_drawn 8 = .ok (.astore 6, 2) := by decide +kernel
theorem dX10_drawn_10 : decode cX10_drawn 10 = .ok (.aload_n 0, 1) := by decide +kernel
theorem dX10_drawn_11 : decode cX10_drawn 11 = .ok (.getfield 12, 3) := by decide +kernel
theorem dX10_drawn_14 : decode cX10_drawn 14 = .ok (.iload_n 2, 1) := by decide +kernel
theorem dX10_drawn_15 : decode cX10_drawn 15 = .ok (.invokevirtual 148, 3) := by decide +kernel
theorem dX10_drawn_18 : decode cX10_drawn 18 = .ok (.astore 7, 2) := by decide +kernel
theorem dX10_drawn_20 : decode cX10_drawn 20 = .ok (.aload 6, 2) := by decide +kernel
theorem dX10_drawn_22 : decode cX10_drawn 22 = .ok (.ifnull 21, 3) := by decide +kernel
theorem dX10_drawn_25 : decode cX10_drawn 25 = .ok (.aload 7, 2) := by decide +kernel
theorem dX10_drawn_27 : decode cX10_drawn 27 = .ok (.ifnull 16, 3) := by decide +kernel
theorem dX10_drawn_30 : decode cX10_drawn 30 = .ok (.iload 4, 2) := by decide +kernel
theorem dX10_drawn_32 : decode cX10_drawn 32 = .ok (.iconst 1, 1) := by decide +kernel
theorem dX10_drawn_33 : decode cX10_drawn 33 = .ok (.if_icmp .lt 10, 3) := by decide +kernel
theorem dX10_drawn_36 : decode cX10_drawn 36 = .ok (.iload 4, 2) := by decide +kernel
theorem dX10_drawn_38 : decode cX10_drawn 38 = .ok (.bipush 30, 2) := by decide +kernel
theorem dX10_drawn_40 : decode cX10_drawn 40 = .ok (.if_icmp .le 7, 3) := by decide +kernel
theorem dX10_drawn_43 : decode cX10_drawn 43 = .ok (.sipush (-1000), 3) := by decide +kernel
theorem dX10_drawn_46 : decode cX10_drawn 46 = .ok (.ireturn, 1) := by decide +kernel
theorem dX10_drawn_47 : decode cX10_drawn 47 = .ok (.aload_n 0, 1) := by decide +kernel
theorem dX10_drawn_48 : decode cX10_drawn 48 = .ok (.getfield 40, 3) := by decide +kernel
theorem dX10_drawn_51 : decode cX10_drawn 51 = .ok (.aload 6, 2) := by decide +kernel
theorem dX10_drawn_53 : decode cX10_drawn 53 = .ok (.aload 7, 2) := by decide +kernel
theorem dX10_drawn_55 : decode cX10_drawn 55 = .ok (.invokevirtual 301, 3) := by decide +kernel
theorem dX10_drawn_58 : decode cX10_drawn 58 = .ok (.aload_n 0, 1) := by decide +kernel
theorem dX10_drawn_59 : decode cX10_drawn 59 = .ok (.getfield 40, 3) := by decide +kernel
theorem dX10_drawn_62 : decode cX10_drawn 62 = .ok (.iload_n 3, 1) := by decide +kernel
theorem dX10_drawn_63 : decode cX10_drawn 63 = .ok (.iload 4, 2) := by decide +kernel
theorem dX10_drawn_65 : decode cX10_drawn 65 = .ok (.invokevirtual 304, 3) := by decide +kernel
theorem dX10_drawn_68 : decode cX10_drawn 68 = .ok (.iload 5, 2) := by decide +kernel
theorem dX10_drawn_70 : decode cX10_drawn 70 = .ok (.bipush 70, 2) := by decide +kernel
theorem dX10_drawn_72 : decode cX10_drawn 72 = .ok (.if_icmp .lt 32, 3) := by decide +kernel
theorem dX10_drawn_75 : decode cX10_drawn 75 = .ok (.iload 5, 2) := by decide +kernel
theorem dX10_drawn_77 : decode cX10_drawn 77 = .ok (.bipush 70, 2) := by decide +kernel
theorem dX10_drawn_79 : decode cX10_drawn 79 = .ok (.iconst 5, 1) := by decide +kernel
theorem dX10_drawn_80 : decode cX10_drawn 80 = .ok (.aload 6, 2) := by decide +kernel
theorem dX10_drawn_82 : decode cX10_drawn 82 = .ok (.getfield 96, 3) := by decide +kernel
theorem dX10_drawn_85 : decode cX10_drawn 85 = .ok (.imul, 1) := by decide +kernel
theorem dX10_drawn_86 : decode cX10_drawn 86 = .ok (.iadd, 1) := by decide +kernel
theorem dX10_drawn_87 : decode cX10_drawn 87 = .ok (.if_icmp .ge 17, 3) := by decide +kernel
theorem dX10_drawn_90 : decode cX10_drawn 90 = .ok (.aload_n 0, 1) := by decide +kernel
theorem dX10_drawn_91 : decode cX10_drawn 91 = .ok (.getfield 40, 3) := by decide +kernel
theorem dX10_drawn_94 : decode cX10_drawn 94 = .ok (.getfield 211, 3) := by decide +kernel
theorem dX10_drawn_97 : decode cX10_drawn 97 = .ok (.iload 5, 2) := by decide +kernel
theorem dX10_drawn_99 : decode cX10_drawn 99 = .ok (.bipush 70, 2) := by decide +kernel
theorem dX10_drawn_101 : decode cX10_drawn 101 = .ok (.isub, 1) := by decide +kernel
theorem dX10_drawn_102 : decode cX10_drawn 102 = .ok (.iaload, 1) := by decide +kernel
theorem dX10_drawn_103 : decode cX10_drawn 103 = .ok (.ireturn, 1) := by decide +kernel
theorem dX10_drawn_104 : decode cX10_drawn 104 = .ok (.aload_n 0, 1) := by decide +kernel
theorem dX10_drawn_105 : decode cX10_drawn 105 = .ok (.getfield 40, 3) := by decide +kernel
theorem dX10_drawn_108 : decode cX10_drawn 108 = .ok (.iload 5, 2) := by decide +kernel
theorem dX10_drawn_110 : decode cX10_drawn 110 = .ok (.invokestatic 204, 3) := by decide +kernel
theorem dX10_drawn_113 : decode cX10_drawn 113 = .ok (.ireturn, 1) := by decide +kernel
abbrev mX10_drawn : MI := (yX10_drawn, cX10_drawn, 8, (some .int), noE)
theorem okX10_drawn : cok mX10_drawn 5 := ⟨tw1053, tw1, by decide, by decide, by decide, by decide +kernel⟩
def fX10_drawn (M : Mem) (a0 a1 a2 a3 a4 a5 : Int) : Option (Int × Mem) :=
  if M.2.1 a0 = 9 then if M.2.1 (M.1 a0 0) = 6 then (fX6_townAt M (M.1 a0 0) a1).bind fun r2 => (fX6_lawAt M (M.1 a0 0) a2).bind fun r5 => if r2 = -1 then (some ((-1000), M)) else (if r5 = -1 then (some ((-1000), M)) else (if a4 < 1 then (some ((-1000), M)) else (if 30 < a4 then (some ((-1000), M)) else (if M.2.1 (M.1 a0 3) = 8 then (fX9_begin M (M.1 a0 3) r2 r5).bind fun r11 => if r11.2.1 a0 = 9 then if r11.2.1 (r11.1 a0 3) = 8 then (fX9_drawNights r11 (r11.1 a0 3) a3 a4).bind fun r15 => jn (fun (t19 : Unit) => if r15.2.1 a0 = 9 then (fX8_seen r15 (r15.1 a0 3) a5).bind fun r21 => some (r21, r15) else none) (fun (j18 : Unit → Option (Int × Mem)) => if a5 < 70 then (j18 ()) else (if r15.2.1 r2 = 7 then if a5 < w32 (70 + (w32 (5 * (r15.1 r2 0)))) then (if r15.2.1 a0 = 9 then if r15.2.1 (r15.1 a0 3) = 8 then if r15.2.1 (r15.1 (r15.1 a0 3) 2) = 12 ∧ (0 : Int) ≤ (w32 (a5 - 70)) ∧ (w32 (a5 - 70)) < r15.2.2.1 (r15.1 (r15.1 a0 3) 2) then some (r15.1 (r15.1 (r15.1 a0 3) 2) (w32 (a5 - 70)), r15) else none else none else none) else (j18 ()) else none)) else none else none else none)))) else none else none
set_option maxRecDepth 100000 in
set_option maxHeartbeats 4000000 in
theorem kX10_drawn (d : Nat) (hd : 6 ≤ d) (M : Mem) (a0 a1 a2 a3 a4 a5 : Int) : Ct mX10_drawn d 0 0 [pA a0, pI a1, pI a2, pI a3, pI a4, pI a5] M dIM (fX10_drawn M a0 a1 a2 a3 a4 a5) := by
  obtain ⟨d, rfl⟩ : ∃ k, d = k + 1 := ⟨d - 1, by omega⟩
  refine Ct.of 2 (fun _ _ _ => trivial) (by decide +kernel) rfl ?_
  unfold fX10_drawn
  refine v_aload_n dX10_drawn_0 rfl ?_
  refine v_if (fun h1 => ?_)
  refine v_get (v := pA (M.1 a0 0)) 9 0 rfl inX10 (by decide) tw421 dX10_drawn_1 h1 rfl ?_
  refine v_iload_n dX10_drawn_4 rfl ?_
  refine v_if (fun h4 => ?_)
  refine v_cV (mi := mX10_drawn) (c0 := 0) (c1 := 0) (As := [pI a1]) (st := []) (kX6_townAt d (by omega) _ _ _) rfl h4 rfl okX6_townAt (Or.inl tw680) tw681 tw682 rfl (Nat.le_of_ble_eq_true rfl) dX10_drawn_5 (fun r2 => [pA r2]) (fun r2 => M) (fun _ => rfl) (fun _ => rfl) (fun r2 h3 => ?_) rfl
  refine v_astore (ls' := [some (pA a0), some (pI a1), some (pI a2), some (pI a3), some (pI a4), some (pI a5), some (pA r2), none]) dX10_drawn_8 (by decide) rfl ?_
  refine v_aload_n dX10_drawn_10 rfl ?_
  refine v_get (v := pA (M.1 a0 0)) 9 0 rfl inX10 (by decide) tw421 dX10_drawn_11 h1 rfl ?_
  refine v_iload_n dX10_drawn_14 rfl ?_
  refine v_cV (mi := mX10_drawn) (c0 := 0) (c1 := 0) (As := [pI a2]) (st := []) (kX6_lawAt d (by omega) _ _ _) rfl h4 rfl okX6_lawAt (Or.inl tw714) tw715 tw716 rfl (Nat.le_of_ble_eq_true rfl) dX10_drawn_15 (fun r5 => [pA r5]) (fun r5 => M) (fun _ => rfl) (fun _ => rfl) (fun r5 h6 => ?_) rfl
  refine v_astore (ls' := [some (pA a0), some (pI a1), some (pI a2), some (pI a3), some (pI a4), some (pI a5), some (pA r2), some (pA r5)]) dX10_drawn_18 (by decide) rfl ?_
  refine v_aload dX10_drawn_20 rfl ?_
  refine v_ifnull (tgt := 43) dX10_drawn_22 (by decide) (fun c7 => ?_) (fun c7 => ?_)
  · refine v_sipush dX10_drawn_43 (by decide) ?_
    exact v_ireturn dX10_drawn_46 rfl rfl
  · refine v_aload dX10_drawn_25 rfl ?_
    refine v_ifnull (tgt := 43) dX10_drawn_27 (by decide) (fun c8 => ?_) (fun c8 => ?_)
    · refine v_sipush dX10_drawn_43 (by decide) ?_
      exact v_ireturn dX10_drawn_46 rfl rfl
    · refine v_iload dX10_drawn_30 rfl ?_
      refine v_iconst dX10_drawn_32 (by decide) ?_
      refine v_icmp_lt (tgt := 43) dX10_drawn_33 (by decide) (fun c9 => ?_) (fun c9 => ?_)
      · refine v_sipush dX10_drawn_43 (by decide) ?_
        exact v_ireturn dX10_drawn_46 rfl rfl
      · refine v_iload dX10_drawn_36 rfl ?_
        refine v_bipush dX10_drawn_38 (by decide) ?_
        refine v_icmp_le (tgt := 47) dX10_drawn_40 (by decide) (fun c10 => ?_) (fun c10 => ?_)
        · refine v_sipush dX10_drawn_43 (by decide) ?_
          exact v_ireturn dX10_drawn_46 rfl rfl
        · refine v_aload_n dX10_drawn_47 rfl ?_
          refine v_get (v := pA (M.1 a0 3)) 9 3 rfl inX10 (by decide) tw424 dX10_drawn_48 h1 rfl ?_
          refine v_aload dX10_drawn_51 rfl ?_
          refine v_aload dX10_drawn_53 rfl ?_
          refine v_if (fun h13 => ?_)
          refine v_cV (mi := mX10_drawn) (c0 := 0) (c1 := 0) (As := [pA r2, pA r5]) (st := []) (kX9_begin d (by omega) _ _ _ _) rfl h13 rfl okX9_begin (Or.inl tw738) tw739 tw740 rfl (Nat.le_of_ble_eq_true rfl) dX10_drawn_55 (fun r11 => []) (fun r11 => r11) (fun _ => rfl) (fun _ => rfl) (fun r11 h12 => ?_) rfl
          refine v_aload_n dX10_drawn_58 rfl ?_
          refine v_if (fun h14 => ?_)
          refine v_get (v := pA (r11.1 a0 3)) 9 3 rfl inX10 (by decide) tw424 dX10_drawn_59 h14 rfl ?_
          refine v_iload_n dX10_drawn_62 rfl ?_
          refine v_iload dX10_drawn_63 rfl ?_
          refine v_if (fun h17 => ?_)
          refine v_cV (mi := mX10_drawn) (c0 := 0) (c1 := 0) (As := [pI a3, pI a4]) (st := []) (kX9_drawNights d (by omega) _ _ _ _) rfl h17 rfl okX9_drawNights (Or.inl tw1054) tw1055 tw1056 rfl (Nat.le_of_ble_eq_true rfl) dX10_drawn_65 (fun r15 => []) (fun r15 => r15) (fun _ => rfl) (fun _ => rfl) (fun r15 h16 => ?_) rfl
          refine v_iload dX10_drawn_68 rfl ?_
          refine v_bipush dX10_drawn_70 (by decide) ?_
          refine v_join (fun (t19 : Unit) => [some (pA a0), none, none, none, none, some (pI a5), none, none]) (fun (t19 : Unit) => []) (fun (t19 : Unit) => r15) 104 (fun t19 => ?_) (fun j18 hj18 => ?_)
          · refine v_aload_n dX10_drawn_104 rfl ?_
            refine v_if (fun h20 => ?_)
            refine v_get (v := pA (r15.1 a0 3)) 9 3 rfl inX10 (by decide) tw424 dX10_drawn_105 h20 rfl ?_
            refine v_iload dX10_drawn_108 rfl ?_
            refine v_cS (mi := mX10_drawn) (c0 := 0) (c1 := 0) (As := [pA (r15.1 a0 3), pI a5]) (st := []) (kX8_seen d (by omega) _ _ _) okX8_seen (Or.inl tw818) tw819 rfl (Nat.le_of_ble_eq_true rfl) dX10_drawn_110 (fun r21 => [pI r21]) (fun r21 => r15) (fun _ => rfl) (fun _ => rfl) (fun r21 h22 => ?_) rfl
            exact v_ireturn dX10_drawn_113 rfl rfl
          · refine v_icmp_lt (tgt := 104) dX10_drawn_72 (by decide) (fun c23 => ?_) (fun c23 => ?_)
            · exact v_drop [some (pA a0), none, none, none, none, some (pI a5), none, none] (ls_s (ls_n (ls_n (ls_n (ls_n (ls_s (ls_n (ls_n ls_e)))))))) (hj18 ())
            · refine v_iload dX10_drawn_75 rfl ?_
              refine v_bipush dX10_drawn_77 (by decide) ?_
              refine v_iconst dX10_drawn_79 (by decide) ?_
              refine v_aload dX10_drawn_80 rfl ?_
              refine v_if (fun h24 => ?_)
              refine v_get (v := pI (r15.1 r2 0)) 7 0 rfl inX7 (by decide) tw58 dX10_drawn_82 h24 rfl ?_
              refine v_imul dX10_drawn_85 ?_
              refine v_iadd dX10_drawn_86 ?_
              refine v_icmp_ge (tgt := 104) dX10_drawn_87 (by decide) (fun c25 => ?_) (fun c25 => ?_)
              · refine v_aload_n dX10_drawn_90 rfl ?_
                refine v_if (fun h26 => ?_)
                refine v_get (v := pA (r15.1 a0 3)) 9 3 rfl inX10 (by decide) tw424 dX10_drawn_91 h26 rfl ?_
                refine v_if (fun h27 => ?_)
                refine v_get (v := pA (r15.1 (r15.1 a0 3) 2)) 8 2 rfl inX9 (by decide) tw321 dX10_drawn_94 h27 rfl ?_
                refine v_iload dX10_drawn_97 rfl ?_
                refine v_bipush dX10_drawn_99 (by decide) ?_
                refine v_isub dX10_drawn_101 ?_
                refine v_if (fun h28 => ?_)
                refine v_iaload h28 dX10_drawn_102 ?_
                exact v_ireturn dX10_drawn_103 rfl rfl
              · exact v_drop [some (pA a0), none, none, none, none, some (pI a5), none, none] (ls_s (ls_n (ls_n (ls_n (ls_n (ls_s (ls_n (ls_n ls_e)))))))) (hj18 ())
theorem dX10_wealth_0 : decode cX10_wealth 0 = .ok (.aload_n 0, 1) := by decide +kernel
theorem dX10_wealth_1 : decode cX10_wealth 1 = .ok (.iload_n 1, 1) := by decide +kernel
theorem dX10_wealth_2 : decode cX10_wealth 2 = .ok (.iload_n 2, 1) := by decide +kernel
theorem dX10_wealth_3 : decode cX10_wealth 3 = .ok (.iload_n 3, 1) := by decide +kernel
theorem dX10_wealth_4 : decode cX10_wealth 4 = .ok (.iload 4, 2) := by decide +kernel
theorem dX10_wealth_6 : decode cX10_wealth 6 = .ok (.invokevirtual 192, 3) := by decide +kernel
theorem dX10_wealth_9 : decode cX10_wealth 9 = .ok (.ifCond .ne 7, 3) := by decide +kernel
theorem dX10_wealth_12 : decode cX10_wealth 12 = .ok (.sipush (-1000), 3) := by decide +kernel
theorem dX10_wealth_15 : decode cX10_wealth 15 = .ok (.ireturn, 1) := by decide +kernel
theorem dX10_wealth_16 : decode cX10_wealth 16 = .ok (.aload_n 0, 1) := by decide +kernel
theorem dX10_wealth_17 : decode cX10_wealth 17 = .ok (.getfield 40, 3) := by decide +kernel
theorem dX10_wealth_20 : decode cX10_wealth 20 = .ok (.iload 5, 2) := by decide +kernel
theorem dX10_wealth_22 : decode cX10_wealth 22 = .ok (.invokestatic 308, 3) := by decide +kernel
theorem dX10_wealth_25 : decode cX10_wealth 25 = .ok (.ireturn, 1) := by decide +kernel
abbrev mX10_wealth : MI := (yX10_wealth, cX10_wealth, 6, (some .int), noE)
theorem okX10_wealth : cok mX10_wealth 5 := ⟨tw1074, tw1, by decide, by decide, by decide, by decide +kernel⟩
def fX10_wealth (M : Mem) (a0 a1 a2 a3 a4 a5 : Int) : Option (Int × Mem) :=
  if M.2.1 a0 = 9 then (fX10_walkJust M a0 a1 a2 a3 a4).bind fun r1 => if r1.1 = 0 then (some ((-1000), r1.2)) else (if r1.2.2.1 a0 = 9 then (fX8_rich r1.2 (r1.2.1 a0 3) a5).bind fun r6 => some (r6, r1.2) else none) else none
set_option maxRecDepth 100000 in
set_option maxHeartbeats 4000000 in
theorem kX10_wealth (d : Nat) (hd : 7 ≤ d) (M : Mem) (a0 a1 a2 a3 a4 a5 : Int) : Ct mX10_wealth d 0 0 [pA a0, pI a1, pI a2, pI a3, pI a4, pI a5] M dIM (fX10_wealth M a0 a1 a2 a3 a4 a5) := by
  obtain ⟨d, rfl⟩ : ∃ k, d = k + 1 := ⟨d - 1, by omega⟩
  refine Ct.of 0 (fun _ _ _ => trivial) (by decide +kernel) rfl ?_
  unfold fX10_wealth
  refine v_aload_n dX10_wealth_0 rfl ?_
  refine v_iload_n dX10_wealth_1 rfl ?_
  refine v_iload_n dX10_wealth_2 rfl ?_
  refine v_iload_n dX10_wealth_3 rfl ?_
  refine v_iload dX10_wealth_4 rfl ?_
  refine v_if (fun h3 => ?_)
  refine v_cV (mi := mX10_wealth) (c0 := 0) (c1 := 0) (As := [pI a1, pI a2, pI a3, pI a4]) (st := []) (kX10_walkJust d (by omega) _ _ _ _ _ _) rfl h3 rfl okX10_walkJust (Or.inl tw801) tw803 tp16 rfl (Nat.le_of_ble_eq_true rfl) dX10_wealth_6 (fun r1 => [pI r1.1]) (fun r1 => r1.2) (fun _ => rfl) (fun _ => rfl) (fun r1 h2 => ?_) rfl
  refine v_if_ne (tgt := 16) dX10_wealth_9 (by decide) (fun c4 => ?_) (fun c4 => ?_)
  · refine v_sipush dX10_wealth_12 (by decide) ?_
    exact v_ireturn dX10_wealth_15 rfl rfl
  · refine v_aload_n dX10_wealth_16 rfl ?_
    refine v_if (fun h5 => ?_)
    refine v_get (v := pA (r1.2.1 a0 3)) 9 3 rfl inX10 (by decide) tw424 dX10_wealth_17 h5 rfl ?_
    refine v_iload dX10_wealth_20 rfl ?_
    refine v_cS (mi := mX10_wealth) (c0 := 0) (c1 := 0) (As := [pA (r1.2.1 a0 3), pI a5]) (st := []) (kX8_rich d (by omega) _ _ _) okX8_rich (Or.inl tw1075) tw1076 rfl (Nat.le_of_ble_eq_true rfl) dX10_wealth_22 (fun r6 => [pI r6]) (fun r6 => r1.2) (fun _ => rfl) (fun _ => rfl) (fun r6 h7 => ?_) rfl
    exact v_ireturn dX10_wealth_25 rfl rfl
theorem dX10_haul_0 : decode cX10_haul 0 = .ok (.aload_n 0, 1) := by decide +kernel
theorem dX10_haul_1 : decode cX10_haul 1 = .ok (.getfield 12, 3) := by decide +kernel
theorem dX10_haul_4 : decode cX10_haul 4 = .ok (.iload_n 1, 1) := by decide +kernel
theorem dX10_haul_5 : decode cX10_haul 5 = .ok (.invokevirtual 92, 3) := by decide +kernel
theorem dX10_haul_8 : decode cX10_haul 8 = .ok (.astore 6, 2) := by decide +kernel
theorem dX10_haul_10 : decode cX10_haul 10 = .ok (.aload 6, 2) := by decide +kernel
theorem dX10_haul_12 : decode cX10_haul 12 = .ok (.ifnull 34, 3) := by decide +kernel
theorem dX10_haul_15 : decode cX10_haul 15 = .ok (.aload 6, 2) := by decide +kernel
theorem dX10_haul_17 : decode cX10_haul 17 = .ok (.iload_n 2, 1) := by decide +kernel
theorem dX10_haul_18 : decode cX10_haul 18 = .ok (.invokevirtual 104, 3) := by decide +kernel
theorem dX10_haul_21 : decode cX10_haul 21 = .ok (.ifCond .eq 25, 3) := by decide +kernel
theorem dX10_haul_24 : decode cX10_haul 24 = .ok (.iload_n 3, 1) := by decide +kernel
theorem dX10_haul_25 : decode cX10_haul 25 = .ok (.ifCond .lt 21, 3) := by decide +kernel
theorem dX10_haul_28 : decode cX10_haul 28 = .ok (.iload_n 3, 1) := by decide +kernel
theorem dX10_haul_29 : decode cX10_haul 29 = .ok (.bipush 9, 2) := by decide +kernel
theorem dX10_haul_31 : decode cX10_haul 31 = .ok (.if_icmp .gt 15, 3) := by decide +kernel
theorem dX10_haul_34 : decode cX10_haul 34 = .ok (.iload 4, 2) := by decide +kernel
theorem dX10_haul_36 : decode cX10_haul 36 = .ok (.ifCond .lt 10, 3) := by decide +kernel
theorem dX10_haul_39 : decode cX10_haul 39 = .ok (.iload 4, 2) := by decide +kernel
theorem dX10_haul_41 : decode cX10_haul 41 = .ok (.bipush 99, 2) := by decide +kernel
theorem dX10_haul_43 : decode cX10_haul 43 = .ok (.if_icmp .le 5, 3) := by decide +kernel
theorem dX10_haul_46 : decode cX10_haul 46 = .ok (.iconst (-1), 1) := by decide +kernel
theorem dX10_haul_47 : decode cX10_haul 47 = .ok (.ireturn, 1) := by decide +kernel
theorem dX10_haul_48 : decode cX10_haul 48 = .ok (.iload 5, 2) := by decide +kernel
theorem dX10_haul_50 : decode cX10_haul 50 = .ok (.ifCond .eq 19, 3) := by decide +kernel
theorem dX10_haul_53 : decode cX10_haul 53 = .ok (.iload 5, 2) := by decide +kernel
theorem dX10_haul_55 : decode cX10_haul 55 = .ok (.bipush 10, 2) := by decide +kernel
theorem dX10_haul_57 : decode cX10_haul 57 = .ok (.if_icmp .lt 10, 3) := by decide +kernel
theorem dX10_haul_60 : decode cX10_haul 60 = .ok (.iload 5, 2) := by decide +kernel
theorem dX10_haul_62 : decode cX10_haul 62 = .ok (.bipush 15, 2) := by decide +kernel
theorem dX10_haul_64 : decode cX10_haul 64 = .ok (.if_icmp .lt 5, 3) := by decide +kernel
theorem dX10_haul_67 : decode cX10_haul 67 = .ok (.iconst (-1), 1) := by decide +kernel
theorem dX10_haul_68 : decode cX10_haul 68 = .ok (.ireturn, 1) := by decide +kernel
theorem dX10_haul_69 : decode cX10_haul 69 = .ok (.aload_n 0, 1) := by decide +kernel
theorem dX10_haul_70 : decode cX10_haul 70 = .ok (.getfield 56, 3) := by decide +kernel
theorem dX10_haul_73 : decode cX10_haul 73 = .ok (.aload 6, 2) := by decide +kernel
theorem dX10_haul_75 : decode cX10_haul 75 = .ok (.iload_n 2, 1) := by decide +kernel
theorem dX10_haul_76 : decode cX10_haul 76 = .ok (.iload_n 3, 1) := by decide +kernel
theorem dX10_haul_77 : decode cX10_haul 77 = .ok (.iload 4, 2) := by decide +kernel
theorem dX10_haul_79 : decode cX10_haul 79 = .ok (.invokevirtual 311, 3) := by decide +kernel
theorem dX10_haul_82 : decode cX10_haul 82 = .ok (.iload 5, 2) := by decide +kernel
theorem dX10_haul_84 : decode cX10_haul 84 = .ok (.ifCond .ne 13, 3) := by decide +kernel
theorem dX10_haul_87 : decode cX10_haul 87 = .ok (.aload_n 0, 1) := by decide +kernel
theorem dX10_haul_88 : decode cX10_haul 88 = .ok (.getfield 56, 3) := by decide +kernel
theorem dX10_haul_91 : decode cX10_haul 91 = .ok (.getfield 315, 3) := by decide +kernel
theorem dX10_haul_94 : decode cX10_haul 94 = .ok (.goto 16, 3) := by decide +kernel
theorem dX10_haul_97 : decode cX10_haul 97 = .ok (.aload_n 0, 1) := by decide +kernel
theorem dX10_haul_98 : decode cX10_haul 98 = .ok (.getfield 56, 3) := by decide +kernel
theorem dX10_haul_101 : decode cX10_haul 101 = .ok (.getfield 318, 3) := by decide +kernel
theorem dX10_haul_104 : decode cX10_haul 104 = .ok (.iload 5, 2) := by decide +kernel
theorem dX10_haul_106 : decode cX10_haul 106 = .ok (.bipush 10, 2) := by decide +kernel
theorem dX10_haul_108 : decode cX10_haul 108 = .ok (.isub, 1) := by decide +kernel
theorem dX10_haul_109 : decode cX10_haul 109 = .ok (.iaload, 1) := by decide +kernel
theorem dX10_haul_110 : decode cX10_haul 110 = .ok (.ireturn, 1) := by decide +kernel
abbrev mX10_haul : MI := (yX10_haul, cX10_haul, 7, (some .int), noE)
theorem okX10_haul : cok mX10_haul 5 := ⟨tw1122, tw1, by decide, by decide, by decide, by decide +kernel⟩
def fX10_haul (M : Mem) (a0 a1 a2 a3 a4 a5 : Int) : Option (Int × Mem) :=
  if M.2.1 a0 = 9 then if M.2.1 (M.1 a0 0) = 6 then (fX6_townAt M (M.1 a0 0) a1).bind fun r2 => if r2 = -1 then (some ((-1), M)) else (if M.2.1 r2 = 7 then (fX7_isHouse M r2 a2).bind fun r6 => if r6 = 0 then (some ((-1), M)) else (if a3 < 0 then (some ((-1), M)) else (if 9 < a3 then (some ((-1), M)) else (if a4 < 0 then (some ((-1), M)) else (if 99 < a4 then (some ((-1), M)) else (jn (fun (t15 : Unit) => if M.2.1 (M.1 a0 5) = 2 then (fX2_choose M (M.1 a0 5) r2 a2 a3 a4).bind fun r16 => if a5 = 0 then (if r16.2.1 a0 = 9 then if r16.2.1 (r16.1 a0 5) = 2 then some (r16.1 (r16.1 a0 5) 1, r16) else none else none) else (if r16.2.1 a0 = 9 then if r16.2.1 (r16.1 a0 5) = 2 then if r16.2.1 (r16.1 (r16.1 a0 5) 0) = 12 ∧ (0 : Int) ≤ (w32 (a5 - 10)) ∧ (w32 (a5 - 10)) < r16.2.2.1 (r16.1 (r16.1 a0 5) 0) then some (r16.1 (r16.1 (r16.1 a0 5) 0) (w32 (a5 - 10)), r16) else none else none else none) else none) (fun (j14 : Unit → Option (Int × Mem)) => if a5 = 0 then (j14 ()) else (if a5 < 10 then (some ((-1), M)) else (if a5 < 15 then (j14 ()) else (some ((-1), M)))))))))) else none) else none else none
set_option maxRecDepth 100000 in
set_option maxHeartbeats 4000000 in
theorem kX10_haul (d : Nat) (hd : 26 ≤ d) (M : Mem) (a0 a1 a2 a3 a4 a5 : Int) : Ct mX10_haul d 0 0 [pA a0, pI a1, pI a2, pI a3, pI a4, pI a5] M dIM (fX10_haul M a0 a1 a2 a3 a4 a5) := by
  obtain ⟨d, rfl⟩ : ∃ k, d = k + 1 := ⟨d - 1, by omega⟩
  refine Ct.of 1 (fun _ _ _ => trivial) (by decide +kernel) rfl ?_
  unfold fX10_haul
  refine v_aload_n dX10_haul_0 rfl ?_
  refine v_if (fun h1 => ?_)
  refine v_get (v := pA (M.1 a0 0)) 9 0 rfl inX10 (by decide) tw421 dX10_haul_1 h1 rfl ?_
  refine v_iload_n dX10_haul_4 rfl ?_
  refine v_if (fun h4 => ?_)
  refine v_cV (mi := mX10_haul) (c0 := 0) (c1 := 0) (As := [pI a1]) (st := []) (kX6_townAt d (by omega) _ _ _) rfl h4 rfl okX6_townAt (Or.inl tw680) tw681 tw682 rfl (Nat.le_of_ble_eq_true rfl) dX10_haul_5 (fun r2 => [pA r2]) (fun r2 => M) (fun _ => rfl) (fun _ => rfl) (fun r2 h3 => ?_) rfl
  refine v_astore (ls' := [some (pA a0), some (pI a1), some (pI a2), some (pI a3), some (pI a4), some (pI a5), some (pA r2)]) dX10_haul_8 (by decide) rfl ?_
  refine v_aload dX10_haul_10 rfl ?_
  refine v_ifnull (tgt := 46) dX10_haul_12 (by decide) (fun c5 => ?_) (fun c5 => ?_)
  · refine v_iconst dX10_haul_46 (by decide) ?_
    exact v_ireturn dX10_haul_47 rfl rfl
  · refine v_aload dX10_haul_15 rfl ?_
    refine v_iload_n dX10_haul_17 rfl ?_
    refine v_if (fun h8 => ?_)
    refine v_cV (mi := mX10_haul) (c0 := 0) (c1 := 0) (As := [pI a2]) (st := []) (kX7_isHouse d (by omega) _ _ _) rfl h8 rfl okX7_isHouse (Or.inl tw684) tw685 tw686 rfl (Nat.le_of_ble_eq_true rfl) dX10_haul_18 (fun r6 => [pI r6]) (fun r6 => M) (fun _ => rfl) (fun _ => rfl) (fun r6 h7 => ?_) rfl
    refine v_if_eq (tgt := 46) dX10_haul_21 (by decide) (fun c9 => ?_) (fun c9 => ?_)
    · refine v_iconst dX10_haul_46 (by decide) ?_
      exact v_ireturn dX10_haul_47 rfl rfl
    · refine v_iload_n dX10_haul_24 rfl ?_
      refine v_if_lt (tgt := 46) dX10_haul_25 (by decide) (fun c10 => ?_) (fun c10 => ?_)
      · refine v_iconst dX10_haul_46 (by decide) ?_
        exact v_ireturn dX10_haul_47 rfl rfl
      · refine v_iload_n dX10_haul_28 rfl ?_
        refine v_bipush dX10_haul_29 (by decide) ?_
        refine v_icmp_gt (tgt := 46) dX10_haul_31 (by decide) (fun c11 => ?_) (fun c11 => ?_)
        · refine v_iconst dX10_haul_46 (by decide) ?_
          exact v_ireturn dX10_haul_47 rfl rfl
        · refine v_iload dX10_haul_34 rfl ?_
          refine v_if_lt (tgt := 46) dX10_haul_36 (by decide) (fun c12 => ?_) (fun c12 => ?_)
          · refine v_iconst dX10_haul_46 (by decide) ?_
            exact v_ireturn dX10_haul_47 rfl rfl
          · refine v_iload dX10_haul_39 rfl ?_
            refine v_bipush dX10_haul_41 (by decide) ?_
            refine v_icmp_le (tgt := 48) dX10_haul_43 (by decide) (fun c13 => ?_) (fun c13 => ?_)
            · refine v_iconst dX10_haul_46 (by decide) ?_
              exact v_ireturn dX10_haul_47 rfl rfl
            · refine v_iload dX10_haul_48 rfl ?_
              refine v_join (fun (t15 : Unit) => [some (pA a0), none, some (pI a2), some (pI a3), some (pI a4), some (pI a5), some (pA r2)]) (fun (t15 : Unit) => []) (fun (t15 : Unit) => M) 69 (fun t15 => ?_) (fun j14 hj14 => ?_)
              · refine v_aload_n dX10_haul_69 rfl ?_
                refine v_get (v := pA (M.1 a0 5)) 9 5 rfl inX10 (by decide) tw426 dX10_haul_70 h1 rfl ?_
                refine v_aload dX10_haul_73 rfl ?_
                refine v_iload_n dX10_haul_75 rfl ?_
                refine v_iload_n dX10_haul_76 rfl ?_
                refine v_iload dX10_haul_77 rfl ?_
                refine v_if (fun h18 => ?_)
                refine v_cV (mi := mX10_haul) (c0 := 0) (c1 := 0) (As := [pA r2, pI a2, pI a3, pI a4]) (st := []) (kX2_choose d (by omega) _ _ _ _ _ _) rfl h18 rfl okX2_choose (Or.inl tw1123) tw1124 tw1125 rfl (Nat.le_of_ble_eq_true rfl) dX10_haul_79 (fun r16 => []) (fun r16 => r16) (fun _ => rfl) (fun _ => rfl) (fun r16 h17 => ?_) rfl
                refine v_iload dX10_haul_82 rfl ?_
                refine v_if_ne (tgt := 97) dX10_haul_84 (by decide) (fun c19 => ?_) (fun c19 => ?_)
                · refine v_aload_n dX10_haul_87 rfl ?_
                  refine v_if (fun h20 => ?_)
                  refine v_get (v := pA (r16.1 a0 5)) 9 5 rfl inX10 (by decide) tw426 dX10_haul_88 h20 rfl ?_
                  refine v_if (fun h21 => ?_)
                  refine v_get (v := pI (r16.1 (r16.1 a0 5) 1)) 2 1 rfl inX2 (by decide) tw406 dX10_haul_91 h21 rfl ?_
                  refine v_goto (tgt := 110) dX10_haul_94 (by decide) ?_
                  exact v_ireturn dX10_haul_110 rfl rfl
                · refine v_aload_n dX10_haul_97 rfl ?_
                  refine v_if (fun h22 => ?_)
                  refine v_get (v := pA (r16.1 a0 5)) 9 5 rfl inX10 (by decide) tw426 dX10_haul_98 h22 rfl ?_
                  refine v_if (fun h23 => ?_)
                  refine v_get (v := pA (r16.1 (r16.1 a0 5) 0)) 2 0 rfl inX2 (by decide) tw404 dX10_haul_101 h23 rfl ?_
                  refine v_iload dX10_haul_104 rfl ?_
                  refine v_bipush dX10_haul_106 (by decide) ?_
                  refine v_isub dX10_haul_108 ?_
                  refine v_if (fun h24 => ?_)
                  refine v_iaload h24 dX10_haul_109 ?_
                  exact v_ireturn dX10_haul_110 rfl rfl
              · refine v_if_eq (tgt := 69) dX10_haul_50 (by decide) (fun c25 => ?_) (fun c25 => ?_)
                · exact v_drop [some (pA a0), none, some (pI a2), some (pI a3), some (pI a4), some (pI a5), some (pA r2)] (ls_s (ls_n (ls_s (ls_s (ls_s (ls_s (ls_s ls_e))))))) (hj14 ())
                · refine v_iload dX10_haul_53 rfl ?_
                  refine v_bipush dX10_haul_55 (by decide) ?_
                  refine v_icmp_lt (tgt := 67) dX10_haul_57 (by decide) (fun c26 => ?_) (fun c26 => ?_)
                  · refine v_iconst dX10_haul_67 (by decide) ?_
                    exact v_ireturn dX10_haul_68 rfl rfl
                  · refine v_iload dX10_haul_60 rfl ?_
                    refine v_bipush dX10_haul_62 (by decide) ?_
                    refine v_icmp_lt (tgt := 69) dX10_haul_64 (by decide) (fun c27 => ?_) (fun c27 => ?_)
                    · exact v_drop [some (pA a0), none, some (pI a2), some (pI a3), some (pI a4), some (pI a5), some (pA r2)] (ls_s (ls_n (ls_s (ls_s (ls_s (ls_s (ls_s ls_e))))))) (hj14 ())
                    · refine v_iconst dX10_haul_67 (by decide) ?_
                      exact v_ireturn dX10_haul_68 rfl rfl
theorem dX10_crew_0 : decode cX10_crew 0 = .ok (.aload_n 0, 1) := by decide +kernel
theorem dX10_crew_1 : decode cX10_crew 1 = .ok (.getfield 12, 3) := by decide +kernel
theorem dX10_crew_4 : decode cX10_crew 4 = .ok (.iload_n 1, 1) := by decide +kernel
theorem dX10_crew_5 : decode cX10_crew 5 = .ok (.invokevirtual 92, 3) := by decide +kernel
theorem dX10_crew_8 : decode cX10_crew 8 = .ok (.astore 4, 2) := by decide +kernel
theorem dX10_crew_10 : decode cX10_crew 10 = .ok (.aload 4, 2) := by decide +kernel
theorem dX10_crew_12 : decode cX10_crew 12 = .ok (.ifnull 14, 3) := by decide +kernel
theorem dX10_crew_15 : decode cX10_crew 15 = .ok (.iload_n 2, 1) := by decide +kernel
theorem dX10_crew_16 : decode cX10_crew 16 = .ok (.iconst 1, 1) := by decide +kernel
theorem dX10_crew_17 : decode cX10_crew 17 = .ok (.if_icmp .lt 9, 3) := by decide +kernel
theorem dX10_crew_20 : decode cX10_crew 20 = .ok (.iload_n 2, 1) := by decide +kernel
theorem dX10_crew_21 : decode cX10_crew 21 = .ok (.bipush 36, 2) := by decide +kernel
theorem dX10_crew_23 : decode cX10_crew 23 = .ok (.if_icmp .le 5, 3) := by decide +kernel
theorem dX10_crew_26 : decode cX10_crew 26 = .ok (.iconst (-1), 1) := by decide +kernel
theorem dX10_crew_27 : decode cX10_crew 27 = .ok (.ireturn, 1) := by decide +kernel
theorem dX10_crew_28 : decode cX10_crew 28 = .ok (.aload 4, 2) := by decide +kernel
theorem dX10_crew_30 : decode cX10_crew 30 = .ok (.iload_n 2, 1) := by decide +kernel
theorem dX10_crew_31 : decode cX10_crew 31 = .ok (.invokevirtual 321, 3) := by decide +kernel
theorem dX10_crew_34 : decode cX10_crew 34 = .ok (.istore 5, 2) := by decide +kernel
theorem dX10_crew_36 : decode cX10_crew 36 = .ok (.iload_n 3, 1) := by decide +kernel
theorem dX10_crew_37 : decode cX10_crew 37 = .ok (.ifCond .ne 9, 3) := by decide +kernel
theorem dX10_crew_40 : decode cX10_crew 40 = .ok (.iload 5, 2) := by decide +kernel
theorem dX10_crew_42 : decode cX10_crew 42 = .ok (.iconst (-1), 1) := by decide +kernel
theorem dX10_crew_43 : decode cX10_crew 43 = .ok (.if_icmp .ne 8, 3) := by decide +kernel
theorem dX10_crew_46 : decode cX10_crew 46 = .ok (.iload 5, 2) := by decide +kernel
theorem dX10_crew_48 : decode cX10_crew 48 = .ok (.goto 8, 3) := by decide +kernel
theorem dX10_crew_51 : decode cX10_crew 51 = .ok (.iload 5, 2) := by decide +kernel
theorem dX10_crew_53 : decode cX10_crew 53 = .ok (.invokestatic 324, 3) := by decide +kernel
theorem dX10_crew_56 : decode cX10_crew 56 = .ok (.ireturn, 1) := by decide +kernel
abbrev mX10_crew : MI := (yX10_crew, cX10_crew, 6, (some .int), noE)
theorem okX10_crew : cok mX10_crew 3 := ⟨tw1141, tw1, by decide, by decide, by decide, by decide +kernel⟩
def fX10_crew (M : Mem) (a0 a1 a2 a3 : Int) : Option Int :=
  if M.2.1 a0 = 9 then if M.2.1 (M.1 a0 0) = 6 then (fX6_townAt M (M.1 a0 0) a1).bind fun r2 => if r2 = -1 then (some (-1)) else (if a2 < 1 then (some (-1)) else (if 36 < a2 then (some (-1)) else (if M.2.1 r2 = 7 then (fX7_crewFor M r2 a2).bind fun r8 => if a3 = 0 then (if r8 = (-1) then (some r8) else ((fJ6_bitCount_0f7a4 M r8).bind fun r13 => some r13)) else (some r8) else none))) else none else none
set_option maxRecDepth 100000 in
set_option maxHeartbeats 4000000 in
theorem kX10_crew (d : Nat) (hd : 2 ≤ d) (M : Mem) (a0 a1 a2 a3 : Int) : Ct mX10_crew d 0 0 [pA a0, pI a1, pI a2, pI a3] M (dI M) (fX10_crew M a0 a1 a2 a3) := by
  obtain ⟨d, rfl⟩ : ∃ k, d = k + 1 := ⟨d - 1, by omega⟩
  refine Ct.of 2 (fun _ _ _ => trivial) (by decide +kernel) rfl ?_
  unfold fX10_crew
  refine v_aload_n dX10_crew_0 rfl ?_
  refine v_if (fun h1 => ?_)
  refine v_get (v := pA (M.1 a0 0)) 9 0 rfl inX10 (by decide) tw421 dX10_crew_1 h1 rfl ?_
  refine v_iload_n dX10_crew_4 rfl ?_
  refine v_if (fun h4 => ?_)
  refine v_cV (mi := mX10_crew) (c0 := 0) (c1 := 0) (As := [pI a1]) (st := []) (kX6_townAt d (by omega) _ _ _) rfl h4 rfl okX6_townAt (Or.inl tw680) tw681 tw682 rfl (Nat.le_of_ble_eq_true rfl) dX10_crew_5 (fun r2 => [pA r2]) (fun r2 => M) (fun _ => rfl) (fun _ => rfl) (fun r2 h3 => ?_) rfl
  refine v_astore (ls' := [some (pA a0), some (pI a1), some (pI a2), some (pI a3), some (pA r2), none]) dX10_crew_8 (by decide) rfl ?_
  refine v_aload dX10_crew_10 rfl ?_
  refine v_ifnull (tgt := 26) dX10_crew_12 (by decide) (fun c5 => ?_) (fun c5 => ?_)
  · refine v_iconst dX10_crew_26 (by decide) ?_
    exact v_ireturn dX10_crew_27 rfl rfl
  · refine v_iload_n dX10_crew_15 rfl ?_
    refine v_iconst dX10_crew_16 (by decide) ?_
    refine v_icmp_lt (tgt := 26) dX10_crew_17 (by decide) (fun c6 => ?_) (fun c6 => ?_)
    · refine v_iconst dX10_crew_26 (by decide) ?_
      exact v_ireturn dX10_crew_27 rfl rfl
    · refine v_iload_n dX10_crew_20 rfl ?_
      refine v_bipush dX10_crew_21 (by decide) ?_
      refine v_icmp_le (tgt := 28) dX10_crew_23 (by decide) (fun c7 => ?_) (fun c7 => ?_)
      · refine v_iconst dX10_crew_26 (by decide) ?_
        exact v_ireturn dX10_crew_27 rfl rfl
      · refine v_aload dX10_crew_28 rfl ?_
        refine v_iload_n dX10_crew_30 rfl ?_
        refine v_if (fun h10 => ?_)
        refine v_cV (mi := mX10_crew) (c0 := 0) (c1 := 0) (As := [pI a2]) (st := []) (kX7_crewFor d (by omega) _ _ _) rfl h10 rfl okX7_crewFor (Or.inl tw1142) tw1143 tw1144 rfl (Nat.le_of_ble_eq_true rfl) dX10_crew_31 (fun r8 => [pI r8]) (fun r8 => M) (fun _ => rfl) (fun _ => rfl) (fun r8 h9 => ?_) rfl
        refine v_istore (ls' := [some (pA a0), some (pI a1), some (pI a2), some (pI a3), some (pA r2), some (pI r8)]) dX10_crew_34 (by decide) rfl ?_
        refine v_iload_n dX10_crew_36 rfl ?_
        refine v_if_ne (tgt := 46) dX10_crew_37 (by decide) (fun c11 => ?_) (fun c11 => ?_)
        · refine v_iload dX10_crew_40 rfl ?_
          refine v_iconst dX10_crew_42 (by decide) ?_
          refine v_icmp_ne (tgt := 51) dX10_crew_43 (by decide) (fun c12 => ?_) (fun c12 => ?_)
          · refine v_iload dX10_crew_46 rfl ?_
            refine v_goto (tgt := 56) dX10_crew_48 (by decide) ?_
            exact v_ireturn dX10_crew_56 rfl rfl
          · refine v_iload dX10_crew_51 rfl ?_
            refine v_cS (mi := mX10_crew) (c0 := 0) (c1 := 0) (As := [pI r8]) (st := []) (kJ6_bitCount_0f7a4 d (by omega) _ _) okJ6_bitCount_0f7a4 (Or.inl tw1156) tw1147 rfl (Nat.le_of_ble_eq_true rfl) dX10_crew_53 (fun r13 => [pI r13]) (fun r13 => M) (fun _ => rfl) (fun _ => rfl) (fun r13 h14 => ?_) rfl
            exact v_ireturn dX10_crew_56 rfl rfl
        · refine v_iload dX10_crew_46 rfl ?_
          refine v_goto (tgt := 56) dX10_crew_48 (by decide) ?_
          exact v_ireturn dX10_crew_56 rfl rfl
theorem dX10_pairs_0 : decode cX10_pairs 0 = .ok (.aload_n 0, 1) := by decide +kernel
theorem dX10_pairs_1 : decode cX10_pairs 1 = .ok (.getfield 12, 3) := by decide +kernel
theorem dX10_pairs_4 : decode cX10_pairs 4 = .ok (.iload_n 1, 1) := by decide +kernel
theorem dX10_pairs_5 : decode cX10_pairs 5 = .ok (.invokevirtual 92, 3) := by decide +kernel
theorem dX10_pairs_8 : decode cX10_pairs 8 = .ok (.astore_n 3, 1) := by decide +kernel
theorem dX10_pairs_9 : decode cX10_pairs 9 = .ok (.aload_n 3, 1) := by decide +kernel
theorem dX10_pairs_10 : decode cX10_pairs 10 = .ok (.ifnull 8, 3) := by decide +kernel
theorem dX10_pairs_13 : decode cX10_pairs 13 = .ok (.iload_n 2, 1) := by decide +kernel
theorem dX10_pairs_14 : decode cX10_pairs 14 = .ok (.iconst (-1), 1) := by decide +kernel
theorem dX10_pairs_15 : decode cX10_pairs 15 = .ok (.if_icmp .ge 7, 3) := by decide +kernel
theorem dX10_pairs_18 : decode cX10_pairs 18 = .ok (.iconst (-1), 1) := by decide +kernel
theorem dX10_pairs_19 : decode cX10_pairs 19 = .ok (.goto 8, 3) := by decide +kernel
theorem dX10_pairs_22 : decode cX10_pairs 22 = .ok (.aload_n 3, 1) := by decide +kernel
theorem dX10_pairs_23 : decode cX10_pairs 23 = .ok (.iload_n 2, 1) := by decide +kernel
theorem dX10_pairs_24 : decode cX10_pairs 24 = .ok (.invokevirtual 329, 3) := by decide +kernel
theorem dX10_pairs_27 : decode cX10_pairs 27 = .ok (.ireturn, 1) := by decide +kernel
abbrev mX10_pairs : MI := (yX10_pairs, cX10_pairs, 4, (some .int), noE)
theorem okX10_pairs : cok mX10_pairs 2 := ⟨tw1160, tw1, by decide, by decide, by decide, by decide +kernel⟩
def fX10_pairs (M : Mem) (a0 a1 a2 : Int) : Option Int :=
  if M.2.1 a0 = 9 then if M.2.1 (M.1 a0 0) = 6 then (fX6_townAt M (M.1 a0 0) a1).bind fun r2 => if r2 = -1 then (some (-1)) else (if a2 < (-1) then (some (-1)) else (if M.2.1 r2 = 7 then (fX7_pairAt M r2 a2).bind fun r7 => some r7 else none)) else none else none
set_option maxRecDepth 100000 in
set_option maxHeartbeats 4000000 in
theorem kX10_pairs (d : Nat) (hd : 4 ≤ d) (M : Mem) (a0 a1 a2 : Int) : Ct mX10_pairs d 0 0 [pA a0, pI a1, pI a2] M (dI M) (fX10_pairs M a0 a1 a2) := by
  obtain ⟨d, rfl⟩ : ∃ k, d = k + 1 := ⟨d - 1, by omega⟩
  refine Ct.of 1 (fun _ _ _ => trivial) (by decide +kernel) rfl ?_
  unfold fX10_pairs
  refine v_aload_n dX10_pairs_0 rfl ?_
  refine v_if (fun h1 => ?_)
  refine v_get (v := pA (M.1 a0 0)) 9 0 rfl inX10 (by decide) tw421 dX10_pairs_1 h1 rfl ?_
  refine v_iload_n dX10_pairs_4 rfl ?_
  refine v_if (fun h4 => ?_)
  refine v_cV (mi := mX10_pairs) (c0 := 0) (c1 := 0) (As := [pI a1]) (st := []) (kX6_townAt d (by omega) _ _ _) rfl h4 rfl okX6_townAt (Or.inl tw680) tw681 tw682 rfl (Nat.le_of_ble_eq_true rfl) dX10_pairs_5 (fun r2 => [pA r2]) (fun r2 => M) (fun _ => rfl) (fun _ => rfl) (fun r2 h3 => ?_) rfl
  refine v_astore_n (ls' := [some (pA a0), some (pI a1), some (pI a2), some (pA r2)]) dX10_pairs_8 (by decide) rfl ?_
  refine v_aload_n dX10_pairs_9 rfl ?_
  refine v_ifnull (tgt := 18) dX10_pairs_10 (by decide) (fun c5 => ?_) (fun c5 => ?_)
  · refine v_iconst dX10_pairs_18 (by decide) ?_
    refine v_goto (tgt := 27) dX10_pairs_19 (by decide) ?_
    exact v_ireturn dX10_pairs_27 rfl rfl
  · refine v_iload_n dX10_pairs_13 rfl ?_
    refine v_iconst dX10_pairs_14 (by decide) ?_
    refine v_icmp_ge (tgt := 22) dX10_pairs_15 (by decide) (fun c6 => ?_) (fun c6 => ?_)
    · refine v_iconst dX10_pairs_18 (by decide) ?_
      refine v_goto (tgt := 27) dX10_pairs_19 (by decide) ?_
      exact v_ireturn dX10_pairs_27 rfl rfl
    · refine v_aload_n dX10_pairs_22 rfl ?_
      refine v_iload_n dX10_pairs_23 rfl ?_
      refine v_if (fun h9 => ?_)
      refine v_cV (mi := mX10_pairs) (c0 := 0) (c1 := 0) (As := [pI a2]) (st := []) (kX7_pairAt d (by omega) _ _ _) rfl h9 rfl okX7_pairAt (Or.inl tw1161) tw1162 tw1163 rfl (Nat.le_of_ble_eq_true rfl) dX10_pairs_24 (fun r7 => [pI r7]) (fun r7 => M) (fun _ => rfl) (fun _ => rfl) (fun r7 h8 => ?_) rfl
      exact v_ireturn dX10_pairs_27 rfl rfl
theorem dX10_count_0 : decode cX10_count 0 = .ok (.iload_n 1, 1) := by decide +kernel
theorem dX10_count_1 : decode cX10_count 1 = .ok (.ifCond .lt 8, 3) := by decide +kernel
theorem dX10_count_4 : decode cX10_count 4 = .ok (.iload_n 1, 1) := by decide +kernel
theorem dX10_count_5 : decode cX10_count 5 = .ok (.iconst 4, 1) := by decide +kernel
theorem dX10_count_6 : decode cX10_count 6 = .ok (.if_icmp .lt 8, 3) := by decide +kernel
theorem dX10_count_9 : decode cX10_count 9 = .ok (.bipush (-2), 2) := by decide +kernel
theorem dX10_count_11 : decode cX10_count 11 = .ok (.goto 12, 3) := by decide +kernel
theorem dX10_count_14 : decode cX10_count 14 = .ok (.aload_n 0, 1) := by decide +kernel
theorem dX10_count_15 : decode cX10_count 15 = .ok (.getfield 12, 3) := by decide +kernel
theorem dX10_count_18 : decode cX10_count 18 = .ok (.getfield 332, 3) := by decide +kernel
theorem dX10_count_21 : decode cX10_count 21 = .ok (.iload_n 1, 1) := by decide +kernel
theorem dX10_count_22 : decode cX10_count 22 = .ok (.iaload, 1) := by decide +kernel
theorem dX10_count_23 : decode cX10_count 23 = .ok (.ireturn, 1) := by decide +kernel
abbrev mX10_count : MI := (yX10_count, cX10_count, 2, (some .int), noE)
theorem okX10_count : cok mX10_count 1 := ⟨tw1172, tw1, by decide, by decide, by decide, by decide +kernel⟩
def fX10_count (M : Mem) (a0 a1 : Int) : Option Int :=
  if a1 < 0 then (some (-2)) else (if a1 < 4 then (if M.2.1 a0 = 9 then if M.2.1 (M.1 a0 0) = 6 then if M.2.1 (M.1 (M.1 a0 0) 4) = 12 ∧ (0 : Int) ≤ a1 ∧ a1 < M.2.2.1 (M.1 (M.1 a0 0) 4) then some (M.1 (M.1 (M.1 a0 0) 4) a1) else none else none else none) else (some (-2)))
set_option maxRecDepth 100000 in
set_option maxHeartbeats 4000000 in
theorem kX10_count (d : Nat) (hd : 0 ≤ d) (M : Mem) (a0 a1 : Int) : Ct mX10_count d 0 0 [pA a0, pI a1] M (dI M) (fX10_count M a0 a1) := by
  refine Ct.of 0 (fun _ _ _ => trivial) (by decide +kernel) rfl ?_
  unfold fX10_count
  refine v_iload_n dX10_count_0 rfl ?_
  refine v_if_lt (tgt := 9) dX10_count_1 (by decide) (fun c1 => ?_) (fun c1 => ?_)
  · refine v_bipush dX10_count_9 (by decide) ?_
    refine v_goto (tgt := 23) dX10_count_11 (by decide) ?_
    exact v_ireturn dX10_count_23 rfl rfl
  · refine v_iload_n dX10_count_4 rfl ?_
    refine v_iconst dX10_count_5 (by decide) ?_
    refine v_icmp_lt (tgt := 14) dX10_count_6 (by decide) (fun c2 => ?_) (fun c2 => ?_)
    · refine v_aload_n dX10_count_14 rfl ?_
      refine v_if (fun h3 => ?_)
      refine v_get (v := pA (M.1 a0 0)) 9 0 rfl inX10 (by decide) tw421 dX10_count_15 h3 rfl ?_
      refine v_if (fun h4 => ?_)
      refine v_get (v := pA (M.1 (M.1 a0 0) 4)) 6 4 rfl inX6 (by decide) tw213 dX10_count_18 h4 rfl ?_
      refine v_iload_n dX10_count_21 rfl ?_
      refine v_if (fun h5 => ?_)
      refine v_iaload h5 dX10_count_22 ?_
      exact v_ireturn dX10_count_23 rfl rfl
    · refine v_bipush dX10_count_9 (by decide) ?_
      refine v_goto (tgt := 23) dX10_count_11 (by decide) ?_
      exact v_ireturn dX10_count_23 rfl rfl
theorem dX10_image_0 : decode cX10_image 0 = .ok (.iload_n 1, 1) := by decide +kernel
theorem dX10_image_1 : decode cX10_image 1 = .ok (.ifCond .lt 8, 3) := by decide +kernel
theorem dX10_image_4 : decode cX10_image 4 = .ok (.iload_n 1, 1) := by decide +kernel
theorem dX10_image_5 : decode cX10_image 5 = .ok (.iconst 3, 1) := by decide +kernel
theorem dX10_image_6 : decode cX10_image 6 = .ok (.if_icmp .lt 5, 3) := by decide +kernel
theorem dX10_image_9 : decode cX10_image 9 = .ok (.iconst 0, 1) := by decide +kernel
theorem dX10_image_10 : decode cX10_image 10 = .ok (.ireturn, 1) := by decide +kernel
theorem dX10_image_11 : decode cX10_image 11 = .ok (.aload_n 0, 1) := by decide +kernel
theorem dX10_image_12 : decode cX10_image 12 = .ok (.getfield 16, 3) := by decide +kernel
theorem dX10_image_15 : decode cX10_image 15 = .ok (.iload_n 1, 1) := by decide +kernel
theorem dX10_image_16 : decode cX10_image 16 = .ok (.aaload, 1) := by decide +kernel
theorem dX10_image_17 : decode cX10_image 17 = .ok (.ifnonnull 16, 3) := by decide +kernel
theorem dX10_image_20 : decode cX10_image 20 = .ok (.aload_n 0, 1) := by decide +kernel
theorem dX10_image_21 : decode cX10_image 21 = .ok (.getfield 16, 3) := by decide +kernel
theorem dX10_image_24 : decode cX10_image 24 = .ok (.iload_n 1, 1) := by decide +kernel
theorem dX10_image_25 : decode cX10_image 25 = .ok (.new 9, 3) := by decide +kernel
theorem dX10_image_28 : decode cX10_image 28 = .ok (.dup, 1) := by decide +kernel
theorem dX10_image_29 : decode cX10_image 29 = .ok (.invokespecial 11, 3) := by decide +kernel
theorem dX10_image_32 : decode cX10_image 32 = .ok (.aastore, 1) := by decide +kernel
theorem dX10_image_33 : decode cX10_image 33 = .ok (.aload_n 0, 1) := by decide +kernel
theorem dX10_image_34 : decode cX10_image 34 = .ok (.getfield 16, 3) := by decide +kernel
theorem dX10_image_37 : decode cX10_image 37 = .ok (.iload_n 1, 1) := by decide +kernel
theorem dX10_image_38 : decode cX10_image 38 = .ok (.aaload, 1) := by decide +kernel
theorem dX10_image_39 : decode cX10_image 39 = .ok (.aload_n 0, 1) := by decide +kernel
theorem dX10_image_40 : decode cX10_image 40 = .ok (.getfield 12, 3) := by decide +kernel
theorem dX10_image_43 : decode cX10_image 43 = .ok (.invokevirtual 334, 3) := by decide +kernel
theorem dX10_image_46 : decode cX10_image 46 = .ok (.iconst 1, 1) := by decide +kernel
theorem dX10_image_47 : decode cX10_image 47 = .ok (.ireturn, 1) := by decide +kernel
abbrev mX10_image : MI := (yX10_image, cX10_image, 2, (some .boolean), noE)
theorem okX10_image : cok mX10_image 1 := ⟨tw1176, tw1, by decide, by decide, by decide, by decide +kernel⟩
def fX10_image (M : Mem) (a0 a1 : Int) : Option (Int × Mem) :=
  if a1 < 0 then (some (0, M)) else (if a1 < 3 then (if M.2.1 a0 = 9 then if 14 ≤ M.2.1 (M.1 a0 1) ∧ (0 : Int) ≤ a1 ∧ a1 < M.2.2.1 (M.1 a0 1) then jn (fun (t6 : Mem) => if t6.2.1 a0 = 9 then if 14 ≤ t6.2.1 (t6.1 a0 1) ∧ (0 : Int) ≤ a1 ∧ a1 < t6.2.2.1 (t6.1 a0 1) then if t6.2.1 (t6.1 (t6.1 a0 1) a1) = 6 then (fX6_copy t6 (t6.1 (t6.1 a0 1) a1) (t6.1 a0 0)).bind fun r9 => some (1, r9) else none else none else none) (fun (j5 : Mem → Option (Int × Mem)) => if M.1 (M.1 a0 1) a1 = -1 then (bM (mnew M 6 9) fun M13 => if (0 : Int) ≤ (M.2.2.2 : Int) then (fX6_init M13 (M.2.2.2 : Int)).bind fun r16 => if r16.2.1 (M.2.2.2 : Int) = 6 then if r16.2.1 (M.1 a0 1) = 17 ∧ (0 : Int) ≤ a1 ∧ a1 < r16.2.2.1 (M.1 a0 1) then bM (mst r16 (M.1 a0 1) a1 (M.2.2.2 : Int)) fun M21 => j5 M21 else none else none else none) else (j5 M)) else none else none) else (some (0, M)))
set_option maxRecDepth 100000 in
set_option maxHeartbeats 4000000 in
theorem kX10_image (d : Nat) (hd : 4 ≤ d) (M : Mem) (a0 a1 : Int) : Ct mX10_image d 45 1257 [pA a0, pI a1] M dIM (fX10_image M a0 a1) := by
  obtain ⟨d, rfl⟩ : ∃ k, d = k + 1 := ⟨d - 1, by omega⟩
  refine Ct.of 0 (fun _ _ _ => trivial) (by decide +kernel) rfl ?_
  unfold fX10_image
  refine v_iload_n dX10_image_0 rfl ?_
  refine v_if_lt (tgt := 9) dX10_image_1 (by decide) (fun c1 => ?_) (fun c1 => ?_)
  · refine v_iconst dX10_image_9 (by decide) ?_
    exact v_breturn dX10_image_10 rfl (by decide) rfl
  · refine v_iload_n dX10_image_4 rfl ?_
    refine v_iconst dX10_image_5 (by decide) ?_
    refine v_icmp_lt (tgt := 11) dX10_image_6 (by decide) (fun c2 => ?_) (fun c2 => ?_)
    · refine v_aload_n dX10_image_11 rfl ?_
      refine v_if (fun h3 => ?_)
      refine v_get (v := pA (M.1 a0 1)) 9 1 rfl inX10 (by decide) tw422 dX10_image_12 h3 rfl ?_
      refine v_iload_n dX10_image_15 rfl ?_
      refine v_if (fun h4 => ?_)
      refine v_aaload h4 dX10_image_16 ?_
      refine v_joinB (fun (t6 : Mem) => [some (pA a0), some (pI a1)]) (fun (t6 : Mem) => []) (fun (t6 : Mem) => t6) 33 (fun t6 => ?_) (fun j5 hj5 => ?_)
      · refine v_aload_n dX10_image_33 rfl ?_
        refine v_if (fun h7 => ?_)
        refine v_get (v := pA (t6.1 a0 1)) 9 1 rfl inX10 (by decide) tw422 dX10_image_34 h7 rfl ?_
        refine v_iload_n dX10_image_37 rfl ?_
        refine v_if (fun h8 => ?_)
        refine v_aaload h8 dX10_image_38 ?_
        refine v_aload_n dX10_image_39 rfl ?_
        refine v_get (v := pA (t6.1 a0 0)) 9 0 rfl inX10 (by decide) tw421 dX10_image_40 h7 rfl ?_
        refine v_if (fun h11 => ?_)
        refine v_cV (mi := mX10_image) (c0 := 0) (c1 := 0) (As := [pA (t6.1 a0 0)]) (st := []) (kX6_copy d (by omega) _ _ _) rfl h11 rfl okX6_copy (Or.inl tw1177) tw1178 tw1179 rfl (Nat.le_of_ble_eq_true rfl) dX10_image_43 (fun r9 => []) (fun r9 => r9) (fun _ => rfl) (fun _ => rfl) (fun r9 h10 => ?_) rfl
        refine v_iconst dX10_image_46 (by decide) ?_
        exact v_breturn dX10_image_47 rfl (by decide) rfl
      · refine v_ifnonnull (tgt := 33) dX10_image_17 (by decide) (fun c12 => ?_) (fun c12 => ?_)
        · refine v_aload_n dX10_image_20 rfl ?_
          refine v_get (v := pA (M.1 a0 1)) 9 1 rfl inX10 (by decide) tw422 dX10_image_21 h3 rfl ?_
          refine v_iload_n dX10_image_24 rfl ?_
          refine v_new (N := 9) 6 rfl inX6 tw28 tw29 tw2 ftX6 dX10_image_25 ?_
          refine v_bM (fun M13 e14 => ?_)
          have h15 : M13.2.1 (M.2.2.2 : Int) = 6 := by rw [e14]; exact mnew_k
          refine v_dup dX10_image_28 (by intro z hz; cases hz) ?_
          refine v_if (fun h18 => ?_)
          refine v_cI (mi := mX10_image) (c0 := 44) (c1 := 1248) (As := []) (st := [pA (M.2.2.2 : Int), pI a1, pA (M.1 a0 1)]) (kX6_init d (by omega) _ _) h18 okX6_init rfl rfl (Or.inl tw30) tw31 rfl (Nat.le_of_ble_eq_true rfl) dX10_image_29 (fun r16 => [pA (M.2.2.2 : Int), pI a1, pA (M.1 a0 1)]) (fun r16 => r16) (fun _ => rfl) (fun _ => rfl) (fun r16 h17 => ?_) rfl
          refine v_if (fun h19 => ?_)
          refine v_if (fun h20 => ?_)
          refine v_aastore (C := "") (T := TX0) (N := 0) 17 6 (by decide) h20 h19 dX10_image_32 ?_
          refine v_bM (fun M21 e22 => ?_)
          exact v_bw (bc' := 0) (bs' := 0) (Nat.zero_le _) (Nat.zero_le _) (hj5 M21)
        · exact v_bw (bc' := 0) (bs' := 0) (Nat.zero_le _) (Nat.zero_le _) (hj5 M)
    · refine v_iconst dX10_image_9 (by decide) ?_
      exact v_breturn dX10_image_10 rfl (by decide) rfl
theorem dX10_again_0 : decode cX10_again 0 = .ok (.iload_n 1, 1) := by decide +kernel
theorem dX10_again_1 : decode cX10_again 1 = .ok (.ifCond .lt 17, 3) := by decide +kernel
theorem dX10_again_4 : decode cX10_again 4 = .ok (.iload_n 1, 1) := by decide +kernel
theorem dX10_again_5 : decode cX10_again 5 = .ok (.iconst 3, 1) := by decide +kernel
theorem dX10_again_6 : decode cX10_again 6 = .ok (.if_icmp .ge 12, 3) := by decide +kernel
theorem dX10_again_9 : decode cX10_again 9 = .ok (.aload_n 0, 1) := by decide +kernel
theorem dX10_again_10 : decode cX10_again 10 = .ok (.getfield 16, 3) := by decide +kernel
theorem dX10_again_13 : decode cX10_again 13 = .ok (.iload_n 1, 1) := by decide +kernel
theorem dX10_again_14 : decode cX10_again 14 = .ok (.aaload, 1) := by decide +kernel
theorem dX10_again_15 : decode cX10_again 15 = .ok (.ifnonnull 5, 3) := by decide +kernel
theorem dX10_again_18 : decode cX10_again 18 = .ok (.iconst 0, 1) := by decide +kernel
theorem dX10_again_19 : decode cX10_again 19 = .ok (.ireturn, 1) := by decide +kernel
theorem dX10_again_20 : decode cX10_again 20 = .ok (.aload_n 0, 1) := by decide +kernel
theorem dX10_again_21 : decode cX10_again 21 = .ok (.getfield 12, 3) := by decide +kernel
theorem dX10_again_24 : decode cX10_again 24 = .ok (.aload_n 0, 1) := by decide +kernel
theorem dX10_again_25 : decode cX10_again 25 = .ok (.getfield 16, 3) := by decide +kernel
theorem dX10_again_28 : decode cX10_again 28 = .ok (.iload_n 1, 1) := by decide +kernel
theorem dX10_again_29 : decode cX10_again 29 = .ok (.aaload, 1) := by decide +kernel
theorem dX10_again_30 : decode cX10_again 30 = .ok (.invokevirtual 334, 3) := by decide +kernel
theorem dX10_again_33 : decode cX10_again 33 = .ok (.iconst 1, 1) := by decide +kernel
theorem dX10_again_34 : decode cX10_again 34 = .ok (.ireturn, 1) := by decide +kernel
abbrev mX10_again : MI := (yX10_again, cX10_again, 2, (some .boolean), noE)
theorem okX10_again : cok mX10_again 1 := ⟨tw1186, tw1, by decide, by decide, by decide, by decide +kernel⟩
def fX10_again (M : Mem) (a0 a1 : Int) : Option (Int × Mem) :=
  if a1 < 0 then (some (0, M)) else (if a1 < 3 then (if M.2.1 a0 = 9 then if 14 ≤ M.2.1 (M.1 a0 1) ∧ (0 : Int) ≤ a1 ∧ a1 < M.2.2.1 (M.1 a0 1) then if M.1 (M.1 a0 1) a1 = -1 then (some (0, M)) else (if 14 ≤ M.2.1 (M.1 a0 1) ∧ (0 : Int) ≤ a1 ∧ a1 < M.2.2.1 (M.1 a0 1) then if M.2.1 (M.1 a0 0) = 6 then (fX6_copy M (M.1 a0 0) (M.1 (M.1 a0 1) a1)).bind fun r7 => some (1, r7) else none else none) else none else none) else (some (0, M)))
set_option maxRecDepth 100000 in
set_option maxHeartbeats 4000000 in
theorem kX10_again (d : Nat) (hd : 4 ≤ d) (M : Mem) (a0 a1 : Int) : Ct mX10_again d 0 0 [pA a0, pI a1] M dIM (fX10_again M a0 a1) := by
  obtain ⟨d, rfl⟩ : ∃ k, d = k + 1 := ⟨d - 1, by omega⟩
  refine Ct.of 0 (fun _ _ _ => trivial) (by decide +kernel) rfl ?_
  unfold fX10_again
  refine v_iload_n dX10_again_0 rfl ?_
  refine v_if_lt (tgt := 18) dX10_again_1 (by decide) (fun c1 => ?_) (fun c1 => ?_)
  · refine v_iconst dX10_again_18 (by decide) ?_
    exact v_breturn dX10_again_19 rfl (by decide) rfl
  · refine v_iload_n dX10_again_4 rfl ?_
    refine v_iconst dX10_again_5 (by decide) ?_
    refine v_icmp_ge (tgt := 18) dX10_again_6 (by decide) (fun c2 => ?_) (fun c2 => ?_)
    · refine v_aload_n dX10_again_9 rfl ?_
      refine v_if (fun h3 => ?_)
      refine v_get (v := pA (M.1 a0 1)) 9 1 rfl inX10 (by decide) tw422 dX10_again_10 h3 rfl ?_
      refine v_iload_n dX10_again_13 rfl ?_
      refine v_if (fun h4 => ?_)
      refine v_aaload h4 dX10_again_14 ?_
      refine v_ifnonnull (tgt := 20) dX10_again_15 (by decide) (fun c5 => ?_) (fun c5 => ?_)
      · refine v_iconst dX10_again_18 (by decide) ?_
        exact v_breturn dX10_again_19 rfl (by decide) rfl
      · refine v_aload_n dX10_again_20 rfl ?_
        refine v_get (v := pA (M.1 a0 0)) 9 0 rfl inX10 (by decide) tw421 dX10_again_21 h3 rfl ?_
        refine v_aload_n dX10_again_24 rfl ?_
        refine v_get (v := pA (M.1 a0 1)) 9 1 rfl inX10 (by decide) tw422 dX10_again_25 h3 rfl ?_
        refine v_iload_n dX10_again_28 rfl ?_
        refine v_if (fun h6 => ?_)
        refine v_aaload h6 dX10_again_29 ?_
        refine v_if (fun h9 => ?_)
        refine v_cV (mi := mX10_again) (c0 := 0) (c1 := 0) (As := [pA (M.1 (M.1 a0 1) a1)]) (st := []) (kX6_copy d (by omega) _ _ _) rfl h9 rfl okX6_copy (Or.inl tw1177) tw1178 tw1179 rfl (Nat.le_of_ble_eq_true rfl) dX10_again_30 (fun r7 => []) (fun r7 => r7) (fun _ => rfl) (fun _ => rfl) (fun r7 h8 => ?_) rfl
        refine v_iconst dX10_again_33 (by decide) ?_
        exact v_breturn dX10_again_34 rfl (by decide) rfl
    · refine v_iconst dX10_again_18 (by decide) ?_
      exact v_breturn dX10_again_19 rfl (by decide) rfl
theorem dX11_init_0 : decode cX11_init 0 = .ok (.aload_n 0, 1) := by decide +kernel
theorem dX11_init_1 : decode cX11_init 1 = .ok (.invokespecial 1, 3) := by decide +kernel
theorem dX11_init_4 : decode cX11_init 4 = .ok (.aload_n 0, 1) := by decide +kernel
theorem dX11_init_5 : decode cX11_init 5 = .ok (.sipush 2400, 3) := by decide +kernel
theorem dX11_init_8 : decode cX11_init 8 = .ok (.newarray .byte, 2) := by decide +kernel
theorem dX11_init_10 : decode cX11_init 10 = .ok (.putfield 7, 3) := by decide +kernel
theorem dX11_init_13 : decode cX11_init 13 = .ok (.aload_n 0, 1) := by decide +kernel
theorem dX11_init_14 : decode cX11_init 14 = .ok (.iconst 4, 1) := by decide +kernel
theorem dX11_init_15 : decode cX11_init 15 = .ok (.newarray .int, 2) := by decide +kernel
theorem dX11_init_17 : decode cX11_init 17 = .ok (.putfield 13, 3) := by decide +kernel
theorem dX11_init_20 : decode cX11_init 20 = .ok (.aload_n 0, 1) := by decide +kernel
theorem dX11_init_21 : decode cX11_init 21 = .ok (.iconst 4, 1) := by decide +kernel
theorem dX11_init_22 : decode cX11_init 22 = .ok (.newarray .int, 2) := by decide +kernel
theorem dX11_init_24 : decode cX11_init 24 = .ok (.putfield 17, 3) := by decide +kernel
theorem dX11_init_27 : decode cX11_init 27 = .ok (.aload_n 0, 1) := by decide +kernel
theorem dX11_init_28 : decode cX11_init 28 = .ok (.iconst 4, 1) := by decide +kernel
theorem dX11_init_29 : decode cX11_init 29 = .ok (.newarray .int, 2) := by decide +kernel
theorem dX11_init_31 : decode cX11_init 31 = .ok (.putfield 20, 3) := by decide +kernel
theorem dX11_init_34 : decode cX11_init 34 = .ok (.aload_n 0, 1) := by decide +kernel
theorem dX11_init_35 : decode cX11_init 35 = .ok (.bipush 16, 2) := by decide +kernel
theorem dX11_init_37 : decode cX11_init 37 = .ok (.newarray .int, 2) := by decide +kernel
theorem dX11_init_39 : decode cX11_init 39 = .ok (.putfield 23, 3) := by decide +kernel
theorem dX11_init_42 : decode cX11_init 42 = .ok (.aload_n 0, 1) := by decide +kernel
theorem dX11_init_43 : decode cX11_init 43 = .ok (.sipush 736, 3) := by decide +kernel
theorem dX11_init_46 : decode cX11_init 46 = .ok (.newarray .int, 2) := by decide +kernel
theorem dX11_init_48 : decode cX11_init 48 = .ok (.putfield 26, 3) := by decide +kernel
theorem dX11_init_51 : decode cX11_init 51 = .ok (.aload_n 0, 1) := by decide +kernel
theorem dX11_init_52 : decode cX11_init 52 = .ok (.bipush 24, 2) := by decide +kernel
theorem dX11_init_54 : decode cX11_init 54 = .ok (.newarray .int, 2) := by decide +kernel
theorem dX11_init_56 : decode cX11_init 56 = .ok (.putfield 29, 3) := by decide +kernel
theorem dX11_init_59 : decode cX11_init 59 = .ok (.aload_n 0, 1) := by decide +kernel
theorem dX11_init_60 : decode cX11_init 60 = .ok (.sipush 1288, 3) := by decide +kernel
theorem dX11_init_63 : decode cX11_init 63 = .ok (.newarray .int, 2) := by decide +kernel
theorem dX11_init_65 : decode cX11_init 65 = .ok (.putfield 32, 3) := by decide +kernel
theorem dX11_init_68 : decode cX11_init 68 = .ok (.aload_n 0, 1) := by decide +kernel
theorem dX11_init_69 : decode cX11_init 69 = .ok (.sipush 376, 3) := by decide +kernel
theorem dX11_init_72 : decode cX11_init 72 = .ok (.newarray .int, 2) := by decide +kernel
theorem dX11_init_74 : decode cX11_init 74 = .ok (.putfield 35, 3) := by decide +kernel
theorem dX11_init_77 : decode cX11_init 77 = .ok (.aload_n 0, 1) := by decide +kernel
theorem dX11_init_78 : decode cX11_init 78 = .ok (.sipush 161, 3) := by decide +kernel
theorem dX11_init_81 : decode cX11_init 81 = .ok (.newarray .int, 2) := by decide +kernel
theorem dX11_init_83 : decode cX11_init 83 = .ok (.putfield 38, 3) := by decide +kernel
theorem dX11_init_86 : decode cX11_init 86 = .ok (.aload_n 0, 1) := by decide +kernel
theorem dX11_init_87 : decode cX11_init 87 = .ok (.iconst 4, 1) := by decide +kernel
theorem dX11_init_88 : decode cX11_init 88 = .ok (.newarray .int, 2) := by decide +kernel
theorem dX11_init_90 : decode cX11_init 90 = .ok (.putfield 41, 3) := by decide +kernel
theorem dX11_init_93 : decode cX11_init 93 = .ok (.aload_n 0, 1) := by decide +kernel
theorem dX11_init_94 : decode cX11_init 94 = .ok (.bipush 30, 2) := by decide +kernel
theorem dX11_init_96 : decode cX11_init 96 = .ok (.newarray .int, 2) := by decide +kernel
theorem dX11_init_98 : decode cX11_init 98 = .ok (.putfield 44, 3) := by decide +kernel
theorem dX11_init_101 : decode cX11_init 101 = .ok (.aload_n 0, 1) := by decide +kernel
theorem dX11_init_102 : decode cX11_init 102 = .ok (.bipush 20, 2) := by decide +kernel
theorem dX11_init_104 : decode cX11_init 104 = .ok (.newarray .int, 2) := by decide +kernel
theorem dX11_init_106 : decode cX11_init 106 = .ok (.putfield 47, 3) := by decide +kernel
theorem dX11_init_109 : decode cX11_init 109 = .ok (.aload_n 0, 1) := by decide +kernel
theorem dX11_init_110 : decode cX11_init 110 = .ok (.bipush 120, 2) := by decide +kernel
theorem dX11_init_112 : decode cX11_init 112 = .ok (.newarray .int, 2) := by decide +kernel
theorem dX11_init_114 : decode cX11_init 114 = .ok (.putfield 50, 3) := by decide +kernel
theorem dX11_init_117 : decode cX11_init 117 = .ok (.aload_n 0, 1) := by decide +kernel
theorem dX11_init_118 : decode cX11_init 118 = .ok (.bipush 120, 2) := by decide +kernel
theorem dX11_init_120 : decode cX11_init 120 = .ok (.newarray .int, 2) := by decide +kernel
theorem dX11_init_122 : decode cX11_init 122 = .ok (.putfield 53, 3) := by decide +kernel
theorem dX11_init_125 : decode cX11_init 125 = .ok (.aload_n 0, 1) := by decide +kernel
theorem dX11_init_126 : decode cX11_init 126 = .ok (.iconst 4, 1) := by decide +kernel
theorem dX11_init_127 : decode cX11_init 127 = .ok (.newarray .int, 2) := by decide +kernel
theorem dX11_init_129 : decode cX11_init 129 = .ok (.putfield 56, 3) := by decide +kernel
theorem dX11_init_132 : decode cX11_init 132 = .ok (.aload_n 0, 1) := by decide +kernel
theorem dX11_init_133 : decode cX11_init 133 = .ok (.iconst 4, 1) := by decide +kernel
theorem dX11_init_134 : decode cX11_init 134 = .ok (.newarray .int, 2) := by decide +kernel
theorem dX11_init_136 : decode cX11_init 136 = .ok (.putfield 59, 3) := by decide +kernel
theorem dX11_init_139 : decode cX11_init 139 = .ok (.aload_n 0, 1) := by decide +kernel
theorem dX11_init_140 : decode cX11_init 140 = .ok (.iconst 4, 1) := by decide +kernel
theorem dX11_init_141 : decode cX11_init 141 = .ok (.newarray .int, 2) := by decide +kernel
theorem dX11_init_143 : decode cX11_init 143 = .ok (.putfield 62, 3) := by decide +kernel
theorem dX11_init_146 : decode cX11_init 146 = .ok (.aload_n 0, 1) := by decide +kernel
theorem dX11_init_147 : decode cX11_init 147 = .ok (.iconst 4, 1) := by decide +kernel
theorem dX11_init_148 : decode cX11_init 148 = .ok (.newarray .int, 2) := by decide +kernel
theorem dX11_init_150 : decode cX11_init 150 = .ok (.putfield 65, 3) := by decide +kernel
theorem dX11_init_153 : decode cX11_init 153 = .ok (.aload_n 0, 1) := by decide +kernel
theorem dX11_init_154 : decode cX11_init 154 = .ok (.iconst 4, 1) := by decide +kernel
theorem dX11_init_155 : decode cX11_init 155 = .ok (.newarray .int, 2) := by decide +kernel
theorem dX11_init_157 : decode cX11_init 157 = .ok (.putfield 68, 3) := by decide +kernel
theorem dX11_init_160 : decode cX11_init 160 = .ok (.aload_n 0, 1) := by decide +kernel
theorem dX11_init_161 : decode cX11_init 161 = .ok (.iconst 4, 1) := by decide +kernel
theorem dX11_init_162 : decode cX11_init 162 = .ok (.newarray .int, 2) := by decide +kernel
theorem dX11_init_164 : decode cX11_init 164 = .ok (.putfield 71, 3) := by decide +kernel
theorem dX11_init_167 : decode cX11_init 167 = .ok (.aload_n 0, 1) := by decide +kernel
theorem dX11_init_168 : decode cX11_init 168 = .ok (.bipush 6, 2) := by decide +kernel
theorem dX11_init_170 : decode cX11_init 170 = .ok (.newarray .int, 2) := by decide +kernel
theorem dX11_init_172 : decode cX11_init 172 = .ok (.putfield 74, 3) := by decide +kernel
theorem dX11_init_175 : decode cX11_init 175 = .ok (.aload_n 0, 1) := by decide +kernel
theorem dX11_init_176 : decode cX11_init 176 = .ok (.bipush 30, 2) := by decide +kernel
theorem dX11_init_178 : decode cX11_init 178 = .ok (.newarray .int, 2) := by decide +kernel
theorem dX11_init_180 : decode cX11_init 180 = .ok (.putfield 77, 3) := by decide +kernel
theorem dX11_init_183 : decode cX11_init 183 = .ok (.aload_n 0, 1) := by decide +kernel
theorem dX11_init_184 : decode cX11_init 184 = .ok (.bipush 109, 2) := by decide +kernel
theorem dX11_init_186 : decode cX11_init 186 = .ok (.newarray .int, 2) := by decide +kernel
theorem dX11_init_188 : decode cX11_init 188 = .ok (.putfield 80, 3) := by decide +kernel
theorem dX11_init_191 : decode cX11_init 191 = .ok (.aload_n 0, 1) := by decide +kernel
theorem dX11_init_192 : decode cX11_init 192 = .ok (.bipush 109, 2) := by decide +kernel
theorem dX11_init_194 : decode cX11_init 194 = .ok (.newarray .int, 2) := by decide +kernel
theorem dX11_init_196 : decode cX11_init 196 = .ok (.putfield 83, 3) := by decide +kernel
theorem dX11_init_199 : decode cX11_init 199 = .ok (.aload_n 0, 1) := by decide +kernel
theorem dX11_init_200 : decode cX11_init 200 = .ok (.iconst 3, 1) := by decide +kernel
theorem dX11_init_201 : decode cX11_init 201 = .ok (.newarray .boolean, 2) := by decide +kernel
theorem dX11_init_203 : decode cX11_init 203 = .ok (.putfield 86, 3) := by decide +kernel
theorem dX11_init_206 : decode cX11_init 206 = .ok (.aload_n 0, 1) := by decide +kernel
theorem dX11_init_207 : decode cX11_init 207 = .ok (.getfield 20, 3) := by decide +kernel
theorem dX11_init_210 : decode cX11_init 210 = .ok (.iconst 0, 1) := by decide +kernel
theorem dX11_init_211 : decode cX11_init 211 = .ok (.iconst (-1), 1) := by decide +kernel
theorem dX11_init_212 : decode cX11_init 212 = .ok (.iastore, 1) := by decide +kernel
theorem dX11_init_213 : decode cX11_init 213 = .ok (.return_, 1) := by decide +kernel
abbrev mX11_init : MI := (yX11_init, cX11_init, 1, none, noE)
theorem okX11_init : cok mX11_init 0 := ⟨tw1191, tw11, by decide, by decide, by decide, by decide +kernel⟩
def fX11_init (M : Mem) (a0 : Int) : Option Mem :=
  if (0 : Int) ≤ a0 then bM (mnew M 11 2400) fun M2 => if M2.2.1 a0 = 10 then if (-1 : Int) ≤ (M.2.2.2 : Int) then bM (mst M2 a0 1 (M.2.2.2 : Int)) fun M6 => bM (mnew M6 12 4) fun M8 => if M8.2.1 a0 = 10 then if (-1 : Int) ≤ (M6.2.2.2 : Int) then bM (mst M8 a0 2 (M6.2.2.2 : Int)) fun M12 => bM (mnew M12 12 4) fun M14 => if M14.2.1 a0 = 10 then if (-1 : Int) ≤ (M12.2.2.2 : Int) then bM (mst M14 a0 3 (M12.2.2.2 : Int)) fun M18 => bM (mnew M18 12 4) fun M20 => if M20.2.1 a0 = 10 then if (-1 : Int) ≤ (M18.2.2.2 : Int) then bM (mst M20 a0 4 (M18.2.2.2 : Int)) fun M24 => bM (mnew M24 12 16) fun M26 => if M26.2.1 a0 = 10 then if (-1 : Int) ≤ (M24.2.2.2 : Int) then bM (mst M26 a0 5 (M24.2.2.2 : Int)) fun M30 => bM (mnew M30 12 736) fun M32 => if M32.2.1 a0 = 10 then if (-1 : Int) ≤ (M30.2.2.2 : Int) then bM (mst M32 a0 6 (M30.2.2.2 : Int)) fun M36 => bM (mnew M36 12 24) fun M38 => if M38.2.1 a0 = 10 then if (-1 : Int) ≤ (M36.2.2.2 : Int) then bM (mst M38 a0 7 (M36.2.2.2 : Int)) fun M42 => bM (mnew M42 12 1288) fun M44 => if M44.2.1 a0 = 10 then if (-1 : Int) ≤ (M42.2.2.2 : Int) then bM (mst M44 a0 8 (M42.2.2.2 : Int)) fun M48 => bM (mnew M48 12 376) fun M50 => if M50.2.1 a0 = 10 then if (-1 : Int) ≤ (M48.2.2.2 : Int) then bM (mst M50 a0 9 (M48.2.2.2 : Int)) fun M54 => bM (mnew M54 12 161) fun M56 => if M56.2.1 a0 = 10 then if (-1 : Int) ≤ (M54.2.2.2 : Int) then bM (mst M56 a0 19 (M54.2.2.2 : Int)) fun M60 => bM (mnew M60 12 4) fun M62 => if M62.2.1 a0 = 10 then if (-1 : Int) ≤ (M60.2.2.2 : Int) then bM (mst M62 a0 20 (M60.2.2.2 : Int)) fun M66 => bM (mnew M66 12 30) fun M68 => if M68.2.1 a0 = 10 then if (-1 : Int) ≤ (M66.2.2.2 : Int) then bM (mst M68 a0 29 (M66.2.2.2 : Int)) fun M72 => bM (mnew M72 12 20) fun M74 => if M74.2.1 a0 = 10 then if (-1 : Int) ≤ (M72.2.2.2 : Int) then bM (mst M74 a0 30 (M72.2.2.2 : Int)) fun M78 => bM (mnew M78 12 120) fun M80 => if M80.2.1 a0 = 10 then if (-1 : Int) ≤ (M78.2.2.2 : Int) then bM (mst M80 a0 31 (M78.2.2.2 : Int)) fun M84 => bM (mnew M84 12 120) fun M86 => if M86.2.1 a0 = 10 then if (-1 : Int) ≤ (M84.2.2.2 : Int) then bM (mst M86 a0 32 (M84.2.2.2 : Int)) fun M90 => bM (mnew M90 12 4) fun M92 => if M92.2.1 a0 = 10 then if (-1 : Int) ≤ (M90.2.2.2 : Int) then bM (mst M92 a0 33 (M90.2.2.2 : Int)) fun M96 => bM (mnew M96 12 4) fun M98 => if M98.2.1 a0 = 10 then if (-1 : Int) ≤ (M96.2.2.2 : Int) then bM (mst M98 a0 34 (M96.2.2.2 : Int)) fun M102 => bM (mnew M102 12 4) fun M104 => if M104.2.1 a0 = 10 then if (-1 : Int) ≤ (M102.2.2.2 : Int) then bM (mst M104 a0 35 (M102.2.2.2 : Int)) fun M108 => bM (mnew M108 12 4) fun M110 => if M110.2.1 a0 = 10 then if (-1 : Int) ≤ (M108.2.2.2 : Int) then bM (mst M110 a0 36 (M108.2.2.2 : Int)) fun M114 => bM (mnew M114 12 4) fun M116 => if M116.2.1 a0 = 10 then if (-1 : Int) ≤ (M114.2.2.2 : Int) then bM (mst M116 a0 37 (M114.2.2.2 : Int)) fun M120 => bM (mnew M120 12 4) fun M122 => if M122.2.1 a0 = 10 then if (-1 : Int) ≤ (M120.2.2.2 : Int) then bM (mst M122 a0 38 (M120.2.2.2 : Int)) fun M126 => bM (mnew M126 12 6) fun M128 => if M128.2.1 a0 = 10 then if (-1 : Int) ≤ (M126.2.2.2 : Int) then bM (mst M128 a0 39 (M126.2.2.2 : Int)) fun M132 => bM (mnew M132 12 30) fun M134 => if M134.2.1 a0 = 10 then if (-1 : Int) ≤ (M132.2.2.2 : Int) then bM (mst M134 a0 43 (M132.2.2.2 : Int)) fun M138 => bM (mnew M138 12 109) fun M140 => if M140.2.1 a0 = 10 then if (-1 : Int) ≤ (M138.2.2.2 : Int) then bM (mst M140 a0 46 (M138.2.2.2 : Int)) fun M144 => bM (mnew M144 12 109) fun M146 => if M146.2.1 a0 = 10 then if (-1 : Int) ≤ (M144.2.2.2 : Int) then bM (mst M146 a0 47 (M144.2.2.2 : Int)) fun M150 => bM (mnew M150 13 3) fun M152 => if M152.2.1 a0 = 10 then if (-1 : Int) ≤ (M150.2.2.2 : Int) then bM (mst M152 a0 50 (M150.2.2.2 : Int)) fun M156 => if M156.2.1 (M156.1 a0 4) = 12 ∧ (0 : Int) ≤ 0 ∧ 0 < M156.2.2.1 (M156.1 a0 4) then bM (mst M156 (M156.1 a0 4) 0 (-1)) fun M159 => some M159 else none else none else none else none else none else none else none else none else none else none else none else none else none else none else none else none else none else none else none else none else none else none else none else none else none else none else none else none else none else none else none else none else none else none else none else none else none else none else none else none else none else none else none else none else none else none else none else none else none else none else none else none else none else none
set_option maxRecDepth 100000 in
set_option maxHeartbeats 4000000 in
theorem kX11_init (d : Nat) (hd : 1 ≤ d) (M : Mem) (a0 : Int) : Ct mX11_init d 26 5588 [pA a0] M dV (fX11_init M a0) := by
  obtain ⟨d, rfl⟩ : ∃ k, d = k + 1 := ⟨d - 1, by omega⟩
  refine Ct.of 0 (fun _ _ _ => trivial) (by decide +kernel) rfl ?_
  unfold fX11_init
  refine v_aload_n dX11_init_0 rfl ?_
  refine v_if (fun h1 => ?_)
  refine v_objInit (mi := mX11_init) h1 tw1192 tw26 tw27 (Nat.le_of_ble_eq_true rfl) dX11_init_1 ?_
  refine v_aload_n dX11_init_4 rfl ?_
  refine v_sipush dX11_init_5 (by decide) ?_
  refine v_newarray (t := .byte) (n := 2400) 11 (by decide) (by decide) tw120 dX11_init_8 ?_
  refine v_bM (fun M2 e3 => ?_)
  refine v_if (fun h4 => ?_)
  refine v_if (fun h5 => ?_)
  refine v_put (x := (M.2.2.2 : Int)) 10 1 rfl inX11 (by decide) tw1194 (Or.inr ⟨rfl, rfl, rfl⟩) rfl dX11_init_10 h4 rfl (fun _ => h5) ?_
  refine v_bM (fun M6 e7 => ?_)
  refine v_aload_n dX11_init_13 rfl ?_
  refine v_iconst dX11_init_14 (by decide) ?_
  refine v_newarray (t := .int) (n := 4) 12 (by decide) (by decide) tw121 dX11_init_15 ?_
  refine v_bM (fun M8 e9 => ?_)
  refine v_if (fun h10 => ?_)
  refine v_if (fun h11 => ?_)
  refine v_put (x := (M6.2.2.2 : Int)) 10 2 rfl inX11 (by decide) tw1195 (Or.inr ⟨rfl, rfl, rfl⟩) rfl dX11_init_17 h10 rfl (fun _ => h11) ?_
  refine v_bM (fun M12 e13 => ?_)
  refine v_aload_n dX11_init_20 rfl ?_
  refine v_iconst dX11_init_21 (by decide) ?_
  refine v_newarray (t := .int) (n := 4) 12 (by decide) (by decide) tw121 dX11_init_22 ?_
  refine v_bM (fun M14 e15 => ?_)
  refine v_if (fun h16 => ?_)
  refine v_if (fun h17 => ?_)
  refine v_put (x := (M12.2.2.2 : Int)) 10 3 rfl inX11 (by decide) tw1196 (Or.inr ⟨rfl, rfl, rfl⟩) rfl dX11_init_24 h16 rfl (fun _ => h17) ?_
  refine v_bM (fun M18 e19 => ?_)
  refine v_aload_n dX11_init_27 rfl ?_
  refine v_iconst dX11_init_28 (by decide) ?_
  refine v_newarray (t := .int) (n := 4) 12 (by decide) (by decide) tw121 dX11_init_29 ?_
  refine v_bM (fun M20 e21 => ?_)
  refine v_if (fun h22 => ?_)
  refine v_if (fun h23 => ?_)
  refine v_put (x := (M18.2.2.2 : Int)) 10 4 rfl inX11 (by decide) tw1197 (Or.inr ⟨rfl, rfl, rfl⟩) rfl dX11_init_31 h22 rfl (fun _ => h23) ?_
  refine v_bM (fun M24 e25 => ?_)
  refine v_aload_n dX11_init_34 rfl ?_
  refine v_bipush dX11_init_35 (by decide) ?_
  refine v_newarray (t := .int) (n := 16) 12 (by decide) (by decide) tw121 dX11_init_37 ?_
  refine v_bM (fun M26 e27 => ?_)
  refine v_if (fun h28 => ?_)
  refine v_if (fun h29 => ?_)
  refine v_put (x := (M24.2.2.2 : Int)) 10 5 rfl inX11 (by decide) tw1198 (Or.inr ⟨rfl, rfl, rfl⟩) rfl dX11_init_39 h28 rfl (fun _ => h29) ?_
  refine v_bM (fun M30 e31 => ?_)
  refine v_aload_n dX11_init_42 rfl ?_
  refine v_sipush dX11_init_43 (by decide) ?_
  refine v_newarray (t := .int) (n := 736) 12 (by decide) (by decide) tw121 dX11_init_46 ?_
  refine v_bM (fun M32 e33 => ?_)
  refine v_if (fun h34 => ?_)
  refine v_if (fun h35 => ?_)
  refine v_put (x := (M30.2.2.2 : Int)) 10 6 rfl inX11 (by decide) tw1199 (Or.inr ⟨rfl, rfl, rfl⟩) rfl dX11_init_48 h34 rfl (fun _ => h35) ?_
  refine v_bM (fun M36 e37 => ?_)
  refine v_aload_n dX11_init_51 rfl ?_
  refine v_bipush dX11_init_52 (by decide) ?_
  refine v_newarray (t := .int) (n := 24) 12 (by decide) (by decide) tw121 dX11_init_54 ?_
  refine v_bM (fun M38 e39 => ?_)
  refine v_if (fun h40 => ?_)
  refine v_if (fun h41 => ?_)
  refine v_put (x := (M36.2.2.2 : Int)) 10 7 rfl inX11 (by decide) tw1200 (Or.inr ⟨rfl, rfl, rfl⟩) rfl dX11_init_56 h40 rfl (fun _ => h41) ?_
  refine v_bM (fun M42 e43 => ?_)
  refine v_aload_n dX11_init_59 rfl ?_
  refine v_sipush dX11_init_60 (by decide) ?_
  refine v_newarray (t := .int) (n := 1288) 12 (by decide) (by decide) tw121 dX11_init_63 ?_
  refine v_bM (fun M44 e45 => ?_)
  refine v_if (fun h46 => ?_)
  refine v_if (fun h47 => ?_)
  refine v_put (x := (M42.2.2.2 : Int)) 10 8 rfl inX11 (by decide) tw1201 (Or.inr ⟨rfl, rfl, rfl⟩) rfl dX11_init_65 h46 rfl (fun _ => h47) ?_
  refine v_bM (fun M48 e49 => ?_)
  refine v_aload_n dX11_init_68 rfl ?_
  refine v_sipush dX11_init_69 (by decide) ?_
  refine v_newarray (t := .int) (n := 376) 12 (by decide) (by decide) tw121 dX11_init_72 ?_
  refine v_bM (fun M50 e51 => ?_)
  refine v_if (fun h52 => ?_)
  refine v_if (fun h53 => ?_)
  refine v_put (x := (M48.2.2.2 : Int)) 10 9 rfl inX11 (by decide) tw1202 (Or.inr ⟨rfl, rfl, rfl⟩) rfl dX11_init_74 h52 rfl (fun _ => h53) ?_
  refine v_bM (fun M54 e55 => ?_)
  refine v_aload_n dX11_init_77 rfl ?_
  refine v_sipush dX11_init_78 (by decide) ?_
  refine v_newarray (t := .int) (n := 161) 12 (by decide) (by decide) tw121 dX11_init_81 ?_
  refine v_bM (fun M56 e57 => ?_)
  refine v_if (fun h58 => ?_)
  refine v_if (fun h59 => ?_)
  refine v_put (x := (M54.2.2.2 : Int)) 10 19 rfl inX11 (by decide) tw1212 (Or.inr ⟨rfl, rfl, rfl⟩) rfl dX11_init_83 h58 rfl (fun _ => h59) ?_
  refine v_bM (fun M60 e61 => ?_)
  refine v_aload_n dX11_init_86 rfl ?_
  refine v_iconst dX11_init_87 (by decide) ?_
  refine v_newarray (t := .int) (n := 4) 12 (by decide) (by decide) tw121 dX11_init_88 ?_
  refine v_bM (fun M62 e63 => ?_)
  refine v_if (fun h64 => ?_)
  refine v_if (fun h65 => ?_)
  refine v_put (x := (M60.2.2.2 : Int)) 10 20 rfl inX11 (by decide) tw1213 (Or.inr ⟨rfl, rfl, rfl⟩) rfl dX11_init_90 h64 rfl (fun _ => h65) ?_
  refine v_bM (fun M66 e67 => ?_)
  refine v_aload_n dX11_init_93 rfl ?_
  refine v_bipush dX11_init_94 (by decide) ?_
  refine v_newarray (t := .int) (n := 30) 12 (by decide) (by decide) tw121 dX11_init_96 ?_
  refine v_bM (fun M68 e69 => ?_)
  refine v_if (fun h70 => ?_)
  refine v_if (fun h71 => ?_)
  refine v_put (x := (M66.2.2.2 : Int)) 10 29 rfl inX11 (by decide) tw1222 (Or.inr ⟨rfl, rfl, rfl⟩) rfl dX11_init_98 h70 rfl (fun _ => h71) ?_
  refine v_bM (fun M72 e73 => ?_)
  refine v_aload_n dX11_init_101 rfl ?_
  refine v_bipush dX11_init_102 (by decide) ?_
  refine v_newarray (t := .int) (n := 20) 12 (by decide) (by decide) tw121 dX11_init_104 ?_
  refine v_bM (fun M74 e75 => ?_)
  refine v_if (fun h76 => ?_)
  refine v_if (fun h77 => ?_)
  refine v_put (x := (M72.2.2.2 : Int)) 10 30 rfl inX11 (by decide) tw1223 (Or.inr ⟨rfl, rfl, rfl⟩) rfl dX11_init_106 h76 rfl (fun _ => h77) ?_
  refine v_bM (fun M78 e79 => ?_)
  refine v_aload_n dX11_init_109 rfl ?_
  refine v_bipush dX11_init_110 (by decide) ?_
  refine v_newarray (t := .int) (n := 120) 12 (by decide) (by decide) tw121 dX11_init_112 ?_
  refine v_bM (fun M80 e81 => ?_)
  refine v_if (fun h82 => ?_)
  refine v_if (fun h83 => ?_)
  refine v_put (x := (M78.2.2.2 : Int)) 10 31 rfl inX11 (by decide) tw1224 (Or.inr ⟨rfl, rfl, rfl⟩) rfl dX11_init_114 h82 rfl (fun _ => h83) ?_
  refine v_bM (fun M84 e85 => ?_)
  refine v_aload_n dX11_init_117 rfl ?_
  refine v_bipush dX11_init_118 (by decide) ?_
  refine v_newarray (t := .int) (n := 120) 12 (by decide) (by decide) tw121 dX11_init_120 ?_
  refine v_bM (fun M86 e87 => ?_)
  refine v_if (fun h88 => ?_)
  refine v_if (fun h89 => ?_)
  refine v_put (x := (M84.2.2.2 : Int)) 10 32 rfl inX11 (by decide) tw1225 (Or.inr ⟨rfl, rfl, rfl⟩) rfl dX11_init_122 h88 rfl (fun _ => h89) ?_
  refine v_bM (fun M90 e91 => ?_)
  refine v_aload_n dX11_init_125 rfl ?_
  refine v_iconst dX11_init_126 (by decide) ?_
  refine v_newarray (t := .int) (n := 4) 12 (by decide) (by decide) tw121 dX11_init_127 ?_
  refine v_bM (fun M92 e93 => ?_)
  refine v_if (fun h94 => ?_)
  refine v_if (fun h95 => ?_)
  refine v_put (x := (M90.2.2.2 : Int)) 10 33 rfl inX11 (by decide) tw1226 (Or.inr ⟨rfl, rfl, rfl⟩) rfl dX11_init_129 h94 rfl (fun _ => h95) ?_
  refine v_bM (fun M96 e97 => ?_)
  refine v_aload_n dX11_init_132 rfl ?_
  refine v_iconst dX11_init_133 (by decide) ?_
  refine v_newarray (t := .int) (n := 4) 12 (by decide) (by decide) tw121 dX11_init_134 ?_
  refine v_bM (fun M98 e99 => ?_)
  refine v_if (fun h100 => ?_)
  refine v_if (fun h101 => ?_)
  refine v_put (x := (M96.2.2.2 : Int)) 10 34 rfl inX11 (by decide) tw1227 (Or.inr ⟨rfl, rfl, rfl⟩) rfl dX11_init_136 h100 rfl (fun _ => h101) ?_
  refine v_bM (fun M102 e103 => ?_)
  refine v_aload_n dX11_init_139 rfl ?_
  refine v_iconst dX11_init_140 (by decide) ?_
  refine v_newarray (t := .int) (n := 4) 12 (by decide) (by decide) tw121 dX11_init_141 ?_
  refine v_bM (fun M104 e105 => ?_)
  refine v_if (fun h106 => ?_)
  refine v_if (fun h107 => ?_)
  refine v_put (x := (M102.2.2.2 : Int)) 10 35 rfl inX11 (by decide) tw1228 (Or.inr ⟨rfl, rfl, rfl⟩) rfl dX11_init_143 h106 rfl (fun _ => h107) ?_
  refine v_bM (fun M108 e109 => ?_)
  refine v_aload_n dX11_init_146 rfl ?_
  refine v_iconst dX11_init_147 (by decide) ?_
  refine v_newarray (t := .int) (n := 4) 12 (by decide) (by decide) tw121 dX11_init_148 ?_
  refine v_bM (fun M110 e111 => ?_)
  refine v_if (fun h112 => ?_)
  refine v_if (fun h113 => ?_)
  refine v_put (x := (M108.2.2.2 : Int)) 10 36 rfl inX11 (by decide) tw1229 (Or.inr ⟨rfl, rfl, rfl⟩) rfl dX11_init_150 h112 rfl (fun _ => h113) ?_
  refine v_bM (fun M114 e115 => ?_)
  refine v_aload_n dX11_init_153 rfl ?_
  refine v_iconst dX11_init_154 (by decide) ?_
  refine v_newarray (t := .int) (n := 4) 12 (by decide) (by decide) tw121 dX11_init_155 ?_
  refine v_bM (fun M116 e117 => ?_)
  refine v_if (fun h118 => ?_)
  refine v_if (fun h119 => ?_)
  refine v_put (x := (M114.2.2.2 : Int)) 10 37 rfl inX11 (by decide) tw1230 (Or.inr ⟨rfl, rfl, rfl⟩) rfl dX11_init_157 h118 rfl (fun _ => h119) ?_
  refine v_bM (fun M120 e121 => ?_)
  refine v_aload_n dX11_init_160 rfl ?_
  refine v_iconst dX11_init_161 (by decide) ?_
  refine v_newarray (t := .int) (n := 4) 12 (by decide) (by decide) tw121 dX11_init_162 ?_
  refine v_bM (fun M122 e123 => ?_)
  refine v_if (fun h124 => ?_)
  refine v_if (fun h125 => ?_)
  refine v_put (x := (M120.2.2.2 : Int)) 10 38 rfl inX11 (by decide) tw1231 (Or.inr ⟨rfl, rfl, rfl⟩) rfl dX11_init_164 h124 rfl (fun _ => h125) ?_
  refine v_bM (fun M126 e127 => ?_)
  refine v_aload_n dX11_init_167 rfl ?_
  refine v_bipush dX11_init_168 (by decide) ?_
  refine v_newarray (t := .int) (n := 6) 12 (by decide) (by decide) tw121 dX11_init_170 ?_
  refine v_bM (fun M128 e129 => ?_)
  refine v_if (fun h130 => ?_)
  refine v_if (fun h131 => ?_)
  refine v_put (x := (M126.2.2.2 : Int)) 10 39 rfl inX11 (by decide) tw1232 (Or.inr ⟨rfl, rfl, rfl⟩) rfl dX11_init_172 h130 rfl (fun _ => h131) ?_
  refine v_bM (fun M132 e133 => ?_)
  refine v_aload_n dX11_init_175 rfl ?_
  refine v_bipush dX11_init_176 (by decide) ?_
  refine v_newarray (t := .int) (n := 30) 12 (by decide) (by decide) tw121 dX11_init_178 ?_
  refine v_bM (fun M134 e135 => ?_)
  refine v_if (fun h136 => ?_)
  refine v_if (fun h137 => ?_)
  refine v_put (x := (M132.2.2.2 : Int)) 10 43 rfl inX11 (by decide) tw1236 (Or.inr ⟨rfl, rfl, rfl⟩) rfl dX11_init_180 h136 rfl (fun _ => h137) ?_
  refine v_bM (fun M138 e139 => ?_)
  refine v_aload_n dX11_init_183 rfl ?_
  refine v_bipush dX11_init_184 (by decide) ?_
  refine v_newarray (t := .int) (n := 109) 12 (by decide) (by decide) tw121 dX11_init_186 ?_
  refine v_bM (fun M140 e141 => ?_)
  refine v_if (fun h142 => ?_)
  refine v_if (fun h143 => ?_)
  refine v_put (x := (M138.2.2.2 : Int)) 10 46 rfl inX11 (by decide) tw1239 (Or.inr ⟨rfl, rfl, rfl⟩) rfl dX11_init_188 h142 rfl (fun _ => h143) ?_
  refine v_bM (fun M144 e145 => ?_)
  refine v_aload_n dX11_init_191 rfl ?_
  refine v_bipush dX11_init_192 (by decide) ?_
  refine v_newarray (t := .int) (n := 109) 12 (by decide) (by decide) tw121 dX11_init_194 ?_
  refine v_bM (fun M146 e147 => ?_)
  refine v_if (fun h148 => ?_)
  refine v_if (fun h149 => ?_)
  refine v_put (x := (M144.2.2.2 : Int)) 10 47 rfl inX11 (by decide) tw1240 (Or.inr ⟨rfl, rfl, rfl⟩) rfl dX11_init_196 h148 rfl (fun _ => h149) ?_
  refine v_bM (fun M150 e151 => ?_)
  refine v_aload_n dX11_init_199 rfl ?_
  refine v_iconst dX11_init_200 (by decide) ?_
  refine v_newarray (t := .boolean) (n := 3) 13 (by decide) (by decide) tw1347 dX11_init_201 ?_
  refine v_bM (fun M152 e153 => ?_)
  refine v_if (fun h154 => ?_)
  refine v_if (fun h155 => ?_)
  refine v_put (x := (M150.2.2.2 : Int)) 10 50 rfl inX11 (by decide) tw1243 (Or.inr ⟨rfl, rfl, rfl⟩) rfl dX11_init_203 h154 rfl (fun _ => h155) ?_
  refine v_bM (fun M156 e157 => ?_)
  refine v_aload_n dX11_init_206 rfl ?_
  refine v_get (v := pA (M156.1 a0 4)) 10 4 rfl inX11 (by decide) tw1197 dX11_init_207 (by rw [e157]; exact h154) rfl ?_
  refine v_iconst dX11_init_210 (by decide) ?_
  refine v_iconst dX11_init_211 (by decide) ?_
  refine v_if (fun h158 => ?_)
  refine v_iastore h158 dX11_init_212 ?_
  refine v_bM (fun M159 e160 => ?_)
  exact v_return dX11_init_213 rfl rfl
theorem dX11_in_0 : decode cX11_in 0 = .ok (.iload_n 0, 1) := by decide +kernel
theorem dX11_in_1 : decode cX11_in 1 = .ok (.iload_n 1, 1) := by decide +kernel
theorem dX11_in_2 : decode cX11_in 2 = .ok (.if_icmp .lt 12, 3) := by decide +kernel
theorem dX11_in_5 : decode cX11_in 5 = .ok (.iload_n 0, 1) := by decide +kernel
theorem dX11_in_6 : decode cX11_in 6 = .ok (.iload_n 2, 1) := by decide +kernel
theorem dX11_in_7 : decode cX11_in 7 = .ok (.if_icmp .gt 7, 3) := by decide +kernel
theorem dX11_in_10 : decode cX11_in 10 = .ok (.iconst 1, 1) := by decide +kernel
theorem dX11_in_11 : decode cX11_in 11 = .ok (.goto 4, 3) := by decide +kernel
theorem dX11_in_14 : decode cX11_in 14 = .ok (.iconst 0, 1) := by decide +kernel
theorem dX11_in_15 : decode cX11_in 15 = .ok (.ireturn, 1) := by decide +kernel
abbrev mX11_in : MI := (yX11_in, cX11_in, 3, (some .boolean), noE)
theorem okX11_in : cok mX11_in 3 := ⟨tw1362, tw11, by decide, by decide, by decide, by decide +kernel⟩
def fX11_in (M : Mem) (a0 a1 a2 : Int) : Option Int :=
  if a0 < a1 then (some 0) else (if a2 < a0 then (some 0) else (some 1))
set_option maxRecDepth 100000 in
set_option maxHeartbeats 4000000 in
theorem kX11_in (d : Nat) (hd : 0 ≤ d) (M : Mem) (a0 a1 a2 : Int) : Ct mX11_in d 0 0 [pI a0, pI a1, pI a2] M (dI M) (fX11_in M a0 a1 a2) := by
  refine Ct.of 0 (fun _ _ _ => trivial) (by decide +kernel) rfl ?_
  unfold fX11_in
  refine v_iload_n dX11_in_0 rfl ?_
  refine v_iload_n dX11_in_1 rfl ?_
  refine v_icmp_lt (tgt := 14) dX11_in_2 (by decide) (fun c1 => ?_) (fun c1 => ?_)
  · refine v_iconst dX11_in_14 (by decide) ?_
    exact v_breturn dX11_in_15 rfl (by decide) rfl
  · refine v_iload_n dX11_in_5 rfl ?_
    refine v_iload_n dX11_in_6 rfl ?_
    refine v_icmp_gt (tgt := 14) dX11_in_7 (by decide) (fun c2 => ?_) (fun c2 => ?_)
    · refine v_iconst dX11_in_14 (by decide) ?_
      exact v_breturn dX11_in_15 rfl (by decide) rfl
    · refine v_iconst dX11_in_10 (by decide) ?_
      refine v_goto (tgt := 15) dX11_in_11 (by decide) ?_
      exact v_breturn dX11_in_15 rfl (by decide) rfl
theorem dX11_has_0 : decode cX11_has 0 = .ok (.iload_n 0, 1) := by decide +kernel
theorem dX11_has_1 : decode cX11_has 1 = .ok (.iload_n 1, 1) := by decide +kernel
theorem dX11_has_2 : decode cX11_has 2 = .ok (.ishr, 1) := by decide +kernel
theorem dX11_has_3 : decode cX11_has 3 = .ok (.iconst 1, 1) := by decide +kernel
theorem dX11_has_4 : decode cX11_has 4 = .ok (.iand, 1) := by decide +kernel
theorem dX11_has_5 : decode cX11_has 5 = .ok (.iconst 1, 1) := by decide +kernel
theorem dX11_has_6 : decode cX11_has 6 = .ok (.if_icmp .ne 7, 3) := by decide +kernel
theorem dX11_has_9 : decode cX11_has 9 = .ok (.iconst 1, 1) := by decide +kernel
theorem dX11_has_10 : decode cX11_has 10 = .ok (.goto 4, 3) := by decide +kernel
theorem dX11_has_13 : decode cX11_has 13 = .ok (.iconst 0, 1) := by decide +kernel
theorem dX11_has_14 : decode cX11_has 14 = .ok (.ireturn, 1) := by decide +kernel
abbrev mX11_has : MI := (yX11_has, cX11_has, 2, (some .boolean), noE)
theorem okX11_has : cok mX11_has 2 := ⟨tw1549, tw11, by decide, by decide, by decide, by decide +kernel⟩
def fX11_has (M : Mem) (a0 a1 : Int) : Option Int :=
  if bAnd (bShr a0 a1) 1 = 1 then (some 1) else (some 0)
set_option maxRecDepth 100000 in
set_option maxHeartbeats 4000000 in
theorem kX11_has (d : Nat) (hd : 0 ≤ d) (M : Mem) (a0 a1 : Int) : Ct mX11_has d 0 0 [pI a0, pI a1] M (dI M) (fX11_has M a0 a1) := by
  refine Ct.of 0 (fun _ _ _ => trivial) (by decide +kernel) rfl ?_
  unfold fX11_has
  refine v_iload_n dX11_has_0 rfl ?_
  refine v_iload_n dX11_has_1 rfl ?_
  refine v_ishr dX11_has_2 ?_
  refine v_iconst dX11_has_3 (by decide) ?_
  refine v_iand dX11_has_4 ?_
  refine v_iconst dX11_has_5 (by decide) ?_
  refine v_icmp_ne (tgt := 13) dX11_has_6 (by decide) (fun c1 => ?_) (fun c1 => ?_)
  · refine v_iconst dX11_has_9 (by decide) ?_
    refine v_goto (tgt := 14) dX11_has_10 (by decide) ?_
    exact v_breturn dX11_has_14 rfl (by decide) rfl
  · refine v_iconst dX11_has_13 (by decide) ?_
    exact v_breturn dX11_has_14 rfl (by decide) rfl
theorem dX11_greater_0 : decode cX11_greater 0 = .ok (.iload_n 0, 1) := by decide +kernel
theorem dX11_greater_1 : decode cX11_greater 1 = .ok (.iload_n 1, 1) := by decide +kernel
theorem dX11_greater_2 : decode cX11_greater 2 = .ok (.if_icmp .le 7, 3) := by decide +kernel
theorem dX11_greater_5 : decode cX11_greater 5 = .ok (.iload_n 0, 1) := by decide +kernel
theorem dX11_greater_6 : decode cX11_greater 6 = .ok (.goto 4, 3) := by decide +kernel
theorem dX11_greater_9 : decode cX11_greater 9 = .ok (.iload_n 1, 1) := by decide +kernel
theorem dX11_greater_10 : decode cX11_greater 10 = .ok (.ireturn, 1) := by decide +kernel
abbrev mX11_greater : MI := (yX11_greater, cX11_greater, 2, (some .int), noE)
theorem okX11_greater : cok mX11_greater 2 := ⟨tw1442, tw11, by decide, by decide, by decide, by decide +kernel⟩
def fX11_greater (M : Mem) (a0 a1 : Int) : Option Int :=
  if a1 < a0 then (some a0) else (some a1)
set_option maxRecDepth 100000 in
set_option maxHeartbeats 4000000 in
theorem kX11_greater (d : Nat) (hd : 0 ≤ d) (M : Mem) (a0 a1 : Int) : Ct mX11_greater d 0 0 [pI a0, pI a1] M (dI M) (fX11_greater M a0 a1) := by
  refine Ct.of 0 (fun _ _ _ => trivial) (by decide +kernel) rfl ?_
  unfold fX11_greater
  refine v_iload_n dX11_greater_0 rfl ?_
  refine v_iload_n dX11_greater_1 rfl ?_
  refine v_icmp_le (tgt := 9) dX11_greater_2 (by decide) (fun c1 => ?_) (fun c1 => ?_)
  · refine v_iload_n dX11_greater_5 rfl ?_
    refine v_goto (tgt := 10) dX11_greater_6 (by decide) ?_
    exact v_ireturn dX11_greater_10 rfl rfl
  · refine v_iload_n dX11_greater_9 rfl ?_
    exact v_ireturn dX11_greater_10 rfl rfl
theorem dX11_lesser_0 : decode cX11_lesser 0 = .ok (.iload_n 0, 1) := by decide +kernel
theorem dX11_lesser_1 : decode cX11_lesser 1 = .ok (.iload_n 1, 1) := by decide +kernel
theorem dX11_lesser_2 : decode cX11_lesser 2 = .ok (.if_icmp .ge 7, 3) := by decide +kernel
theorem dX11_lesser_5 : decode cX11_lesser 5 = .ok (.iload_n 0, 1) := by decide +kernel
theorem dX11_lesser_6 : decode cX11_lesser 6 = .ok (.goto 4, 3) := by decide +kernel
theorem dX11_lesser_9 : decode cX11_lesser 9 = .ok (.iload_n 1, 1) := by decide +kernel
theorem dX11_lesser_10 : decode cX11_lesser 10 = .ok (.ireturn, 1) := by decide +kernel
abbrev mX11_lesser : MI := (yX11_lesser, cX11_lesser, 2, (some .int), noE)
theorem okX11_lesser : cok mX11_lesser 2 := ⟨tw1667, tw11, by decide, by decide, by decide, by decide +kernel⟩
def fX11_lesser (M : Mem) (a0 a1 : Int) : Option Int :=
  if a0 < a1 then (some a0) else (some a1)
set_option maxRecDepth 100000 in
set_option maxHeartbeats 4000000 in
theorem kX11_lesser (d : Nat) (hd : 0 ≤ d) (M : Mem) (a0 a1 : Int) : Ct mX11_lesser d 0 0 [pI a0, pI a1] M (dI M) (fX11_lesser M a0 a1) := by
  refine Ct.of 0 (fun _ _ _ => trivial) (by decide +kernel) rfl ?_
  unfold fX11_lesser
  refine v_iload_n dX11_lesser_0 rfl ?_
  refine v_iload_n dX11_lesser_1 rfl ?_
  refine v_icmp_ge (tgt := 9) dX11_lesser_2 (by decide) (fun c1 => ?_) (fun c1 => ?_)
  · refine v_iload_n dX11_lesser_5 rfl ?_
    refine v_goto (tgt := 10) dX11_lesser_6 (by decide) ?_
    exact v_ireturn dX11_lesser_10 rfl rfl
  · refine v_iload_n dX11_lesser_9 rfl ?_
    exact v_ireturn dX11_lesser_10 rfl rfl
theorem dX11_size_0 : decode cX11_size 0 = .ok (.iload_n 0, 1) := by decide +kernel
theorem dX11_size_1 : decode cX11_size 1 = .ok (.ifCond .ge 8, 3) := by decide +kernel
theorem dX11_size_4 : decode cX11_size 4 = .ok (.iload_n 0, 1) := by decide +kernel
theorem dX11_size_5 : decode cX11_size 5 = .ok (.ineg, 1) := by decide +kernel
theorem dX11_size_6 : decode cX11_size 6 = .ok (.goto 4, 3) := by decide +kernel
theorem dX11_size_9 : decode cX11_size 9 = .ok (.iload_n 0, 1) := by decide +kernel
theorem dX11_size_10 : decode cX11_size 10 = .ok (.ireturn, 1) := by decide +kernel
abbrev mX11_size : MI := (yX11_size, cX11_size, 1, (some .int), noE)
theorem okX11_size : cok mX11_size 1 := ⟨tw1687, tw11, by decide, by decide, by decide, by decide +kernel⟩
def fX11_size (M : Mem) (a0 : Int) : Option Int :=
  if a0 < 0 then (some (w32 (-a0))) else (some a0)
set_option maxRecDepth 100000 in
set_option maxHeartbeats 4000000 in
theorem kX11_size (d : Nat) (hd : 0 ≤ d) (M : Mem) (a0 : Int) : Ct mX11_size d 0 0 [pI a0] M (dI M) (fX11_size M a0) := by
  refine Ct.of 0 (fun _ _ _ => trivial) (by decide +kernel) rfl ?_
  unfold fX11_size
  refine v_iload_n dX11_size_0 rfl ?_
  refine v_if_ge (tgt := 9) dX11_size_1 (by decide) (fun c1 => ?_) (fun c1 => ?_)
  · refine v_iload_n dX11_size_4 rfl ?_
    refine v_ineg dX11_size_5 ?_
    refine v_goto (tgt := 10) dX11_size_6 (by decide) ?_
    exact v_ireturn dX11_size_10 rfl rfl
  · refine v_iload_n dX11_size_9 rfl ?_
    exact v_ireturn dX11_size_10 rfl rfl
theorem dX11_copyRow_0 : decode cX11_copyRow 0 = .ok (.iconst 0, 1) := by decide +kernel
theorem dX11_copyRow_1 : decode cX11_copyRow 1 = .ok (.istore 4, 2) := by decide +kernel
theorem dX11_copyRow_3 : decode cX11_copyRow 3 = .ok (.iload 4, 2) := by decide +kernel
theorem dX11_copyRow_5 : decode cX11_copyRow 5 = .ok (.iload_n 1, 1) := by decide +kernel
theorem dX11_copyRow_6 : decode cX11_copyRow 6 = .ok (.if_icmp .ge 25, 3) := by decide +kernel
theorem dX11_copyRow_9 : decode cX11_copyRow 9 = .ok (.aload_n 0, 1) := by decide +kernel
theorem dX11_copyRow_10 : decode cX11_copyRow 10 = .ok (.iload_n 1, 1) := by decide +kernel
theorem dX11_copyRow_11 : decode cX11_copyRow 11 = .ok (.iload_n 3, 1) := by decide +kernel
theorem dX11_copyRow_12 : decode cX11_copyRow 12 = .ok (.imul, 1) := by decide +kernel
theorem dX11_copyRow_13 : decode cX11_copyRow 13 = .ok (.iload 4, 2) := by decide +kernel
theorem dX11_copyRow_15 : decode cX11_copyRow 15 = .ok (.iadd, 1) := by decide +kernel
theorem dX11_copyRow_16 : decode cX11_copyRow 16 = .ok (.aload_n 0, 1) := by decide +kernel
theorem dX11_copyRow_17 : decode cX11_copyRow 17 = .ok (.iload_n 1, 1) := by decide +kernel
theorem dX11_copyRow_18 : decode cX11_copyRow 18 = .ok (.iload_n 2, 1) := by decide +kernel
theorem dX11_copyRow_19 : decode cX11_copyRow 19 = .ok (.imul, 1) := by decide +kernel
theorem dX11_copyRow_20 : decode cX11_copyRow 20 = .ok (.iload 4, 2) := by decide +kernel
theorem dX11_copyRow_22 : decode cX11_copyRow 22 = .ok (.iadd, 1) := by decide +kernel
theorem dX11_copyRow_23 : decode cX11_copyRow 23 = .ok (.iaload, 1) := by decide +kernel
theorem dX11_copyRow_24 : decode cX11_copyRow 24 = .ok (.iastore, 1) := by decide +kernel
theorem dX11_copyRow_25 : decode cX11_copyRow 25 = .ok (.iinc 4 1, 3) := by decide +kernel
theorem dX11_copyRow_28 : decode cX11_copyRow 28 = .ok (.goto (-25), 3) := by decide +kernel
theorem dX11_copyRow_31 : decode cX11_copyRow 31 = .ok (.return_, 1) := by decide +kernel
abbrev mX11_copyRow : MI := (yX11_copyRow, cX11_copyRow, 5, none, noE)
theorem okX11_copyRow : cok mX11_copyRow 4 := ⟨tw1888, tw11, by decide, by decide, by decide, by decide +kernel⟩
def fX11_copyRow (M : Mem) (a0 a1 a2 a3 : Int) : Option Mem :=
  iterC (fun (rec1 : (Int × Mem) → Option Mem) (s2 : Int × Mem) => if s2.1 < a1 then (if s2.2.2.1 a0 = 12 ∧ (0 : Int) ≤ (w32 ((w32 (a1 * a2)) + s2.1)) ∧ (w32 ((w32 (a1 * a2)) + s2.1)) < s2.2.2.2.1 a0 then if s2.2.2.1 a0 = 12 ∧ (0 : Int) ≤ (w32 ((w32 (a1 * a3)) + s2.1)) ∧ (w32 ((w32 (a1 * a3)) + s2.1)) < s2.2.2.2.1 a0 then bM (mst s2.2 a0 (w32 ((w32 (a1 * a3)) + s2.1)) (s2.2.1 a0 (w32 ((w32 (a1 * a2)) + s2.1)))) fun M6 => rec1 (w32 (s2.1 + 1), M6) else none else none) else (some s2.2)) BIG (0, M)
set_option maxRecDepth 100000 in
set_option maxHeartbeats 4000000 in
theorem kX11_copyRow (d : Nat) (hd : 0 ≤ d) (M : Mem) (a0 a1 a2 a3 : Int) : Ct mX11_copyRow d 0 0 [pA a0, pI a1, pI a2, pI a3] M dV (fX11_copyRow M a0 a1 a2 a3) := by
  refine Ct.of 1 (fun _ _ _ => trivial) (by decide +kernel) rfl ?_
  unfold fX11_copyRow
  refine v_iconst dX11_copyRow_0 (by decide) ?_
  refine v_istore (ls' := [some (pA a0), some (pI a1), some (pI a2), some (pI a3), some (pI 0)]) dX11_copyRow_1 (by decide) rfl ?_
  refine v_loop (fun (s2 : Int × Mem) => [some (pA a0), some (pI a1), some (pI a2), some (pI a3), some (pI s2.1)]) (fun (s2 : Int × Mem) => s2.2) (s0 := (0, M)) ?_
  intro rec1 hrec1 s2
  refine v_iload dX11_copyRow_3 rfl ?_
  refine v_iload_n dX11_copyRow_5 rfl ?_
  refine v_icmp_ge (tgt := 31) dX11_copyRow_6 (by decide) (fun c3 => ?_) (fun c3 => ?_)
  · refine v_aload_n dX11_copyRow_9 rfl ?_
    refine v_iload_n dX11_copyRow_10 rfl ?_
    refine v_iload_n dX11_copyRow_11 rfl ?_
    refine v_imul dX11_copyRow_12 ?_
    refine v_iload dX11_copyRow_13 rfl ?_
    refine v_iadd dX11_copyRow_15 ?_
    refine v_aload_n dX11_copyRow_16 rfl ?_
    refine v_iload_n dX11_copyRow_17 rfl ?_
    refine v_iload_n dX11_copyRow_18 rfl ?_
    refine v_imul dX11_copyRow_19 ?_
    refine v_iload dX11_copyRow_20 rfl ?_
    refine v_iadd dX11_copyRow_22 ?_
    refine v_if (fun h4 => ?_)
    refine v_iaload h4 dX11_copyRow_23 ?_
    refine v_if (fun h5 => ?_)
    refine v_iastore h5 dX11_copyRow_24 ?_
    refine v_bM (fun M6 e7 => ?_)
    refine v_iinc (ls' := [some (pA a0), some (pI a1), some (pI a2), some (pI a3), some (pI (w32 (s2.1 + 1)))]) dX11_copyRow_25 (by decide) rfl rfl ?_
    refine v_goto (tgt := 3) dX11_copyRow_28 (by decide) ?_
    exact hrec1 (w32 (s2.1 + 1), M6)
  · exact v_return dX11_copyRow_31 rfl rfl
theorem dX11_copyAll_0 : decode cX11_copyAll 0 = .ok (.iconst 0, 1) := by decide +kernel
theorem dX11_copyAll_1 : decode cX11_copyAll 1 = .ok (.istore_n 3, 1) := by decide +kernel
theorem dX11_copyAll_2 : decode cX11_copyAll 2 = .ok (.iload_n 3, 1) := by decide +kernel
theorem dX11_copyAll_3 : decode cX11_copyAll 3 = .ok (.sipush 600, 3) := by decide +kernel
theorem dX11_copyAll_6 : decode cX11_copyAll 6 = .ok (.if_icmp .ge 33, 3) := by decide +kernel
theorem dX11_copyAll_9 : decode cX11_copyAll 9 = .ok (.aload_n 0, 1) := by decide +kernel
theorem dX11_copyAll_10 : decode cX11_copyAll 10 = .ok (.getfield 7, 3) := by decide +kernel
theorem dX11_copyAll_13 : decode cX11_copyAll 13 = .ok (.sipush 600, 3) := by decide +kernel
theorem dX11_copyAll_16 : decode cX11_copyAll 16 = .ok (.iload_n 2, 1) := by decide +kernel
theorem dX11_copyAll_17 : decode cX11_copyAll 17 = .ok (.imul, 1) := by decide +kernel
theorem dX11_copyAll_18 : decode cX11_copyAll 18 = .ok (.iload_n 3, 1) := by decide +kernel
theorem dX11_copyAll_19 : decode cX11_copyAll 19 = .ok (.iadd, 1) := by decide +kernel
theorem dX11_copyAll_20 : decode cX11_copyAll 20 = .ok (.aload_n 0, 1) := by decide +kernel
theorem dX11_copyAll_21 : decode cX11_copyAll 21 = .ok (.getfield 7, 3) := by decide +kernel
theorem dX11_copyAll_24 : decode cX11_copyAll 24 = .ok (.sipush 600, 3) := by decide +kernel
theorem dX11_copyAll_27 : decode cX11_copyAll 27 = .ok (.iload_n 1, 1) := by decide +kernel
theorem dX11_copyAll_28 : decode cX11_copyAll 28 = .ok (.imul, 1) := by decide +kernel
theorem dX11_copyAll_29 : decode cX11_copyAll 29 = .ok (.iload_n 3, 1) := by decide +kernel
theorem dX11_copyAll_30 : decode cX11_copyAll 30 = .ok (.iadd, 1) := by decide +kernel
theorem dX11_copyAll_31 : decode cX11_copyAll 31 = .ok (.baload, 1) := by decide +kernel
theorem dX11_copyAll_32 : decode cX11_copyAll 32 = .ok (.bastore, 1) := by decide +kernel
theorem dX11_copyAll_33 : decode cX11_copyAll 33 = .ok (.iinc 3 1, 3) := by decide +kernel
theorem dX11_copyAll_36 : decode cX11_copyAll 36 = .ok (.goto (-34), 3) := by decide +kernel
theorem dX11_copyAll_39 : decode cX11_copyAll 39 = .ok (.aload_n 0, 1) := by decide +kernel
theorem dX11_copyAll_40 : decode cX11_copyAll 40 = .ok (.getfield 13, 3) := by decide +kernel
theorem dX11_copyAll_43 : decode cX11_copyAll 43 = .ok (.iconst 1, 1) := by decide +kernel
theorem dX11_copyAll_44 : decode cX11_copyAll 44 = .ok (.iload_n 1, 1) := by decide +kernel
theorem dX11_copyAll_45 : decode cX11_copyAll 45 = .ok (.iload_n 2, 1) := by decide +kernel
theorem dX11_copyAll_46 : decode cX11_copyAll 46 = .ok (.invokestatic 94, 3) := by decide +kernel
theorem dX11_copyAll_49 : decode cX11_copyAll 49 = .ok (.aload_n 0, 1) := by decide +kernel
theorem dX11_copyAll_50 : decode cX11_copyAll 50 = .ok (.getfield 17, 3) := by decide +kernel
theorem dX11_copyAll_53 : decode cX11_copyAll 53 = .ok (.iconst 1, 1) := by decide +kernel
theorem dX11_copyAll_54 : decode cX11_copyAll 54 = .ok (.iload_n 1, 1) := by decide +kernel
theorem dX11_copyAll_55 : decode cX11_copyAll 55 = .ok (.iload_n 2, 1) := by decide +kernel
theorem dX11_copyAll_56 : decode cX11_copyAll 56 = .ok (.invokestatic 94, 3) := by decide +kernel
theorem dX11_copyAll_59 : decode cX11_copyAll 59 = .ok (.aload_n 0, 1) := by decide +kernel
theorem dX11_copyAll_60 : decode cX11_copyAll 60 = .ok (.getfield 20, 3) := by decide +kernel
theorem dX11_copyAll_63 : decode cX11_copyAll 63 = .ok (.iconst 1, 1) := by decide +kernel
theorem dX11_copyAll_64 : decode cX11_copyAll 64 = .ok (.iload_n 1, 1) := by decide +kernel
theorem dX11_copyAll_65 : decode cX11_copyAll 65 = .ok (.iload_n 2, 1) := by decide +kernel
theorem dX11_copyAll_66 : decode cX11_copyAll 66 = .ok (.invokestatic 94, 3) := by decide +kernel
theorem dX11_copyAll_69 : decode cX11_copyAll 69 = .ok (.aload_n 0, 1) := by decide +kernel
theorem dX11_copyAll_70 : decode cX11_copyAll 70 = .ok (.getfield 23, 3) := by decide +kernel
theorem dX11_copyAll_73 : decode cX11_copyAll 73 = .ok (.iconst 4, 1) := by decide +kernel
theorem dX11_copyAll_74 : decode cX11_copyAll 74 = .ok (.iload_n 1, 1) := by decide +kernel
theorem dX11_copyAll_75 : decode cX11_copyAll 75 = .ok (.iload_n 2, 1) := by decide +kernel
theorem dX11_copyAll_76 : decode cX11_copyAll 76 = .ok (.invokestatic 94, 3) := by decide +kernel
theorem dX11_copyAll_79 : decode cX11_copyAll 79 = .ok (.aload_n 0, 1) := by decide +kernel
theorem dX11_copyAll_80 : decode cX11_copyAll 80 = .ok (.getfield 26, 3) := by decide +kernel
theorem dX11_copyAll_83 : decode cX11_copyAll 83 = .ok (.sipush 184, 3) := by decide +kernel
theorem dX11_copyAll_86 : decode cX11_copyAll 86 = .ok (.iload_n 1, 1) := by decide +kernel
theorem dX11_copyAll_87 : decode cX11_copyAll 87 = .ok (.iload_n 2, 1) := by decide +kernel
theorem dX11_copyAll_88 : decode cX11_copyAll 88 = .ok (.invokestatic 94, 3) := by decide +kernel
theorem dX11_copyAll_91 : decode cX11_copyAll 91 = .ok (.aload_n 0, 1) := by decide +kernel
theorem dX11_copyAll_92 : decode cX11_copyAll 92 = .ok (.getfield 29, 3) := by decide +kernel
theorem dX11_copyAll_95 : decode cX11_copyAll 95 = .ok (.bipush 6, 2) := by decide +kernel
theorem dX11_copyAll_97 : decode cX11_copyAll 97 = .ok (.iload_n 1, 1) := by decide +kernel
theorem dX11_copyAll_98 : decode cX11_copyAll 98 = .ok (.iload_n 2, 1) := by decide +kernel
theorem dX11_copyAll_99 : decode cX11_copyAll 99 = .ok (.invokestatic 94, 3) := by decide +kernel
theorem dX11_copyAll_102 : decode cX11_copyAll 102 = .ok (.aload_n 0, 1) := by decide +kernel
theorem dX11_copyAll_103 : decode cX11_copyAll 103 = .ok (.getfield 32, 3) := by decide +kernel
theorem dX11_copyAll_106 : decode cX11_copyAll 106 = .ok (.sipush 322, 3) := by decide +kernel
theorem dX11_copyAll_109 : decode cX11_copyAll 109 = .ok (.iload_n 1, 1) := by decide +kernel
theorem dX11_copyAll_110 : decode cX11_copyAll 110 = .ok (.iload_n 2, 1) := by decide +kernel
theorem dX11_copyAll_111 : decode cX11_copyAll 111 = .ok (.invokestatic 94, 3) := by decide +kernel
theorem dX11_copyAll_114 : decode cX11_copyAll 114 = .ok (.aload_n 0, 1) := by decide +kernel
theorem dX11_copyAll_115 : decode cX11_copyAll 115 = .ok (.getfield 35, 3) := by decide +kernel
theorem dX11_copyAll_118 : decode cX11_copyAll 118 = .ok (.bipush 94, 2) := by decide +kernel
theorem dX11_copyAll_120 : decode cX11_copyAll 120 = .ok (.iload_n 1, 1) := by decide +kernel
theorem dX11_copyAll_121 : decode cX11_copyAll 121 = .ok (.iload_n 2, 1) := by decide +kernel
theorem dX11_copyAll_122 : decode cX11_copyAll 122 = .ok (.invokestatic 94, 3) := by decide +kernel
theorem dX11_copyAll_125 : decode cX11_copyAll 125 = .ok (.return_, 1) := by decide +kernel
abbrev mX11_copyAll : MI := (yX11_copyAll, cX11_copyAll, 4, none, noE)
theorem okX11_copyAll : cok mX11_copyAll 2 := ⟨tw1885, tw11, by decide, by decide, by decide, by decide +kernel⟩
def fX11_copyAll (M : Mem) (a0 a1 a2 : Int) : Option Mem :=
  iterC (fun (rec1 : (Int × Mem) → Option Mem) (s2 : Int × Mem) => if s2.1 < 600 then (if s2.2.2.1 a0 = 10 then if (s2.2.2.1 (s2.2.1 a0 1) = 11 ∨ s2.2.2.1 (s2.2.1 a0 1) = 13) ∧ (0 : Int) ≤ (w32 ((w32 (600 * a1)) + s2.1)) ∧ (w32 ((w32 (600 * a1)) + s2.1)) < s2.2.2.2.1 (s2.2.1 a0 1) then if s2.2.2.1 (s2.2.1 a0 1) = 11 ∧ (0 : Int) ≤ (w32 ((w32 (600 * a2)) + s2.1)) ∧ (w32 ((w32 (600 * a2)) + s2.1)) < s2.2.2.2.1 (s2.2.1 a0 1) then bM (mst s2.2 (s2.2.1 a0 1) (w32 ((w32 (600 * a2)) + s2.1)) (s2.2.1 (s2.2.1 a0 1) (w32 ((w32 (600 * a1)) + s2.1)))) fun M8 => rec1 (w32 (s2.1 + 1), M8) else none else none else none) else (if s2.2.2.1 a0 = 10 then (fX11_copyRow s2.2 (s2.2.1 a0 2) 1 a1 a2).bind fun r11 => if r11.2.1 a0 = 10 then (fX11_copyRow r11 (r11.1 a0 3) 1 a1 a2).bind fun r14 => if r14.2.1 a0 = 10 then (fX11_copyRow r14 (r14.1 a0 4) 1 a1 a2).bind fun r17 => if r17.2.1 a0 = 10 then (fX11_copyRow r17 (r17.1 a0 5) 4 a1 a2).bind fun r20 => if r20.2.1 a0 = 10 then (fX11_copyRow r20 (r20.1 a0 6) 184 a1 a2).bind fun r23 => if r23.2.1 a0 = 10 then (fX11_copyRow r23 (r23.1 a0 7) 6 a1 a2).bind fun r26 => if r26.2.1 a0 = 10 then (fX11_copyRow r26 (r26.1 a0 8) 322 a1 a2).bind fun r29 => if r29.2.1 a0 = 10 then (fX11_copyRow r29 (r29.1 a0 9) 94 a1 a2).bind fun r32 => some r32 else none else none else none else none else none else none else none else none)) BIG (0, M)
set_option maxRecDepth 100000 in
set_option maxHeartbeats 4000000 in
theorem kX11_copyAll (d : Nat) (hd : 1 ≤ d) (M : Mem) (a0 a1 a2 : Int) : Ct mX11_copyAll d 0 0 [pA a0, pI a1, pI a2] M dV (fX11_copyAll M a0 a1 a2) := by
  obtain ⟨d, rfl⟩ : ∃ k, d = k + 1 := ⟨d - 1, by omega⟩
  refine Ct.of 1 (fun _ _ _ => trivial) (by decide +kernel) rfl ?_
  unfold fX11_copyAll
  refine v_iconst dX11_copyAll_0 (by decide) ?_
  refine v_istore_n (ls' := [some (pA a0), some (pI a1), some (pI a2), some (pI 0)]) dX11_copyAll_1 (by decide) rfl ?_
  refine v_loop (fun (s2 : Int × Mem) => [some (pA a0), some (pI a1), some (pI a2), some (pI s2.1)]) (fun (s2 : Int × Mem) => s2.2) (s0 := (0, M)) ?_
  intro rec1 hrec1 s2
  refine v_iload_n dX11_copyAll_2 rfl ?_
  refine v_sipush dX11_copyAll_3 (by decide) ?_
  refine v_icmp_ge (tgt := 39) dX11_copyAll_6 (by decide) (fun c3 => ?_) (fun c3 => ?_)
  · refine v_aload_n dX11_copyAll_9 rfl ?_
    refine v_if (fun h4 => ?_)
    refine v_get (v := pA (s2.2.1 a0 1)) 10 1 rfl inX11 (by decide) tw1194 dX11_copyAll_10 h4 rfl ?_
    refine v_sipush dX11_copyAll_13 (by decide) ?_
    refine v_iload_n dX11_copyAll_16 rfl ?_
    refine v_imul dX11_copyAll_17 ?_
    refine v_iload_n dX11_copyAll_18 rfl ?_
    refine v_iadd dX11_copyAll_19 ?_
    refine v_aload_n dX11_copyAll_20 rfl ?_
    refine v_get (v := pA (s2.2.1 a0 1)) 10 1 rfl inX11 (by decide) tw1194 dX11_copyAll_21 h4 rfl ?_
    refine v_sipush dX11_copyAll_24 (by decide) ?_
    refine v_iload_n dX11_copyAll_27 rfl ?_
    refine v_imul dX11_copyAll_28 ?_
    refine v_iload_n dX11_copyAll_29 rfl ?_
    refine v_iadd dX11_copyAll_30 ?_
    refine v_if (fun h5 => ?_)
    refine v_baload h5 dX11_copyAll_31 ?_
    refine v_if (fun h6 => ?_)
    refine v_pure (P := -128 ≤ s2.2.1 (s2.2.1 a0 1) (w32 ((w32 (600 * a1)) + s2.1)) ∧ s2.2.1 (s2.2.1 a0 1) (w32 ((w32 (600 * a1)) + s2.1)) ≤ 127) (fun hM _ _ => byte_r hM h5.1 h5.2.1) (fun h7 => ?_)
    refine v_bastore h6 h7 dX11_copyAll_32 ?_
    refine v_bM (fun M8 e9 => ?_)
    refine v_iinc (ls' := [some (pA a0), some (pI a1), some (pI a2), some (pI (w32 (s2.1 + 1)))]) dX11_copyAll_33 (by decide) rfl rfl ?_
    refine v_goto (tgt := 2) dX11_copyAll_36 (by decide) ?_
    exact hrec1 (w32 (s2.1 + 1), M8)
  · refine v_aload_n dX11_copyAll_39 rfl ?_
    refine v_if (fun h10 => ?_)
    refine v_get (v := pA (s2.2.1 a0 2)) 10 2 rfl inX11 (by decide) tw1195 dX11_copyAll_40 h10 rfl ?_
    refine v_iconst dX11_copyAll_43 (by decide) ?_
    refine v_iload_n dX11_copyAll_44 rfl ?_
    refine v_iload_n dX11_copyAll_45 rfl ?_
    refine v_cS (mi := mX11_copyAll) (c0 := 0) (c1 := 0) (As := [pA (s2.2.1 a0 2), pI 1, pI a1, pI a2]) (st := []) (kX11_copyRow d (by omega) _ _ _ _ _) okX11_copyRow (Or.inl tw1886) tw1887 rfl (Nat.le_of_ble_eq_true rfl) dX11_copyAll_46 (fun r11 => []) (fun r11 => r11) (fun _ => rfl) (fun _ => rfl) (fun r11 h12 => ?_) rfl
    refine v_aload_n dX11_copyAll_49 rfl ?_
    refine v_if (fun h13 => ?_)
    refine v_get (v := pA (r11.1 a0 3)) 10 3 rfl inX11 (by decide) tw1196 dX11_copyAll_50 h13 rfl ?_
    refine v_iconst dX11_copyAll_53 (by decide) ?_
    refine v_iload_n dX11_copyAll_54 rfl ?_
    refine v_iload_n dX11_copyAll_55 rfl ?_
    refine v_cS (mi := mX11_copyAll) (c0 := 0) (c1 := 0) (As := [pA (r11.1 a0 3), pI 1, pI a1, pI a2]) (st := []) (kX11_copyRow d (by omega) _ _ _ _ _) okX11_copyRow (Or.inl tw1886) tw1887 rfl (Nat.le_of_ble_eq_true rfl) dX11_copyAll_56 (fun r14 => []) (fun r14 => r14) (fun _ => rfl) (fun _ => rfl) (fun r14 h15 => ?_) rfl
    refine v_aload_n dX11_copyAll_59 rfl ?_
    refine v_if (fun h16 => ?_)
    refine v_get (v := pA (r14.1 a0 4)) 10 4 rfl inX11 (by decide) tw1197 dX11_copyAll_60 h16 rfl ?_
    refine v_iconst dX11_copyAll_63 (by decide) ?_
    refine v_iload_n dX11_copyAll_64 rfl ?_
    refine v_iload_n dX11_copyAll_65 rfl ?_
    refine v_cS (mi := mX11_copyAll) (c0 := 0) (c1 := 0) (As := [pA (r14.1 a0 4), pI 1, pI a1, pI a2]) (st := []) (kX11_copyRow d (by omega) _ _ _ _ _) okX11_copyRow (Or.inl tw1886) tw1887 rfl (Nat.le_of_ble_eq_true rfl) dX11_copyAll_66 (fun r17 => []) (fun r17 => r17) (fun _ => rfl) (fun _ => rfl) (fun r17 h18 => ?_) rfl
    refine v_aload_n dX11_copyAll_69 rfl ?_
    refine v_if (fun h19 => ?_)
    refine v_get (v := pA (r17.1 a0 5)) 10 5 rfl inX11 (by decide) tw1198 dX11_copyAll_70 h19 rfl ?_
    refine v_iconst dX11_copyAll_73 (by decide) ?_
    refine v_iload_n dX11_copyAll_74 rfl ?_
    refine v_iload_n dX11_copyAll_75 rfl ?_
    refine v_cS (mi := mX11_copyAll) (c0 := 0) (c1 := 0) (As := [pA (r17.1 a0 5), pI 4, pI a1, pI a2]) (st := []) (kX11_copyRow d (by omega) _ _ _ _ _) okX11_copyRow (Or.inl tw1886) tw1887 rfl (Nat.le_of_ble_eq_true rfl) dX11_copyAll_76 (fun r20 => []) (fun r20 => r20) (fun _ => rfl) (fun _ => rfl) (fun r20 h21 => ?_) rfl
    refine v_aload_n dX11_copyAll_79 rfl ?_
    refine v_if (fun h22 => ?_)
    refine v_get (v := pA (r20.1 a0 6)) 10 6 rfl inX11 (by decide) tw1199 dX11_copyAll_80 h22 rfl ?_
    refine v_sipush dX11_copyAll_83 (by decide) ?_
    refine v_iload_n dX11_copyAll_86 rfl ?_
    refine v_iload_n dX11_copyAll_87 rfl ?_
    refine v_cS (mi := mX11_copyAll) (c0 := 0) (c1 := 0) (As := [pA (r20.1 a0 6), pI 184, pI a1, pI a2]) (st := []) (kX11_copyRow d (by omega) _ _ _ _ _) okX11_copyRow (Or.inl tw1886) tw1887 rfl (Nat.le_of_ble_eq_true rfl) dX11_copyAll_88 (fun r23 => []) (fun r23 => r23) (fun _ => rfl) (fun _ => rfl) (fun r23 h24 => ?_) rfl
    refine v_aload_n dX11_copyAll_91 rfl ?_
    refine v_if (fun h25 => ?_)
    refine v_get (v := pA (r23.1 a0 7)) 10 7 rfl inX11 (by decide) tw1200 dX11_copyAll_92 h25 rfl ?_
    refine v_bipush dX11_copyAll_95 (by decide) ?_
    refine v_iload_n dX11_copyAll_97 rfl ?_
    refine v_iload_n dX11_copyAll_98 rfl ?_
    refine v_cS (mi := mX11_copyAll) (c0 := 0) (c1 := 0) (As := [pA (r23.1 a0 7), pI 6, pI a1, pI a2]) (st := []) (kX11_copyRow d (by omega) _ _ _ _ _) okX11_copyRow (Or.inl tw1886) tw1887 rfl (Nat.le_of_ble_eq_true rfl) dX11_copyAll_99 (fun r26 => []) (fun r26 => r26) (fun _ => rfl) (fun _ => rfl) (fun r26 h27 => ?_) rfl
    refine v_aload_n dX11_copyAll_102 rfl ?_
    refine v_if (fun h28 => ?_)
    refine v_get (v := pA (r26.1 a0 8)) 10 8 rfl inX11 (by decide) tw1201 dX11_copyAll_103 h28 rfl ?_
    refine v_sipush dX11_copyAll_106 (by decide) ?_
    refine v_iload_n dX11_copyAll_109 rfl ?_
    refine v_iload_n dX11_copyAll_110 rfl ?_
    refine v_cS (mi := mX11_copyAll) (c0 := 0) (c1 := 0) (As := [pA (r26.1 a0 8), pI 322, pI a1, pI a2]) (st := []) (kX11_copyRow d (by omega) _ _ _ _ _) okX11_copyRow (Or.inl tw1886) tw1887 rfl (Nat.le_of_ble_eq_true rfl) dX11_copyAll_111 (fun r29 => []) (fun r29 => r29) (fun _ => rfl) (fun _ => rfl) (fun r29 h30 => ?_) rfl
    refine v_aload_n dX11_copyAll_114 rfl ?_
    refine v_if (fun h31 => ?_)
    refine v_get (v := pA (r29.1 a0 9)) 10 9 rfl inX11 (by decide) tw1202 dX11_copyAll_115 h31 rfl ?_
    refine v_bipush dX11_copyAll_118 (by decide) ?_
    refine v_iload_n dX11_copyAll_120 rfl ?_
    refine v_iload_n dX11_copyAll_121 rfl ?_
    refine v_cS (mi := mX11_copyAll) (c0 := 0) (c1 := 0) (As := [pA (r29.1 a0 9), pI 94, pI a1, pI a2]) (st := []) (kX11_copyRow d (by omega) _ _ _ _ _) okX11_copyRow (Or.inl tw1886) tw1887 rfl (Nat.le_of_ble_eq_true rfl) dX11_copyAll_122 (fun r32 => []) (fun r32 => r32) (fun _ => rfl) (fun _ => rfl) (fun r32 h33 => ?_) rfl
    exact v_return dX11_copyAll_125 rfl rfl
theorem dX11_is_0 : decode cX11_is 0 = .ok (.iload_n 2, 1) := by decide +kernel
theorem dX11_is_1 : decode cX11_is 1 = .ok (.iconst 0, 1) := by decide +kernel
theorem dX11_is_2 : decode cX11_is 2 = .ok (.aload_n 0, 1) := by decide +kernel
theorem dX11_is_3 : decode cX11_is 3 = .ok (.getfield 23, 3) := by decide +kernel
theorem dX11_is_6 : decode cX11_is 6 = .ok (.iload_n 1, 1) := by decide +kernel
theorem dX11_is_7 : decode cX11_is 7 = .ok (.iaload, 1) := by decide +kernel
theorem dX11_is_8 : decode cX11_is 8 = .ok (.iconst 1, 1) := by decide +kernel
theorem dX11_is_9 : decode cX11_is 9 = .ok (.isub, 1) := by decide +kernel
theorem dX11_is_10 : decode cX11_is 10 = .ok (.invokestatic 98, 3) := by decide +kernel
theorem dX11_is_13 : decode cX11_is 13 = .ok (.ireturn, 1) := by decide +kernel
abbrev mX11_is : MI := (yX11_is, cX11_is, 3, (some .boolean), noE)
theorem okX11_is : cok mX11_is 2 := ⟨tw1370, tw11, by decide, by decide, by decide, by decide +kernel⟩
def fX11_is (M : Mem) (a0 a1 a2 : Int) : Option Int :=
  if M.2.1 a0 = 10 then if M.2.1 (M.1 a0 5) = 12 ∧ (0 : Int) ≤ a1 ∧ a1 < M.2.2.1 (M.1 a0 5) then (fX11_in M a2 0 (w32 ((M.1 (M.1 a0 5) a1) - 1))).bind fun r3 => if r3 = 0 ∨ r3 = 1 then some r3 else none else none else none
set_option maxRecDepth 100000 in
set_option maxHeartbeats 4000000 in
theorem kX11_is (d : Nat) (hd : 1 ≤ d) (M : Mem) (a0 a1 a2 : Int) : Ct mX11_is d 0 0 [pA a0, pI a1, pI a2] M (dI M) (fX11_is M a0 a1 a2) := by
  obtain ⟨d, rfl⟩ : ∃ k, d = k + 1 := ⟨d - 1, by omega⟩
  refine Ct.of 0 (fun _ _ _ => trivial) (by decide +kernel) rfl ?_
  unfold fX11_is
  refine v_iload_n dX11_is_0 rfl ?_
  refine v_iconst dX11_is_1 (by decide) ?_
  refine v_aload_n dX11_is_2 rfl ?_
  refine v_if (fun h1 => ?_)
  refine v_get (v := pA (M.1 a0 5)) 10 5 rfl inX11 (by decide) tw1198 dX11_is_3 h1 rfl ?_
  refine v_iload_n dX11_is_6 rfl ?_
  refine v_if (fun h2 => ?_)
  refine v_iaload h2 dX11_is_7 ?_
  refine v_iconst dX11_is_8 (by decide) ?_
  refine v_isub dX11_is_9 ?_
  refine v_cS (mi := mX11_is) (c0 := 0) (c1 := 0) (As := [pI a2, pI 0, pI (w32 ((M.1 (M.1 a0 5) a1) - 1))]) (st := []) (kX11_in d (by omega) _ _ _ _) okX11_in (Or.inl tw1360) tw1361 rfl (Nat.le_of_ble_eq_true rfl) dX11_is_10 (fun r3 => [pI r3]) (fun r3 => M) (fun _ => rfl) (fun _ => rfl) (fun r3 h4 => ?_) rfl
  refine v_if (fun h5 => ?_)
  exact v_breturn dX11_is_13 rfl h5 rfl
theorem dX11_four_0 : decode cX11_four 0 = .ok (.bipush 24, 2) := by decide +kernel
theorem dX11_four_2 : decode cX11_four 2 = .ok (.istore_n 2, 1) := by decide +kernel
theorem dX11_four_3 : decode cX11_four 3 = .ok (.iload_n 2, 1) := by decide +kernel
theorem dX11_four_4 : decode cX11_four 4 = .ok (.ifCond .lt 34, 3) := by decide +kernel
theorem dX11_four_7 : decode cX11_four 7 = .ok (.aload_n 0, 1) := by decide +kernel
theorem dX11_four_8 : decode cX11_four 8 = .ok (.getfield 7, 3) := by decide +kernel
theorem dX11_four_11 : decode cX11_four 11 = .ok (.aload_n 0, 1) := by decide +kernel
theorem dX11_four_12 : decode cX11_four 12 = .ok (.getfield 13, 3) := by decide +kernel
theorem dX11_four_15 : decode cX11_four 15 = .ok (.iconst 0, 1) := by decide +kernel
theorem dX11_four_16 : decode cX11_four 16 = .ok (.iaload, 1) := by decide +kernel
theorem dX11_four_17 : decode cX11_four 17 = .ok (.iload_n 1, 1) := by decide +kernel
theorem dX11_four_18 : decode cX11_four 18 = .ok (.iload_n 2, 1) := by decide +kernel
theorem dX11_four_19 : decode cX11_four 19 = .ok (.ishr, 1) := by decide +kernel
theorem dX11_four_20 : decode cX11_four 20 = .ok (.i2b, 1) := by decide +kernel
theorem dX11_four_21 : decode cX11_four 21 = .ok (.bastore, 1) := by decide +kernel
theorem dX11_four_22 : decode cX11_four 22 = .ok (.aload_n 0, 1) := by decide +kernel
theorem dX11_four_23 : decode cX11_four 23 = .ok (.getfield 13, 3) := by decide +kernel
theorem dX11_four_26 : decode cX11_four 26 = .ok (.iconst 0, 1) := by decide +kernel
theorem dX11_four_27 : decode cX11_four 27 = .ok (.dup2, 1) := by decide +kernel
theorem dX11_four_28 : decode cX11_four 28 = .ok (.iaload, 1) := by decide +kernel
theorem dX11_four_29 : decode cX11_four 29 = .ok (.iconst 1, 1) := by decide +kernel
theorem dX11_four_30 : decode cX11_four 30 = .ok (.iadd, 1) := by decide +kernel
theorem dX11_four_31 : decode cX11_four 31 = .ok (.iastore, 1) := by decide +kernel
theorem dX11_four_32 : decode cX11_four 32 = .ok (.iinc 2 (-8), 3) := by decide +kernel
theorem dX11_four_35 : decode cX11_four 35 = .ok (.goto (-32), 3) := by decide +kernel
theorem dX11_four_38 : decode cX11_four 38 = .ok (.return_, 1) := by decide +kernel
abbrev mX11_four : MI := (yX11_four, cX11_four, 3, none, noE)
theorem okX11_four : cok mX11_four 1 := ⟨tw1355, tw11, by decide, by decide, by decide, by decide +kernel⟩
def fX11_four (M : Mem) (a0 a1 : Int) : Option Mem :=
  iterC (fun (rec1 : (Int × Mem) → Option Mem) (s2 : Int × Mem) => if s2.1 < 0 then (some s2.2) else (if s2.2.2.1 a0 = 10 then if s2.2.2.1 (s2.2.1 a0 2) = 12 ∧ (0 : Int) ≤ 0 ∧ 0 < s2.2.2.2.1 (s2.2.1 a0 2) then if s2.2.2.1 (s2.2.1 a0 1) = 11 ∧ (0 : Int) ≤ (s2.2.1 (s2.2.1 a0 2) 0) ∧ (s2.2.1 (s2.2.1 a0 2) 0) < s2.2.2.2.1 (s2.2.1 a0 1) then bM (mst s2.2 (s2.2.1 a0 1) (s2.2.1 (s2.2.1 a0 2) 0) (w8 (bShr a1 s2.1))) fun M7 => if M7.2.1 (M7.1 a0 2) = 12 ∧ (0 : Int) ≤ 0 ∧ 0 < M7.2.2.1 (M7.1 a0 2) then if M7.2.1 (M7.1 a0 2) = 12 ∧ (0 : Int) ≤ 0 ∧ 0 < M7.2.2.1 (M7.1 a0 2) then bM (mst M7 (M7.1 a0 2) 0 (w32 ((M7.1 (M7.1 a0 2) 0) + 1))) fun M11 => rec1 (w32 (s2.1 + (-8)), M11) else none else none else none else none else none)) BIG (24, M)
set_option maxRecDepth 100000 in
set_option maxHeartbeats 4000000 in
theorem kX11_four (d : Nat) (hd : 0 ≤ d) (M : Mem) (a0 a1 : Int) : Ct mX11_four d 0 0 [pA a0, pI a1] M dV (fX11_four M a0 a1) := by
  refine Ct.of 1 (fun _ _ _ => trivial) (by decide +kernel) rfl ?_
  unfold fX11_four
  refine v_bipush dX11_four_0 (by decide) ?_
  refine v_istore_n (ls' := [some (pA a0), some (pI a1), some (pI 24)]) dX11_four_2 (by decide) rfl ?_
  refine v_loop (fun (s2 : Int × Mem) => [some (pA a0), some (pI a1), some (pI s2.1)]) (fun (s2 : Int × Mem) => s2.2) (s0 := (24, M)) ?_
  intro rec1 hrec1 s2
  refine v_iload_n dX11_four_3 rfl ?_
  refine v_if_lt (tgt := 38) dX11_four_4 (by decide) (fun c3 => ?_) (fun c3 => ?_)
  · exact v_return dX11_four_38 rfl rfl
  · refine v_aload_n dX11_four_7 rfl ?_
    refine v_if (fun h4 => ?_)
    refine v_get (v := pA (s2.2.1 a0 1)) 10 1 rfl inX11 (by decide) tw1194 dX11_four_8 h4 rfl ?_
    refine v_aload_n dX11_four_11 rfl ?_
    refine v_get (v := pA (s2.2.1 a0 2)) 10 2 rfl inX11 (by decide) tw1195 dX11_four_12 h4 rfl ?_
    refine v_iconst dX11_four_15 (by decide) ?_
    refine v_if (fun h5 => ?_)
    refine v_iaload h5 dX11_four_16 ?_
    refine v_iload_n dX11_four_17 rfl ?_
    refine v_iload_n dX11_four_18 rfl ?_
    refine v_ishr dX11_four_19 ?_
    refine v_i2b dX11_four_20 ?_
    refine v_if (fun h6 => ?_)
    refine v_bastore h6 (w8_r _) dX11_four_21 ?_
    refine v_bM (fun M7 e8 => ?_)
    refine v_aload_n dX11_four_22 rfl ?_
    refine v_get (v := pA (M7.1 a0 2)) 10 2 rfl inX11 (by decide) tw1195 dX11_four_23 (by rw [e8]; exact h4) rfl ?_
    refine v_iconst dX11_four_26 (by decide) ?_
    refine v_dup2 dX11_four_27 (by intro z hz; cases hz) (by intro z hz; cases hz) ?_
    refine v_if (fun h9 => ?_)
    refine v_iaload h9 dX11_four_28 ?_
    refine v_iconst dX11_four_29 (by decide) ?_
    refine v_iadd dX11_four_30 ?_
    refine v_if (fun h10 => ?_)
    refine v_iastore h10 dX11_four_31 ?_
    refine v_bM (fun M11 e12 => ?_)
    refine v_iinc (ls' := [some (pA a0), some (pI a1), some (pI (w32 (s2.1 + (-8))))]) dX11_four_32 (by decide) rfl rfl ?_
    refine v_goto (tgt := 3) dX11_four_35 (by decide) ?_
    exact hrec1 (w32 (s2.1 + (-8)), M11)
theorem dX11_feed_0 : decode cX11_feed 0 = .ok (.aload_n 0, 1) := by decide +kernel
theorem dX11_feed_1 : decode cX11_feed 1 = .ok (.iconst 0, 1) := by decide +kernel
theorem dX11_feed_2 : decode cX11_feed 2 = .ok (.putfield 90, 3) := by decide +kernel
theorem dX11_feed_5 : decode cX11_feed 5 = .ok (.aload_n 0, 1) := by decide +kernel
theorem dX11_feed_6 : decode cX11_feed 6 = .ok (.getfield 13, 3) := by decide +kernel
theorem dX11_feed_9 : decode cX11_feed 9 = .ok (.iconst 0, 1) := by decide +kernel
theorem dX11_feed_10 : decode cX11_feed 10 = .ok (.iaload, 1) := by decide +kernel
theorem dX11_feed_11 : decode cX11_feed 11 = .ok (.bipush 20, 2) := by decide +kernel
theorem dX11_feed_13 : decode cX11_feed 13 = .ok (.iadd, 1) := by decide +kernel
theorem dX11_feed_14 : decode cX11_feed 14 = .ok (.sipush 600, 3) := by decide +kernel
theorem dX11_feed_17 : decode cX11_feed 17 = .ok (.if_icmp .le 5, 3) := by decide +kernel
theorem dX11_feed_20 : decode cX11_feed 20 = .ok (.iconst (-1), 1) := by decide +kernel
theorem dX11_feed_21 : decode cX11_feed 21 = .ok (.ireturn, 1) := by decide +kernel
theorem dX11_feed_22 : decode cX11_feed 22 = .ok (.aload_n 0, 1) := by decide +kernel
theorem dX11_feed_23 : decode cX11_feed 23 = .ok (.iload_n 1, 1) := by decide +kernel
theorem dX11_feed_24 : decode cX11_feed 24 = .ok (.invokevirtual 102, 3) := by decide +kernel
theorem dX11_feed_27 : decode cX11_feed 27 = .ok (.aload_n 0, 1) := by decide +kernel
theorem dX11_feed_28 : decode cX11_feed 28 = .ok (.iload_n 2, 1) := by decide +kernel
theorem dX11_feed_29 : decode cX11_feed 29 = .ok (.invokevirtual 102, 3) := by decide +kernel
theorem dX11_feed_32 : decode cX11_feed 32 = .ok (.aload_n 0, 1) := by decide +kernel
theorem dX11_feed_33 : decode cX11_feed 33 = .ok (.iload_n 3, 1) := by decide +kernel
theorem dX11_feed_34 : decode cX11_feed 34 = .ok (.invokevirtual 102, 3) := by decide +kernel
theorem dX11_feed_37 : decode cX11_feed 37 = .ok (.aload_n 0, 1) := by decide +kernel
theorem dX11_feed_38 : decode cX11_feed 38 = .ok (.iload 4, 2) := by decide +kernel
theorem dX11_feed_40 : decode cX11_feed 40 = .ok (.invokevirtual 102, 3) := by decide +kernel
theorem dX11_feed_43 : decode cX11_feed 43 = .ok (.aload_n 0, 1) := by decide +kernel
theorem dX11_feed_44 : decode cX11_feed 44 = .ok (.iload 5, 2) := by decide +kernel
theorem dX11_feed_46 : decode cX11_feed 46 = .ok (.invokevirtual 102, 3) := by decide +kernel
theorem dX11_feed_49 : decode cX11_feed 49 = .ok (.aload_n 0, 1) := by decide +kernel
theorem dX11_feed_50 : decode cX11_feed 50 = .ok (.getfield 13, 3) := by decide +kernel
theorem dX11_feed_53 : decode cX11_feed 53 = .ok (.iconst 0, 1) := by decide +kernel
theorem dX11_feed_54 : decode cX11_feed 54 = .ok (.iaload, 1) := by decide +kernel
theorem dX11_feed_55 : decode cX11_feed 55 = .ok (.ireturn, 1) := by decide +kernel
abbrev mX11_feed : MI := (yX11_feed, cX11_feed, 6, (some .int), noE)
theorem okX11_feed : cok mX11_feed 5 := ⟨tw1351, tw11, by decide, by decide, by decide, by decide +kernel⟩
def fX11_feed (M : Mem) (a0 a1 a2 a3 a4 a5 : Int) : Option (Int × Mem) :=
  if M.2.1 a0 = 10 then bM (mst M a0 0 0) fun M2 => if M2.2.1 (M2.1 a0 2) = 12 ∧ (0 : Int) ≤ 0 ∧ 0 < M2.2.2.1 (M2.1 a0 2) then if 600 < w32 ((M2.1 (M2.1 a0 2) 0) + 20) then (some ((-1), M2)) else ((fX11_four M2 a0 a1).bind fun r6 => if r6.2.1 a0 = 10 then (fX11_four r6 a0 a2).bind fun r8 => if r8.2.1 a0 = 10 then (fX11_four r8 a0 a3).bind fun r11 => if r11.2.1 a0 = 10 then (fX11_four r11 a0 a4).bind fun r14 => if r14.2.1 a0 = 10 then (fX11_four r14 a0 a5).bind fun r17 => if r17.2.1 a0 = 10 then if r17.2.1 (r17.1 a0 2) = 12 ∧ (0 : Int) ≤ 0 ∧ 0 < r17.2.2.1 (r17.1 a0 2) then some (r17.1 (r17.1 a0 2) 0, r17) else none else none else none else none else none else none) else none else none
set_option maxRecDepth 100000 in
set_option maxHeartbeats 4000000 in
theorem kX11_feed (d : Nat) (hd : 1 ≤ d) (M : Mem) (a0 a1 a2 a3 a4 a5 : Int) : Ct mX11_feed d 0 0 [pA a0, pI a1, pI a2, pI a3, pI a4, pI a5] M dIM (fX11_feed M a0 a1 a2 a3 a4 a5) := by
  obtain ⟨d, rfl⟩ : ∃ k, d = k + 1 := ⟨d - 1, by omega⟩
  refine Ct.of 0 (fun _ _ _ => trivial) (by decide +kernel) rfl ?_
  unfold fX11_feed
  refine v_aload_n dX11_feed_0 rfl ?_
  refine v_iconst dX11_feed_1 (by decide) ?_
  refine v_if (fun h1 => ?_)
  refine v_put (x := 0) 10 0 rfl inX11 (by decide) tw1193 (Or.inl rfl) rfl dX11_feed_2 h1 rfl id ?_
  refine v_bM (fun M2 e3 => ?_)
  refine v_aload_n dX11_feed_5 rfl ?_
  refine v_get (v := pA (M2.1 a0 2)) 10 2 rfl inX11 (by decide) tw1195 dX11_feed_6 (by rw [e3]; exact h1) rfl ?_
  refine v_iconst dX11_feed_9 (by decide) ?_
  refine v_if (fun h4 => ?_)
  refine v_iaload h4 dX11_feed_10 ?_
  refine v_bipush dX11_feed_11 (by decide) ?_
  refine v_iadd dX11_feed_13 ?_
  refine v_sipush dX11_feed_14 (by decide) ?_
  refine v_icmp_le (tgt := 22) dX11_feed_17 (by decide) (fun c5 => ?_) (fun c5 => ?_)
  · refine v_iconst dX11_feed_20 (by decide) ?_
    exact v_ireturn dX11_feed_21 rfl rfl
  · refine v_aload_n dX11_feed_22 rfl ?_
    refine v_iload_n dX11_feed_23 rfl ?_
    refine v_cV (mi := mX11_feed) (c0 := 0) (c1 := 0) (As := [pI a1]) (st := []) (kX11_four d (by omega) _ _ _) rfl (by rw [e3]; exact h1) rfl okX11_four (Or.inl tw1352) tw1354 tp27 rfl (Nat.le_of_ble_eq_true rfl) dX11_feed_24 (fun r6 => []) (fun r6 => r6) (fun _ => rfl) (fun _ => rfl) (fun r6 h7 => ?_) rfl
    refine v_aload_n dX11_feed_27 rfl ?_
    refine v_iload_n dX11_feed_28 rfl ?_
    refine v_if (fun h10 => ?_)
    refine v_cV (mi := mX11_feed) (c0 := 0) (c1 := 0) (As := [pI a2]) (st := []) (kX11_four d (by omega) _ _ _) rfl h10 rfl okX11_four (Or.inl tw1352) tw1354 tp27 rfl (Nat.le_of_ble_eq_true rfl) dX11_feed_29 (fun r8 => []) (fun r8 => r8) (fun _ => rfl) (fun _ => rfl) (fun r8 h9 => ?_) rfl
    refine v_aload_n dX11_feed_32 rfl ?_
    refine v_iload_n dX11_feed_33 rfl ?_
    refine v_if (fun h13 => ?_)
    refine v_cV (mi := mX11_feed) (c0 := 0) (c1 := 0) (As := [pI a3]) (st := []) (kX11_four d (by omega) _ _ _) rfl h13 rfl okX11_four (Or.inl tw1352) tw1354 tp27 rfl (Nat.le_of_ble_eq_true rfl) dX11_feed_34 (fun r11 => []) (fun r11 => r11) (fun _ => rfl) (fun _ => rfl) (fun r11 h12 => ?_) rfl
    refine v_aload_n dX11_feed_37 rfl ?_
    refine v_iload dX11_feed_38 rfl ?_
    refine v_if (fun h16 => ?_)
    refine v_cV (mi := mX11_feed) (c0 := 0) (c1 := 0) (As := [pI a4]) (st := []) (kX11_four d (by omega) _ _ _) rfl h16 rfl okX11_four (Or.inl tw1352) tw1354 tp27 rfl (Nat.le_of_ble_eq_true rfl) dX11_feed_40 (fun r14 => []) (fun r14 => r14) (fun _ => rfl) (fun _ => rfl) (fun r14 h15 => ?_) rfl
    refine v_aload_n dX11_feed_43 rfl ?_
    refine v_iload dX11_feed_44 rfl ?_
    refine v_if (fun h19 => ?_)
    refine v_cV (mi := mX11_feed) (c0 := 0) (c1 := 0) (As := [pI a5]) (st := []) (kX11_four d (by omega) _ _ _) rfl h19 rfl okX11_four (Or.inl tw1352) tw1354 tp27 rfl (Nat.le_of_ble_eq_true rfl) dX11_feed_46 (fun r17 => []) (fun r17 => r17) (fun _ => rfl) (fun _ => rfl) (fun r17 h18 => ?_) rfl
    refine v_aload_n dX11_feed_49 rfl ?_
    refine v_if (fun h20 => ?_)
    refine v_get (v := pA (r17.1 a0 2)) 10 2 rfl inX11 (by decide) tw1195 dX11_feed_50 h20 rfl ?_
    refine v_iconst dX11_feed_53 (by decide) ?_
    refine v_if (fun h21 => ?_)
    refine v_iaload h21 dX11_feed_54 ?_
    exact v_ireturn dX11_feed_55 rfl rfl
