theorem dX8_rankOf_0 : decode cX8_rankOf 0 = .ok (.aload_n 0, 1) := by decide +kernel
theorem dX8_rankOf_1 : decode cX8_rankOf 1 = .ok (.iload_n 1, 1) := by decide +kernel
theorem dX8_rankOf_2 : decode cX8_rankOf 2 = .ok (.invokestatic 117, 3) := by decide +kernel
theorem dX8_rankOf_5 : decode cX8_rankOf 5 = .ok (.istore_n 2, 1) := by decide +kernel
theorem dX8_rankOf_6 : decode cX8_rankOf 6 = .ok (.iconst 0, 1) := by decide +kernel
theorem dX8_rankOf_7 : decode cX8_rankOf 7 = .ok (.istore_n 3, 1) := by decide +kernel
theorem dX8_rankOf_8 : decode cX8_rankOf 8 = .ok (.iconst 0, 1) := by decide +kernel
theorem dX8_rankOf_9 : decode cX8_rankOf 9 = .ok (.istore 4, 2) := by decide +kernel
theorem dX8_rankOf_11 : decode cX8_rankOf 11 = .ok (.iload 4, 2) := by decide +kernel
theorem dX8_rankOf_13 : decode cX8_rankOf 13 = .ok (.aload_n 0, 1) := by decide +kernel
theorem dX8_rankOf_14 : decode cX8_rankOf 14 = .ok (.getfield 28, 3) := by decide +kernel
theorem dX8_rankOf_17 : decode cX8_rankOf 17 = .ok (.getfield 59, 3) := by decide +kernel
theorem dX8_rankOf_20 : decode cX8_rankOf 20 = .ok (.if_icmp .ge 38, 3) := by decide +kernel
theorem dX8_rankOf_23 : decode cX8_rankOf 23 = .ok (.aload_n 0, 1) := by decide +kernel
theorem dX8_rankOf_24 : decode cX8_rankOf 24 = .ok (.iload 4, 2) := by decide +kernel
theorem dX8_rankOf_26 : decode cX8_rankOf 26 = .ok (.invokestatic 117, 3) := by decide +kernel
theorem dX8_rankOf_29 : decode cX8_rankOf 29 = .ok (.istore 5, 2) := by decide +kernel
theorem dX8_rankOf_31 : decode cX8_rankOf 31 = .ok (.iload 5, 2) := by decide +kernel
theorem dX8_rankOf_33 : decode cX8_rankOf 33 = .ok (.iload_n 2, 1) := by decide +kernel
theorem dX8_rankOf_34 : decode cX8_rankOf 34 = .ok (.if_icmp .gt 15, 3) := by decide +kernel
theorem dX8_rankOf_37 : decode cX8_rankOf 37 = .ok (.iload 5, 2) := by decide +kernel
theorem dX8_rankOf_39 : decode cX8_rankOf 39 = .ok (.iload_n 2, 1) := by decide +kernel
theorem dX8_rankOf_40 : decode cX8_rankOf 40 = .ok (.if_icmp .ne 12, 3) := by decide +kernel
theorem dX8_rankOf_43 : decode cX8_rankOf 43 = .ok (.iload 4, 2) := by decide +kernel
theorem dX8_rankOf_45 : decode cX8_rankOf 45 = .ok (.iload_n 1, 1) := by decide +kernel
theorem dX8_rankOf_46 : decode cX8_rankOf 46 = .ok (.if_icmp .ge 6, 3) := by decide +kernel
theorem dX8_rankOf_49 : decode cX8_rankOf 49 = .ok (.iinc 3 1, 3) := by decide +kernel
theorem dX8_rankOf_52 : decode cX8_rankOf 52 = .ok (.iinc 4 1, 3) := by decide +kernel
theorem dX8_rankOf_55 : decode cX8_rankOf 55 = .ok (.goto (-44), 3) := by decide +kernel
theorem dX8_rankOf_58 : decode cX8_rankOf 58 = .ok (.iload_n 3, 1) := by decide +kernel
theorem dX8_rankOf_59 : decode cX8_rankOf 59 = .ok (.ireturn, 1) := by decide +kernel
abbrev mX8_rankOf : MI := (yX8_rankOf, cX8_rankOf, 6, (some .int), noE)
theorem okX8_rankOf : cok mX8_rankOf 2 := ⟨tw1118, tw18, by decide, by decide, by decide, by decide +kernel⟩
def fX8_rankOf (M : Mem) (a0 a1 : Int) : Option Int :=
  (fX8_wealthOf M a0 a1).bind fun r1 => iterC (fun (rec3 : (Int × Int) → Option Int) (s4 : Int × Int) => if M.2.1 a0 = 8 then if M.2.1 (M.1 a0 0) = 7 then if s4.2 < M.1 (M.1 a0 0) 0 then ((fX8_wealthOf M a0 s4.2).bind fun r8 => if r1 < r8 then (rec3 (w32 (s4.1 + 1), w32 (s4.2 + 1))) else (if r8 = r1 then (if s4.2 < a1 then (rec3 (w32 (s4.1 + 1), w32 (s4.2 + 1))) else (rec3 (s4.1, w32 (s4.2 + 1)))) else (rec3 (s4.1, w32 (s4.2 + 1))))) else (some s4.1) else none else none) BIG (0, 0)
set_option maxRecDepth 100000 in
set_option maxHeartbeats 4000000 in
theorem kX8_rankOf (d : Nat) (hd : 3 ≤ d) (M : Mem) (a0 a1 : Int) : Ct mX8_rankOf d 0 0 [pA a0, pI a1] M (dI M) (fX8_rankOf M a0 a1) := by
  obtain ⟨d, rfl⟩ : ∃ k, d = k + 1 := ⟨d - 1, by omega⟩
  refine Ct.of 4 (fun _ _ _ => trivial) (by decide +kernel) rfl ?_
  unfold fX8_rankOf
  refine v_aload_n dX8_rankOf_0 rfl ?_
  refine v_iload_n dX8_rankOf_1 rfl ?_
  refine v_cS (mi := mX8_rankOf) (c0 := 0) (c1 := 0) (As := [pA a0, pI a1]) (st := []) (kX8_wealthOf d (by omega) _ _ _) okX8_wealthOf (Or.inl tw1093) tw1094 rfl (Nat.le_of_ble_eq_true rfl) dX8_rankOf_2 (fun r1 => [pI r1]) (fun r1 => M) (fun _ => rfl) (fun _ => rfl) (fun r1 h2 => ?_) rfl
  refine v_istore_n (ls' := [some (pA a0), some (pI a1), some (pI r1), none, none, none]) dX8_rankOf_5 (by decide) rfl ?_
  refine v_iconst dX8_rankOf_6 (by decide) ?_
  refine v_istore_n (ls' := [some (pA a0), some (pI a1), some (pI r1), some (pI 0), none, none]) dX8_rankOf_7 (by decide) rfl ?_
  refine v_iconst dX8_rankOf_8 (by decide) ?_
  refine v_istore (ls' := [some (pA a0), some (pI a1), some (pI r1), some (pI 0), some (pI 0), none]) dX8_rankOf_9 (by decide) rfl ?_
  refine v_loop (fun (s4 : Int × Int) => [some (pA a0), some (pI a1), some (pI r1), some (pI s4.1), some (pI s4.2), none]) (fun (s4 : Int × Int) => M) (s0 := (0, 0)) ?_
  intro rec3 hrec3 s4
  refine v_iload dX8_rankOf_11 rfl ?_
  refine v_aload_n dX8_rankOf_13 rfl ?_
  refine v_if (fun h5 => ?_)
  refine v_get (v := pA (M.1 a0 0)) 8 0 rfl inX9 (by decide) tw316 dX8_rankOf_14 h5 rfl ?_
  refine v_if (fun h6 => ?_)
  refine v_get (v := pI (M.1 (M.1 a0 0) 0)) 7 0 rfl inX7 (by decide) tw57 dX8_rankOf_17 h6 rfl ?_
  refine v_icmp_ge (tgt := 58) dX8_rankOf_20 (by decide) (fun c7 => ?_) (fun c7 => ?_)
  · refine v_aload_n dX8_rankOf_23 rfl ?_
    refine v_iload dX8_rankOf_24 rfl ?_
    refine v_cS (mi := mX8_rankOf) (c0 := 0) (c1 := 0) (As := [pA a0, pI s4.2]) (st := []) (kX8_wealthOf d (by omega) _ _ _) okX8_wealthOf (Or.inl tw1093) tw1094 rfl (Nat.le_of_ble_eq_true rfl) dX8_rankOf_26 (fun r8 => [pI r8]) (fun r8 => M) (fun _ => rfl) (fun _ => rfl) (fun r8 h9 => ?_) rfl
    refine v_istore (ls' := [some (pA a0), some (pI a1), some (pI r1), some (pI s4.1), some (pI s4.2), some (pI r8)]) dX8_rankOf_29 (by decide) rfl ?_
    refine v_iload dX8_rankOf_31 rfl ?_
    refine v_iload_n dX8_rankOf_33 rfl ?_
    refine v_icmp_gt (tgt := 49) dX8_rankOf_34 (by decide) (fun c10 => ?_) (fun c10 => ?_)
    · refine v_iinc (ls' := [some (pA a0), some (pI a1), some (pI r1), some (pI (w32 (s4.1 + 1))), some (pI s4.2), some (pI r8)]) dX8_rankOf_49 (by decide) rfl rfl ?_
      refine v_iinc (ls' := [some (pA a0), some (pI a1), some (pI r1), some (pI (w32 (s4.1 + 1))), some (pI (w32 (s4.2 + 1))), some (pI r8)]) dX8_rankOf_52 (by decide) rfl rfl ?_
      refine v_goto (tgt := 11) dX8_rankOf_55 (by decide) ?_
      exact v_drop [some (pA a0), some (pI a1), some (pI r1), some (pI (w32 (s4.1 + 1))), some (pI (w32 (s4.2 + 1))), none] (ls_s (ls_s (ls_s (ls_s (ls_s (ls_n ls_e)))))) (hrec3 (w32 (s4.1 + 1), w32 (s4.2 + 1)))
    · refine v_iload dX8_rankOf_37 rfl ?_
      refine v_iload_n dX8_rankOf_39 rfl ?_
      refine v_icmp_ne (tgt := 52) dX8_rankOf_40 (by decide) (fun c11 => ?_) (fun c11 => ?_)
      · refine v_iload dX8_rankOf_43 rfl ?_
        refine v_iload_n dX8_rankOf_45 rfl ?_
        refine v_icmp_ge (tgt := 52) dX8_rankOf_46 (by decide) (fun c12 => ?_) (fun c12 => ?_)
        · refine v_iinc (ls' := [some (pA a0), some (pI a1), some (pI r1), some (pI (w32 (s4.1 + 1))), some (pI s4.2), some (pI r8)]) dX8_rankOf_49 (by decide) rfl rfl ?_
          refine v_iinc (ls' := [some (pA a0), some (pI a1), some (pI r1), some (pI (w32 (s4.1 + 1))), some (pI (w32 (s4.2 + 1))), some (pI r8)]) dX8_rankOf_52 (by decide) rfl rfl ?_
          refine v_goto (tgt := 11) dX8_rankOf_55 (by decide) ?_
          exact v_drop [some (pA a0), some (pI a1), some (pI r1), some (pI (w32 (s4.1 + 1))), some (pI (w32 (s4.2 + 1))), none] (ls_s (ls_s (ls_s (ls_s (ls_s (ls_n ls_e)))))) (hrec3 (w32 (s4.1 + 1), w32 (s4.2 + 1)))
        · refine v_iinc (ls' := [some (pA a0), some (pI a1), some (pI r1), some (pI s4.1), some (pI (w32 (s4.2 + 1))), some (pI r8)]) dX8_rankOf_52 (by decide) rfl rfl ?_
          refine v_goto (tgt := 11) dX8_rankOf_55 (by decide) ?_
          exact v_drop [some (pA a0), some (pI a1), some (pI r1), some (pI s4.1), some (pI (w32 (s4.2 + 1))), none] (ls_s (ls_s (ls_s (ls_s (ls_s (ls_n ls_e)))))) (hrec3 (s4.1, w32 (s4.2 + 1)))
      · refine v_iinc (ls' := [some (pA a0), some (pI a1), some (pI r1), some (pI s4.1), some (pI (w32 (s4.2 + 1))), some (pI r8)]) dX8_rankOf_52 (by decide) rfl rfl ?_
        refine v_goto (tgt := 11) dX8_rankOf_55 (by decide) ?_
        exact v_drop [some (pA a0), some (pI a1), some (pI r1), some (pI s4.1), some (pI (w32 (s4.2 + 1))), none] (ls_s (ls_s (ls_s (ls_s (ls_s (ls_n ls_e)))))) (hrec3 (s4.1, w32 (s4.2 + 1)))
  · refine v_iload_n dX8_rankOf_58 rfl ?_
    exact v_ireturn dX8_rankOf_59 rfl rfl
theorem dX8_ranked_0 : decode cX8_ranked 0 = .ok (.iconst 0, 1) := by decide +kernel
theorem dX8_ranked_1 : decode cX8_ranked 1 = .ok (.istore_n 2, 1) := by decide +kernel
theorem dX8_ranked_2 : decode cX8_ranked 2 = .ok (.iload_n 2, 1) := by decide +kernel
theorem dX8_ranked_3 : decode cX8_ranked 3 = .ok (.aload_n 0, 1) := by decide +kernel
theorem dX8_ranked_4 : decode cX8_ranked 4 = .ok (.getfield 28, 3) := by decide +kernel
theorem dX8_ranked_7 : decode cX8_ranked 7 = .ok (.getfield 59, 3) := by decide +kernel
theorem dX8_ranked_10 : decode cX8_ranked 10 = .ok (.if_icmp .ge 20, 3) := by decide +kernel
theorem dX8_ranked_13 : decode cX8_ranked 13 = .ok (.aload_n 0, 1) := by decide +kernel
theorem dX8_ranked_14 : decode cX8_ranked 14 = .ok (.iload_n 2, 1) := by decide +kernel
theorem dX8_ranked_15 : decode cX8_ranked 15 = .ok (.invokestatic 159, 3) := by decide +kernel
theorem dX8_ranked_18 : decode cX8_ranked 18 = .ok (.iload_n 1, 1) := by decide +kernel
theorem dX8_ranked_19 : decode cX8_ranked 19 = .ok (.if_icmp .ne 5, 3) := by decide +kernel
theorem dX8_ranked_22 : decode cX8_ranked 22 = .ok (.iload_n 2, 1) := by decide +kernel
theorem dX8_ranked_23 : decode cX8_ranked 23 = .ok (.ireturn, 1) := by decide +kernel
theorem dX8_ranked_24 : decode cX8_ranked 24 = .ok (.iinc 2 1, 3) := by decide +kernel
theorem dX8_ranked_27 : decode cX8_ranked 27 = .ok (.goto (-25), 3) := by decide +kernel
theorem dX8_ranked_30 : decode cX8_ranked 30 = .ok (.iconst (-1), 1) := by decide +kernel
theorem dX8_ranked_31 : decode cX8_ranked 31 = .ok (.ireturn, 1) := by decide +kernel
abbrev mX8_ranked : MI := (yX8_ranked, cX8_ranked, 3, (some .int), noE)
theorem okX8_ranked : cok mX8_ranked 2 := ⟨tw1115, tw18, by decide, by decide, by decide, by decide +kernel⟩
def fX8_ranked (M : Mem) (a0 a1 : Int) : Option Int :=
  iterC (fun (rec1 : Int → Option Int) (s2 : Int) => if M.2.1 a0 = 8 then if M.2.1 (M.1 a0 0) = 7 then if s2 < M.1 (M.1 a0 0) 0 then ((fX8_rankOf M a0 s2).bind fun r6 => if r6 = a1 then (some s2) else (rec1 (w32 (s2 + 1)))) else (some (-1)) else none else none) BIG 0
set_option maxRecDepth 100000 in
set_option maxHeartbeats 4000000 in
theorem kX8_ranked (d : Nat) (hd : 4 ≤ d) (M : Mem) (a0 a1 : Int) : Ct mX8_ranked d 0 0 [pA a0, pI a1] M (dI M) (fX8_ranked M a0 a1) := by
  obtain ⟨d, rfl⟩ : ∃ k, d = k + 1 := ⟨d - 1, by omega⟩
  refine Ct.of 1 (fun _ _ _ => trivial) (by decide +kernel) rfl ?_
  unfold fX8_ranked
  refine v_iconst dX8_ranked_0 (by decide) ?_
  refine v_istore_n (ls' := [some (pA a0), some (pI a1), some (pI 0)]) dX8_ranked_1 (by decide) rfl ?_
  refine v_loop (fun (s2 : Int) => [some (pA a0), some (pI a1), some (pI s2)]) (fun (s2 : Int) => M) (s0 := 0) ?_
  intro rec1 hrec1 s2
  refine v_iload_n dX8_ranked_2 rfl ?_
  refine v_aload_n dX8_ranked_3 rfl ?_
  refine v_if (fun h3 => ?_)
  refine v_get (v := pA (M.1 a0 0)) 8 0 rfl inX9 (by decide) tw316 dX8_ranked_4 h3 rfl ?_
  refine v_if (fun h4 => ?_)
  refine v_get (v := pI (M.1 (M.1 a0 0) 0)) 7 0 rfl inX7 (by decide) tw57 dX8_ranked_7 h4 rfl ?_
  refine v_icmp_ge (tgt := 30) dX8_ranked_10 (by decide) (fun c5 => ?_) (fun c5 => ?_)
  · refine v_aload_n dX8_ranked_13 rfl ?_
    refine v_iload_n dX8_ranked_14 rfl ?_
    refine v_cS (mi := mX8_ranked) (c0 := 0) (c1 := 0) (As := [pA a0, pI s2]) (st := []) (kX8_rankOf d (by omega) _ _ _) okX8_rankOf (Or.inl tw1116) tw1117 rfl (Nat.le_of_ble_eq_true rfl) dX8_ranked_15 (fun r6 => [pI r6]) (fun r6 => M) (fun _ => rfl) (fun _ => rfl) (fun r6 h7 => ?_) rfl
    refine v_iload_n dX8_ranked_18 rfl ?_
    refine v_icmp_ne (tgt := 24) dX8_ranked_19 (by decide) (fun c8 => ?_) (fun c8 => ?_)
    · refine v_iload_n dX8_ranked_22 rfl ?_
      exact v_ireturn dX8_ranked_23 rfl rfl
    · refine v_iinc (ls' := [some (pA a0), some (pI a1), some (pI (w32 (s2 + 1)))]) dX8_ranked_24 (by decide) rfl rfl ?_
      refine v_goto (tgt := 2) dX8_ranked_27 (by decide) ?_
      exact hrec1 (w32 (s2 + 1))
  · refine v_iconst dX8_ranked_30 (by decide) ?_
    exact v_ireturn dX8_ranked_31 rfl rfl
theorem dX8_richOf_0 : decode cX8_richOf 0 = .ok (.iload_n 1, 1) := by decide +kernel
theorem dX8_richOf_1 : decode cX8_richOf 1 = .ok (.iconst 1, 1) := by decide +kernel
theorem dX8_richOf_2 : decode cX8_richOf 2 = .ok (.if_icmp .ne 26, 3) := by decide +kernel
theorem dX8_richOf_5 : decode cX8_richOf 5 = .ok (.aload_n 0, 1) := by decide +kernel
theorem dX8_richOf_6 : decode cX8_richOf 6 = .ok (.getfield 28, 3) := by decide +kernel
theorem dX8_richOf_9 : decode cX8_richOf 9 = .ok (.iload_n 2, 1) := by decide +kernel
theorem dX8_richOf_10 : decode cX8_richOf 10 = .ok (.invokevirtual 42, 3) := by decide +kernel
theorem dX8_richOf_13 : decode cX8_richOf 13 = .ok (.ifCond .eq 11, 3) := by decide +kernel
theorem dX8_richOf_16 : decode cX8_richOf 16 = .ok (.aload_n 0, 1) := by decide +kernel
theorem dX8_richOf_17 : decode cX8_richOf 17 = .ok (.iload_n 2, 1) := by decide +kernel
theorem dX8_richOf_18 : decode cX8_richOf 18 = .ok (.invokestatic 114, 3) := by decide +kernel
theorem dX8_richOf_21 : decode cX8_richOf 21 = .ok (.goto 6, 3) := by decide +kernel
theorem dX8_richOf_24 : decode cX8_richOf 24 = .ok (.sipush (-1000), 3) := by decide +kernel
theorem dX8_richOf_27 : decode cX8_richOf 27 = .ok (.ireturn, 1) := by decide +kernel
theorem dX8_richOf_28 : decode cX8_richOf 28 = .ok (.aload_n 0, 1) := by decide +kernel
theorem dX8_richOf_29 : decode cX8_richOf 29 = .ok (.getfield 28, 3) := by decide +kernel
theorem dX8_richOf_32 : decode cX8_richOf 32 = .ok (.iload_n 2, 1) := by decide +kernel
theorem dX8_richOf_33 : decode cX8_richOf 33 = .ok (.invokevirtual 32, 3) := by decide +kernel
theorem dX8_richOf_36 : decode cX8_richOf 36 = .ok (.ifCond .ne 7, 3) := by decide +kernel
theorem dX8_richOf_39 : decode cX8_richOf 39 = .ok (.sipush (-1000), 3) := by decide +kernel
theorem dX8_richOf_42 : decode cX8_richOf 42 = .ok (.ireturn, 1) := by decide +kernel
theorem dX8_richOf_43 : decode cX8_richOf 43 = .ok (.iload_n 1, 1) := by decide +kernel
theorem dX8_richOf_44 : decode cX8_richOf 44 = .ok (.iconst 2, 1) := by decide +kernel
theorem dX8_richOf_45 : decode cX8_richOf 45 = .ok (.if_icmp .ne 11, 3) := by decide +kernel
theorem dX8_richOf_48 : decode cX8_richOf 48 = .ok (.aload_n 0, 1) := by decide +kernel
theorem dX8_richOf_49 : decode cX8_richOf 49 = .ok (.iload_n 2, 1) := by decide +kernel
theorem dX8_richOf_50 : decode cX8_richOf 50 = .ok (.invokestatic 117, 3) := by decide +kernel
theorem dX8_richOf_53 : decode cX8_richOf 53 = .ok (.goto 8, 3) := by decide +kernel
theorem dX8_richOf_56 : decode cX8_richOf 56 = .ok (.aload_n 0, 1) := by decide +kernel
theorem dX8_richOf_57 : decode cX8_richOf 57 = .ok (.iload_n 2, 1) := by decide +kernel
theorem dX8_richOf_58 : decode cX8_richOf 58 = .ok (.invokestatic 120, 3) := by decide +kernel
theorem dX8_richOf_61 : decode cX8_richOf 61 = .ok (.ireturn, 1) := by decide +kernel
abbrev mX8_richOf : MI := (yX8_richOf, cX8_richOf, 3, (some .int), noE)
theorem okX8_richOf : cok mX8_richOf 3 := ⟨tw1108, tw18, by decide, by decide, by decide, by decide +kernel⟩
def fX8_richOf (M : Mem) (a0 a1 a2 : Int) : Option Int :=
  if a1 = 1 then (if M.2.1 a0 = 8 then if M.2.1 (M.1 a0 0) = 7 then (fX7_isThief M (M.1 a0 0) a2).bind fun r3 => if r3 = 0 then (some (-1000)) else ((fX8_can M a0 a2).bind fun r7 => some r7) else none else none) else (if M.2.1 a0 = 8 then if M.2.1 (M.1 a0 0) = 7 then (fX7_isHouse M (M.1 a0 0) a2).bind fun r10 => if r10 = 0 then (some (-1000)) else (if a1 = 2 then ((fX8_wealthOf M a0 a2).bind fun r15 => some r15) else ((fX8_ranked M a0 a2).bind fun r17 => some r17)) else none else none)
set_option maxRecDepth 100000 in
set_option maxHeartbeats 4000000 in
theorem kX8_richOf (d : Nat) (hd : 5 ≤ d) (M : Mem) (a0 a1 a2 : Int) : Ct mX8_richOf d 0 0 [pA a0, pI a1, pI a2] M (dI M) (fX8_richOf M a0 a1 a2) := by
  obtain ⟨d, rfl⟩ : ∃ k, d = k + 1 := ⟨d - 1, by omega⟩
  refine Ct.of 0 (fun _ _ _ => trivial) (by decide +kernel) rfl ?_
  unfold fX8_richOf
  refine v_iload_n dX8_richOf_0 rfl ?_
  refine v_iconst dX8_richOf_1 (by decide) ?_
  refine v_icmp_ne (tgt := 28) dX8_richOf_2 (by decide) (fun c1 => ?_) (fun c1 => ?_)
  · refine v_aload_n dX8_richOf_5 rfl ?_
    refine v_if (fun h2 => ?_)
    refine v_get (v := pA (M.1 a0 0)) 8 0 rfl inX9 (by decide) tw316 dX8_richOf_6 h2 rfl ?_
    refine v_iload_n dX8_richOf_9 rfl ?_
    refine v_if (fun h5 => ?_)
    refine v_cV (mi := mX8_richOf) (c0 := 0) (c1 := 0) (As := [pI a2]) (st := []) (kX7_isThief d (by omega) _ _ _) rfl h5 rfl okX7_isThief (Or.inl tw844) tw692 tw693 rfl (Nat.le_of_ble_eq_true rfl) dX8_richOf_10 (fun r3 => [pI r3]) (fun r3 => M) (fun _ => rfl) (fun _ => rfl) (fun r3 h4 => ?_) rfl
    refine v_if_eq (tgt := 24) dX8_richOf_13 (by decide) (fun c6 => ?_) (fun c6 => ?_)
    · refine v_sipush dX8_richOf_24 (by decide) ?_
      exact v_ireturn dX8_richOf_27 rfl rfl
    · refine v_aload_n dX8_richOf_16 rfl ?_
      refine v_iload_n dX8_richOf_17 rfl ?_
      refine v_cS (mi := mX8_richOf) (c0 := 0) (c1 := 0) (As := [pA a0, pI a2]) (st := []) (kX8_can d (by omega) _ _ _) okX8_can (Or.inl tw1109) tw1110 rfl (Nat.le_of_ble_eq_true rfl) dX8_richOf_18 (fun r7 => [pI r7]) (fun r7 => M) (fun _ => rfl) (fun _ => rfl) (fun r7 h8 => ?_) rfl
      refine v_goto (tgt := 27) dX8_richOf_21 (by decide) ?_
      exact v_ireturn dX8_richOf_27 rfl rfl
  · refine v_aload_n dX8_richOf_28 rfl ?_
    refine v_if (fun h9 => ?_)
    refine v_get (v := pA (M.1 a0 0)) 8 0 rfl inX9 (by decide) tw316 dX8_richOf_29 h9 rfl ?_
    refine v_iload_n dX8_richOf_32 rfl ?_
    refine v_if (fun h12 => ?_)
    refine v_cV (mi := mX8_richOf) (c0 := 0) (c1 := 0) (As := [pI a2]) (st := []) (kX7_isHouse d (by omega) _ _ _) rfl h12 rfl okX7_isHouse (Or.inl tw836) tw685 tw686 rfl (Nat.le_of_ble_eq_true rfl) dX8_richOf_33 (fun r10 => [pI r10]) (fun r10 => M) (fun _ => rfl) (fun _ => rfl) (fun r10 h11 => ?_) rfl
    refine v_if_ne (tgt := 43) dX8_richOf_36 (by decide) (fun c13 => ?_) (fun c13 => ?_)
    · refine v_sipush dX8_richOf_39 (by decide) ?_
      exact v_ireturn dX8_richOf_42 rfl rfl
    · refine v_iload_n dX8_richOf_43 rfl ?_
      refine v_iconst dX8_richOf_44 (by decide) ?_
      refine v_icmp_ne (tgt := 56) dX8_richOf_45 (by decide) (fun c14 => ?_) (fun c14 => ?_)
      · refine v_aload_n dX8_richOf_48 rfl ?_
        refine v_iload_n dX8_richOf_49 rfl ?_
        refine v_cS (mi := mX8_richOf) (c0 := 0) (c1 := 0) (As := [pA a0, pI a2]) (st := []) (kX8_wealthOf d (by omega) _ _ _) okX8_wealthOf (Or.inl tw1093) tw1094 rfl (Nat.le_of_ble_eq_true rfl) dX8_richOf_50 (fun r15 => [pI r15]) (fun r15 => M) (fun _ => rfl) (fun _ => rfl) (fun r15 h16 => ?_) rfl
        refine v_goto (tgt := 61) dX8_richOf_53 (by decide) ?_
        exact v_ireturn dX8_richOf_61 rfl rfl
      · refine v_aload_n dX8_richOf_56 rfl ?_
        refine v_iload_n dX8_richOf_57 rfl ?_
        refine v_cS (mi := mX8_richOf) (c0 := 0) (c1 := 0) (As := [pA a0, pI a2]) (st := []) (kX8_ranked d (by omega) _ _ _) okX8_ranked (Or.inl tw1113) tw1114 rfl (Nat.le_of_ble_eq_true rfl) dX8_richOf_58 (fun r17 => [pI r17]) (fun r17 => M) (fun _ => rfl) (fun _ => rfl) (fun r17 h18 => ?_) rfl
        exact v_ireturn dX8_richOf_61 rfl rfl
theorem dX8_rich_0 : decode cX8_rich 0 = .ok (.iload_n 1, 1) := by decide +kernel
theorem dX8_rich_1 : decode cX8_rich 1 = .ok (.tableswitch 62 0 4 #[35, 40, 45, 51, 57], 35) := by decide +kernel
theorem dX8_rich_36 : decode cX8_rich 36 = .ok (.aload_n 0, 1) := by decide +kernel
theorem dX8_rich_37 : decode cX8_rich 37 = .ok (.invokestatic 98, 3) := by decide +kernel
theorem dX8_rich_40 : decode cX8_rich 40 = .ok (.ireturn, 1) := by decide +kernel
theorem dX8_rich_41 : decode cX8_rich 41 = .ok (.aload_n 0, 1) := by decide +kernel
theorem dX8_rich_42 : decode cX8_rich 42 = .ok (.invokestatic 101, 3) := by decide +kernel
theorem dX8_rich_45 : decode cX8_rich 45 = .ok (.ireturn, 1) := by decide +kernel
theorem dX8_rich_46 : decode cX8_rich 46 = .ok (.aload_n 0, 1) := by decide +kernel
theorem dX8_rich_47 : decode cX8_rich 47 = .ok (.iconst 0, 1) := by decide +kernel
theorem dX8_rich_48 : decode cX8_rich 48 = .ok (.invokestatic 104, 3) := by decide +kernel
theorem dX8_rich_51 : decode cX8_rich 51 = .ok (.ireturn, 1) := by decide +kernel
theorem dX8_rich_52 : decode cX8_rich 52 = .ok (.aload_n 0, 1) := by decide +kernel
theorem dX8_rich_53 : decode cX8_rich 53 = .ok (.iconst 1, 1) := by decide +kernel
theorem dX8_rich_54 : decode cX8_rich 54 = .ok (.invokestatic 104, 3) := by decide +kernel
theorem dX8_rich_57 : decode cX8_rich 57 = .ok (.ireturn, 1) := by decide +kernel
theorem dX8_rich_58 : decode cX8_rich 58 = .ok (.aload_n 0, 1) := by decide +kernel
theorem dX8_rich_59 : decode cX8_rich 59 = .ok (.invokestatic 108, 3) := by decide +kernel
theorem dX8_rich_62 : decode cX8_rich 62 = .ok (.ireturn, 1) := by decide +kernel
theorem dX8_rich_63 : decode cX8_rich 63 = .ok (.iload_n 1, 1) := by decide +kernel
theorem dX8_rich_64 : decode cX8_rich 64 = .ok (.bipush 10, 2) := by decide +kernel
theorem dX8_rich_66 : decode cX8_rich 66 = .ok (.if_icmp .lt 24, 3) := by decide +kernel
theorem dX8_rich_69 : decode cX8_rich 69 = .ok (.iload_n 1, 1) := by decide +kernel
theorem dX8_rich_70 : decode cX8_rich 70 = .ok (.bipush 40, 2) := by decide +kernel
theorem dX8_rich_72 : decode cX8_rich 72 = .ok (.if_icmp .ge 18, 3) := by decide +kernel
theorem dX8_rich_75 : decode cX8_rich 75 = .ok (.aload_n 0, 1) := by decide +kernel
theorem dX8_rich_76 : decode cX8_rich 76 = .ok (.iload_n 1, 1) := by decide +kernel
theorem dX8_rich_77 : decode cX8_rich 77 = .ok (.bipush 10, 2) := by decide +kernel
theorem dX8_rich_79 : decode cX8_rich 79 = .ok (.idiv, 1) := by decide +kernel
theorem dX8_rich_80 : decode cX8_rich 80 = .ok (.iload_n 1, 1) := by decide +kernel
theorem dX8_rich_81 : decode cX8_rich 81 = .ok (.bipush 10, 2) := by decide +kernel
theorem dX8_rich_83 : decode cX8_rich 83 = .ok (.irem, 1) := by decide +kernel
theorem dX8_rich_84 : decode cX8_rich 84 = .ok (.invokestatic 111, 3) := by decide +kernel
theorem dX8_rich_87 : decode cX8_rich 87 = .ok (.goto 6, 3) := by decide +kernel
theorem dX8_rich_90 : decode cX8_rich 90 = .ok (.sipush (-1000), 3) := by decide +kernel
theorem dX8_rich_93 : decode cX8_rich 93 = .ok (.ireturn, 1) := by decide +kernel
abbrev mX8_rich : MI := (yX8_rich, cX8_rich, 2, (some .int), noE)
theorem okX8_rich : cok mX8_rich 2 := ⟨tw1077, tw18, by decide, by decide, by decide, by decide +kernel⟩
def fX8_rich (M : Mem) (a0 a1 : Int) : Option Int :=
  if a1 = 0 then ((fX8_settle M a0).bind fun r2 => some r2) else if a1 = 1 then ((fX8_gap M a0).bind fun r5 => some r5) else if a1 = 2 then ((fX8_unlike M a0 0).bind fun r8 => some r8) else if a1 = 3 then ((fX8_unlike M a0 1).bind fun r11 => some r11) else if a1 = 4 then ((fX8_robbed M a0).bind fun r14 => some r14) else if a1 < 10 then (some (-1000)) else (if a1 < 40 then ((fX8_richOf M a0 (w32 (a1.tdiv 10)) (a1.tmod 10)).bind fun r18 => some r18) else (some (-1000)))
set_option maxRecDepth 100000 in
set_option maxHeartbeats 4000000 in
theorem kX8_rich (d : Nat) (hd : 6 ≤ d) (M : Mem) (a0 a1 : Int) : Ct mX8_rich d 0 0 [pA a0, pI a1] M (dI M) (fX8_rich M a0 a1) := by
  obtain ⟨d, rfl⟩ : ∃ k, d = k + 1 := ⟨d - 1, by omega⟩
  refine Ct.of 0 (fun _ _ _ => trivial) (by decide +kernel) rfl ?_
  unfold fX8_rich
  refine v_iload_n dX8_rich_0 rfl ?_
  refine v_ite (fun h1 => ?_) (fun h1 => ?_)
  · refine v_tabIn (off := 35) (tgt := 36) dX8_rich_1 h1 (by decide) ?_
    refine v_aload_n dX8_rich_36 rfl ?_
    refine v_cS (mi := mX8_rich) (c0 := 0) (c1 := 0) (As := [pA a0]) (st := []) (kX8_settle d (by omega) _ _) okX8_settle (Or.inl tw1078) tw1079 rfl (Nat.le_of_ble_eq_true rfl) dX8_rich_37 (fun r2 => [pI r2]) (fun r2 => M) (fun _ => rfl) (fun _ => rfl) (fun r2 h3 => ?_) rfl
    exact v_ireturn dX8_rich_40 rfl rfl
  · refine v_ite (fun h4 => ?_) (fun h4 => ?_)
    · refine v_tabIn (off := 40) (tgt := 41) dX8_rich_1 h4 (by decide) ?_
      refine v_aload_n dX8_rich_41 rfl ?_
      refine v_cS (mi := mX8_rich) (c0 := 0) (c1 := 0) (As := [pA a0]) (st := []) (kX8_gap d (by omega) _ _) okX8_gap (Or.inl tw1090) tw1091 rfl (Nat.le_of_ble_eq_true rfl) dX8_rich_42 (fun r5 => [pI r5]) (fun r5 => M) (fun _ => rfl) (fun _ => rfl) (fun r5 h6 => ?_) rfl
      exact v_ireturn dX8_rich_45 rfl rfl
    · refine v_ite (fun h7 => ?_) (fun h7 => ?_)
      · refine v_tabIn (off := 45) (tgt := 46) dX8_rich_1 h7 (by decide) ?_
        refine v_aload_n dX8_rich_46 rfl ?_
        refine v_iconst dX8_rich_47 (by decide) ?_
        refine v_cS (mi := mX8_rich) (c0 := 0) (c1 := 0) (As := [pA a0, pI 0]) (st := []) (kX8_unlike d (by omega) _ _ _) okX8_unlike (Or.inl tw1098) tw1099 rfl (Nat.le_of_ble_eq_true rfl) dX8_rich_48 (fun r8 => [pI r8]) (fun r8 => M) (fun _ => rfl) (fun _ => rfl) (fun r8 h9 => ?_) rfl
        exact v_ireturn dX8_rich_51 rfl rfl
      · refine v_ite (fun h10 => ?_) (fun h10 => ?_)
        · refine v_tabIn (off := 51) (tgt := 52) dX8_rich_1 h10 (by decide) ?_
          refine v_aload_n dX8_rich_52 rfl ?_
          refine v_iconst dX8_rich_53 (by decide) ?_
          refine v_cS (mi := mX8_rich) (c0 := 0) (c1 := 0) (As := [pA a0, pI 1]) (st := []) (kX8_unlike d (by omega) _ _ _) okX8_unlike (Or.inl tw1098) tw1099 rfl (Nat.le_of_ble_eq_true rfl) dX8_rich_54 (fun r11 => [pI r11]) (fun r11 => M) (fun _ => rfl) (fun _ => rfl) (fun r11 h12 => ?_) rfl
          exact v_ireturn dX8_rich_57 rfl rfl
        · refine v_ite (fun h13 => ?_) (fun h13 => ?_)
          · refine v_tabIn (off := 57) (tgt := 58) dX8_rich_1 h13 (by decide) ?_
            refine v_aload_n dX8_rich_58 rfl ?_
            refine v_cS (mi := mX8_rich) (c0 := 0) (c1 := 0) (As := [pA a0]) (st := []) (kX8_robbed d (by omega) _ _) okX8_robbed (Or.inl tw1103) tw1104 rfl (Nat.le_of_ble_eq_true rfl) dX8_rich_59 (fun r14 => [pI r14]) (fun r14 => M) (fun _ => rfl) (fun _ => rfl) (fun r14 h15 => ?_) rfl
            exact v_ireturn dX8_rich_62 rfl rfl
          · refine v_tabOut (tgt := 63) dX8_rich_1 (by omega) (by decide) ?_
            refine v_iload_n dX8_rich_63 rfl ?_
            refine v_bipush dX8_rich_64 (by decide) ?_
            refine v_icmp_lt (tgt := 90) dX8_rich_66 (by decide) (fun c16 => ?_) (fun c16 => ?_)
            · refine v_sipush dX8_rich_90 (by decide) ?_
              exact v_ireturn dX8_rich_93 rfl rfl
            · refine v_iload_n dX8_rich_69 rfl ?_
              refine v_bipush dX8_rich_70 (by decide) ?_
              refine v_icmp_ge (tgt := 90) dX8_rich_72 (by decide) (fun c17 => ?_) (fun c17 => ?_)
              · refine v_aload_n dX8_rich_75 rfl ?_
                refine v_iload_n dX8_rich_76 rfl ?_
                refine v_bipush dX8_rich_77 (by decide) ?_
                refine v_idiv (by decide) dX8_rich_79 ?_
                refine v_iload_n dX8_rich_80 rfl ?_
                refine v_bipush dX8_rich_81 (by decide) ?_
                refine v_irem (by decide) dX8_rich_83 ?_
                refine v_cS (mi := mX8_rich) (c0 := 0) (c1 := 0) (As := [pA a0, pI (w32 (a1.tdiv 10)), pI (a1.tmod 10)]) (st := []) (kX8_richOf d (by omega) _ _ _ _) okX8_richOf (Or.inl tw1106) tw1107 rfl (Nat.le_of_ble_eq_true rfl) dX8_rich_84 (fun r18 => [pI r18]) (fun r18 => M) (fun _ => rfl) (fun _ => rfl) (fun r18 h19 => ?_) rfl
                refine v_goto (tgt := 93) dX8_rich_87 (by decide) ?_
                exact v_ireturn dX8_rich_93 rfl rfl
              · refine v_sipush dX8_rich_90 (by decide) ?_
                exact v_ireturn dX8_rich_93 rfl rfl
theorem dX5_init_0 : decode cX5_init 0 = .ok (.aload_n 0, 1) := by decide +kernel
theorem dX5_init_1 : decode cX5_init 1 = .ok (.invokespecial 3, 3) := by decide +kernel
theorem dX5_init_4 : decode cX5_init 4 = .ok (.aload_n 0, 1) := by decide +kernel
theorem dX5_init_5 : decode cX5_init 5 = .ok (.bipush 109, 2) := by decide +kernel
theorem dX5_init_7 : decode cX5_init 7 = .ok (.newarray .int, 2) := by decide +kernel
theorem dX5_init_9 : decode cX5_init 9 = .ok (.putfield 11, 3) := by decide +kernel
theorem dX5_init_12 : decode cX5_init 12 = .ok (.aload_n 0, 1) := by decide +kernel
theorem dX5_init_13 : decode cX5_init 13 = .ok (.bipush 109, 2) := by decide +kernel
theorem dX5_init_15 : decode cX5_init 15 = .ok (.newarray .int, 2) := by decide +kernel
theorem dX5_init_17 : decode cX5_init 17 = .ok (.putfield 15, 3) := by decide +kernel
theorem dX5_init_20 : decode cX5_init 20 = .ok (.return_, 1) := by decide +kernel
abbrev mX5_init : MI := (yX5_init, cX5_init, 1, none, noE)
theorem okX5_init : cok mX5_init 0 := ⟨tw388, tw9, by decide, by decide, by decide, by decide +kernel⟩
def fX5_init (M : Mem) (a0 : Int) : Option Mem :=
  if (0 : Int) ≤ a0 then bM (mnew M 12 109) fun M2 => if M2.2.1 a0 = 5 then if (-1 : Int) ≤ (M.2.2.2 : Int) then bM (mst M2 a0 0 (M.2.2.2 : Int)) fun M6 => bM (mnew M6 12 109) fun M8 => if M8.2.1 a0 = 5 then if (-1 : Int) ≤ (M6.2.2.2 : Int) then bM (mst M8 a0 1 (M6.2.2.2 : Int)) fun M12 => some M12 else none else none else none else none else none
set_option maxRecDepth 100000 in
set_option maxHeartbeats 4000000 in
theorem kX5_init (d : Nat) (hd : 1 ≤ d) (M : Mem) (a0 : Int) : Ct mX5_init d 2 218 [pA a0] M dV (fX5_init M a0) := by
  obtain ⟨d, rfl⟩ : ∃ k, d = k + 1 := ⟨d - 1, by omega⟩
  refine Ct.of 0 (fun _ _ _ => trivial) (by decide +kernel) rfl ?_
  unfold fX5_init
  refine v_aload_n dX5_init_0 rfl ?_
  refine v_if (fun h1 => ?_)
  refine v_objInit (mi := mX5_init) h1 tw389 tw26 tw27 (Nat.le_of_ble_eq_true rfl) dX5_init_1 ?_
  refine v_aload_n dX5_init_4 rfl ?_
  refine v_bipush dX5_init_5 (by decide) ?_
  refine v_newarray (t := .int) (n := 109) 12 (by decide) (by decide) tw121 dX5_init_7 ?_
  refine v_bM (fun M2 e3 => ?_)
  refine v_if (fun h4 => ?_)
  refine v_if (fun h5 => ?_)
  refine v_put (x := (M.2.2.2 : Int)) 5 0 rfl inX5 (by decide) tw390 (Or.inl rfl) rfl dX5_init_9 h4 rfl (fun _ => h5) ?_
  refine v_bM (fun M6 e7 => ?_)
  refine v_aload_n dX5_init_12 rfl ?_
  refine v_bipush dX5_init_13 (by decide) ?_
  refine v_newarray (t := .int) (n := 109) 12 (by decide) (by decide) tw121 dX5_init_15 ?_
  refine v_bM (fun M8 e9 => ?_)
  refine v_if (fun h10 => ?_)
  refine v_if (fun h11 => ?_)
  refine v_put (x := (M6.2.2.2 : Int)) 5 1 rfl inX5 (by decide) tw391 (Or.inl rfl) rfl dX5_init_17 h10 rfl (fun _ => h11) ?_
  refine v_bM (fun M12 e13 => ?_)
  exact v_return dX5_init_20 rfl rfl
theorem dX5_isAsked_0 : decode cX5_isAsked 0 = .ok (.iload_n 1, 1) := by decide +kernel
theorem dX5_isAsked_1 : decode cX5_isAsked 1 = .ok (.ifCond .lt 8, 3) := by decide +kernel
theorem dX5_isAsked_4 : decode cX5_isAsked 4 = .ok (.iload_n 1, 1) := by decide +kernel
theorem dX5_isAsked_5 : decode cX5_isAsked 5 = .ok (.iconst 2, 1) := by decide +kernel
theorem dX5_isAsked_6 : decode cX5_isAsked 6 = .ok (.if_icmp .le 22, 3) := by decide +kernel
theorem dX5_isAsked_9 : decode cX5_isAsked 9 = .ok (.iload_n 1, 1) := by decide +kernel
theorem dX5_isAsked_10 : decode cX5_isAsked 10 = .ok (.bipush 10, 2) := by decide +kernel
theorem dX5_isAsked_12 : decode cX5_isAsked 12 = .ok (.if_icmp .lt 20, 3) := by decide +kernel
theorem dX5_isAsked_15 : decode cX5_isAsked 15 = .ok (.iload_n 1, 1) := by decide +kernel
theorem dX5_isAsked_16 : decode cX5_isAsked 16 = .ok (.bipush 10, 2) := by decide +kernel
theorem dX5_isAsked_18 : decode cX5_isAsked 18 = .ok (.iconst 5, 1) := by decide +kernel
theorem dX5_isAsked_19 : decode cX5_isAsked 19 = .ok (.aload_n 0, 1) := by decide +kernel
theorem dX5_isAsked_20 : decode cX5_isAsked 20 = .ok (.getfield 18, 3) := by decide +kernel
theorem dX5_isAsked_23 : decode cX5_isAsked 23 = .ok (.imul, 1) := by decide +kernel
theorem dX5_isAsked_24 : decode cX5_isAsked 24 = .ok (.iadd, 1) := by decide +kernel
theorem dX5_isAsked_25 : decode cX5_isAsked 25 = .ok (.if_icmp .ge 7, 3) := by decide +kernel
theorem dX5_isAsked_28 : decode cX5_isAsked 28 = .ok (.iconst 1, 1) := by decide +kernel
theorem dX5_isAsked_29 : decode cX5_isAsked 29 = .ok (.goto 4, 3) := by decide +kernel
theorem dX5_isAsked_32 : decode cX5_isAsked 32 = .ok (.iconst 0, 1) := by decide +kernel
theorem dX5_isAsked_33 : decode cX5_isAsked 33 = .ok (.ireturn, 1) := by decide +kernel
abbrev mX5_isAsked : MI := (yX5_isAsked, cX5_isAsked, 2, (some .boolean), noE)
theorem okX5_isAsked : cok mX5_isAsked 2 := ⟨tw856, tw9, by decide, by decide, by decide, by decide +kernel⟩
def fX5_isAsked (M : Mem) (a0 a1 : Int) : Option Int :=
  jn (fun (t2 : Unit) => if a1 < 10 then (some 0) else (if M.2.1 a0 = 7 then if a1 < w32 (10 + (w32 (5 * (M.1 a0 0)))) then (some 1) else (some 0) else none)) (fun (j1 : Unit → Option Int) => if a1 < 0 then (j1 ()) else (if 2 < a1 then (j1 ()) else (some 1)))
set_option maxRecDepth 100000 in
set_option maxHeartbeats 4000000 in
theorem kX5_isAsked (d : Nat) (hd : 0 ≤ d) (M : Mem) (a0 a1 : Int) : Ct mX5_isAsked d 0 0 [pA a0, pI a1] M (dI M) (fX5_isAsked M a0 a1) := by
  refine Ct.of 0 (fun _ _ _ => trivial) (by decide +kernel) rfl ?_
  unfold fX5_isAsked
  refine v_iload_n dX5_isAsked_0 rfl ?_
  refine v_join (fun (t2 : Unit) => [some (pA a0), some (pI a1)]) (fun (t2 : Unit) => []) (fun (t2 : Unit) => M) 9 (fun t2 => ?_) (fun j1 hj1 => ?_)
  · refine v_iload_n dX5_isAsked_9 rfl ?_
    refine v_bipush dX5_isAsked_10 (by decide) ?_
    refine v_icmp_lt (tgt := 32) dX5_isAsked_12 (by decide) (fun c3 => ?_) (fun c3 => ?_)
    · refine v_iconst dX5_isAsked_32 (by decide) ?_
      exact v_breturn dX5_isAsked_33 rfl (by decide) rfl
    · refine v_iload_n dX5_isAsked_15 rfl ?_
      refine v_bipush dX5_isAsked_16 (by decide) ?_
      refine v_iconst dX5_isAsked_18 (by decide) ?_
      refine v_aload_n dX5_isAsked_19 rfl ?_
      refine v_if (fun h4 => ?_)
      refine v_get (v := pI (M.1 a0 0)) 7 0 rfl inX7 (by decide) tw55 dX5_isAsked_20 h4 rfl ?_
      refine v_imul dX5_isAsked_23 ?_
      refine v_iadd dX5_isAsked_24 ?_
      refine v_icmp_ge (tgt := 32) dX5_isAsked_25 (by decide) (fun c5 => ?_) (fun c5 => ?_)
      · refine v_iconst dX5_isAsked_28 (by decide) ?_
        refine v_goto (tgt := 33) dX5_isAsked_29 (by decide) ?_
        exact v_breturn dX5_isAsked_33 rfl (by decide) rfl
      · refine v_iconst dX5_isAsked_32 (by decide) ?_
        exact v_breturn dX5_isAsked_33 rfl (by decide) rfl
  · refine v_if_lt (tgt := 9) dX5_isAsked_1 (by decide) (fun c6 => ?_) (fun c6 => ?_)
    · exact hj1 ()
    · refine v_iload_n dX5_isAsked_4 rfl ?_
      refine v_iconst dX5_isAsked_5 (by decide) ?_
      refine v_icmp_le (tgt := 28) dX5_isAsked_6 (by decide) (fun c7 => ?_) (fun c7 => ?_)
      · exact hj1 ()
      · refine v_iconst dX5_isAsked_28 (by decide) ?_
        refine v_goto (tgt := 33) dX5_isAsked_29 (by decide) ?_
        exact v_breturn dX5_isAsked_33 rfl (by decide) rfl
theorem dX5_isEnough_0 : decode cX5_isEnough 0 = .ok (.iconst 0, 1) := by decide +kernel
theorem dX5_isEnough_1 : decode cX5_isEnough 1 = .ok (.istore_n 1, 1) := by decide +kernel
theorem dX5_isEnough_2 : decode cX5_isEnough 2 = .ok (.iload_n 1, 1) := by decide +kernel
theorem dX5_isEnough_3 : decode cX5_isEnough 3 = .ok (.iconst 5, 1) := by decide +kernel
theorem dX5_isEnough_4 : decode cX5_isEnough 4 = .ok (.if_icmp .ge 24, 3) := by decide +kernel
theorem dX5_isEnough_7 : decode cX5_isEnough 7 = .ok (.aload_n 0, 1) := by decide +kernel
theorem dX5_isEnough_8 : decode cX5_isEnough 8 = .ok (.iload_n 1, 1) := by decide +kernel
theorem dX5_isEnough_9 : decode cX5_isEnough 9 = .ok (.invokevirtual 24, 3) := by decide +kernel
theorem dX5_isEnough_12 : decode cX5_isEnough 12 = .ok (.aload_n 0, 1) := by decide +kernel
theorem dX5_isEnough_13 : decode cX5_isEnough 13 = .ok (.iload_n 1, 1) := by decide +kernel
theorem dX5_isEnough_14 : decode cX5_isEnough 14 = .ok (.invokevirtual 28, 3) := by decide +kernel
theorem dX5_isEnough_17 : decode cX5_isEnough 17 = .ok (.if_icmp .ge 5, 3) := by decide +kernel
theorem dX5_isEnough_20 : decode cX5_isEnough 20 = .ok (.iconst 0, 1) := by decide +kernel
theorem dX5_isEnough_21 : decode cX5_isEnough 21 = .ok (.ireturn, 1) := by decide +kernel
theorem dX5_isEnough_22 : decode cX5_isEnough 22 = .ok (.iinc 1 1, 3) := by decide +kernel
theorem dX5_isEnough_25 : decode cX5_isEnough 25 = .ok (.goto (-23), 3) := by decide +kernel
theorem dX5_isEnough_28 : decode cX5_isEnough 28 = .ok (.iconst 1, 1) := by decide +kernel
theorem dX5_isEnough_29 : decode cX5_isEnough 29 = .ok (.ireturn, 1) := by decide +kernel
abbrev mX5_isEnough : MI := (yX5_isEnough, cX5_isEnough, 2, (some .boolean), noE)
theorem okX5_isEnough : cok mX5_isEnough 1 := ⟨tw859, tw9, by decide, by decide, by decide, by decide +kernel⟩
def fX5_isEnough (M : Mem) (a0 : Int) : Option Int :=
  iterC (fun (rec1 : Int → Option Int) (s2 : Int) => if s2 < 5 then (if M.2.1 a0 = 7 then (fX7_spareOfAll M a0 s2).bind fun r4 => (fX7_lackOfAll M a0 s2).bind fun r7 => if r4 < r7 then (some 0) else (rec1 (w32 (s2 + 1))) else none) else (some 1)) BIG 0
set_option maxRecDepth 100000 in
set_option maxHeartbeats 4000000 in
theorem kX5_isEnough (d : Nat) (hd : 3 ≤ d) (M : Mem) (a0 : Int) : Ct mX5_isEnough d 0 0 [pA a0] M (dI M) (fX5_isEnough M a0) := by
  obtain ⟨d, rfl⟩ : ∃ k, d = k + 1 := ⟨d - 1, by omega⟩
  refine Ct.of 1 (fun _ _ _ => trivial) (by decide +kernel) rfl ?_
  unfold fX5_isEnough
  refine v_iconst dX5_isEnough_0 (by decide) ?_
  refine v_istore_n (ls' := [some (pA a0), some (pI 0)]) dX5_isEnough_1 (by decide) rfl ?_
  refine v_loop (fun (s2 : Int) => [some (pA a0), some (pI s2)]) (fun (s2 : Int) => M) (s0 := 0) ?_
  intro rec1 hrec1 s2
  refine v_iload_n dX5_isEnough_2 rfl ?_
  refine v_iconst dX5_isEnough_3 (by decide) ?_
  refine v_icmp_ge (tgt := 28) dX5_isEnough_4 (by decide) (fun c3 => ?_) (fun c3 => ?_)
  · refine v_aload_n dX5_isEnough_7 rfl ?_
    refine v_iload_n dX5_isEnough_8 rfl ?_
    refine v_if (fun h6 => ?_)
    refine v_cV (mi := mX5_isEnough) (c0 := 0) (c1 := 0) (As := [pI s2]) (st := []) (kX7_spareOfAll d (by omega) _ _ _) rfl h6 rfl okX7_spareOfAll (Or.inl tw860) tw861 tw862 rfl (Nat.le_of_ble_eq_true rfl) dX5_isEnough_9 (fun r4 => [pI r4]) (fun r4 => M) (fun _ => rfl) (fun _ => rfl) (fun r4 h5 => ?_) rfl
    refine v_aload_n dX5_isEnough_12 rfl ?_
    refine v_iload_n dX5_isEnough_13 rfl ?_
    refine v_cV (mi := mX5_isEnough) (c0 := 0) (c1 := 0) (As := [pI s2]) (st := [pI r4]) (kX7_lackOfAll d (by omega) _ _ _) rfl h6 rfl okX7_lackOfAll (Or.inl tw865) tw866 tw867 rfl (Nat.le_of_ble_eq_true rfl) dX5_isEnough_14 (fun r7 => [pI r7, pI r4]) (fun r7 => M) (fun _ => rfl) (fun _ => rfl) (fun r7 h8 => ?_) rfl
    refine v_icmp_ge (tgt := 22) dX5_isEnough_17 (by decide) (fun c9 => ?_) (fun c9 => ?_)
    · refine v_iconst dX5_isEnough_20 (by decide) ?_
      exact v_breturn dX5_isEnough_21 rfl (by decide) rfl
    · refine v_iinc (ls' := [some (pA a0), some (pI (w32 (s2 + 1)))]) dX5_isEnough_22 (by decide) rfl rfl ?_
      refine v_goto (tgt := 2) dX5_isEnough_25 (by decide) ?_
      exact hrec1 (w32 (s2 + 1))
  · refine v_iconst dX5_isEnough_28 (by decide) ?_
    exact v_breturn dX5_isEnough_29 rfl (by decide) rfl
theorem dX5_takenFrom_0 : decode cX5_takenFrom 0 = .ok (.aload_n 0, 1) := by decide +kernel
theorem dX5_takenFrom_1 : decode cX5_takenFrom 1 = .ok (.iload_n 2, 1) := by decide +kernel
theorem dX5_takenFrom_2 : decode cX5_takenFrom 2 = .ok (.invokevirtual 28, 3) := by decide +kernel
theorem dX5_takenFrom_5 : decode cX5_takenFrom 5 = .ok (.istore_n 3, 1) := by decide +kernel
theorem dX5_takenFrom_6 : decode cX5_takenFrom 6 = .ok (.iconst 0, 1) := by decide +kernel
theorem dX5_takenFrom_7 : decode cX5_takenFrom 7 = .ok (.istore 4, 2) := by decide +kernel
theorem dX5_takenFrom_9 : decode cX5_takenFrom 9 = .ok (.iload 4, 2) := by decide +kernel
theorem dX5_takenFrom_11 : decode cX5_takenFrom 11 = .ok (.aload_n 0, 1) := by decide +kernel
theorem dX5_takenFrom_12 : decode cX5_takenFrom 12 = .ok (.getfield 18, 3) := by decide +kernel
theorem dX5_takenFrom_15 : decode cX5_takenFrom 15 = .ok (.if_icmp .ge 69, 3) := by decide +kernel
theorem dX5_takenFrom_18 : decode cX5_takenFrom 18 = .ok (.aload_n 0, 1) := by decide +kernel
theorem dX5_takenFrom_19 : decode cX5_takenFrom 19 = .ok (.getfield 35, 3) := by decide +kernel
theorem dX5_takenFrom_22 : decode cX5_takenFrom 22 = .ok (.iload 4, 2) := by decide +kernel
theorem dX5_takenFrom_24 : decode cX5_takenFrom 24 = .ok (.iaload, 1) := by decide +kernel
theorem dX5_takenFrom_25 : decode cX5_takenFrom 25 = .ok (.aload_n 0, 1) := by decide +kernel
theorem dX5_takenFrom_26 : decode cX5_takenFrom 26 = .ok (.getfield 35, 3) := by decide +kernel
theorem dX5_takenFrom_29 : decode cX5_takenFrom 29 = .ok (.iload_n 1, 1) := by decide +kernel
theorem dX5_takenFrom_30 : decode cX5_takenFrom 30 = .ok (.iaload, 1) := by decide +kernel
theorem dX5_takenFrom_31 : decode cX5_takenFrom 31 = .ok (.if_icmp .lt 25, 3) := by decide +kernel
theorem dX5_takenFrom_34 : decode cX5_takenFrom 34 = .ok (.aload_n 0, 1) := by decide +kernel
theorem dX5_takenFrom_35 : decode cX5_takenFrom 35 = .ok (.getfield 35, 3) := by decide +kernel
theorem dX5_takenFrom_38 : decode cX5_takenFrom 38 = .ok (.iload 4, 2) := by decide +kernel
theorem dX5_takenFrom_40 : decode cX5_takenFrom 40 = .ok (.iaload, 1) := by decide +kernel
theorem dX5_takenFrom_41 : decode cX5_takenFrom 41 = .ok (.aload_n 0, 1) := by decide +kernel
theorem dX5_takenFrom_42 : decode cX5_takenFrom 42 = .ok (.getfield 35, 3) := by decide +kernel
theorem dX5_takenFrom_45 : decode cX5_takenFrom 45 = .ok (.iload_n 1, 1) := by decide +kernel
theorem dX5_takenFrom_46 : decode cX5_takenFrom 46 = .ok (.iaload, 1) := by decide +kernel
theorem dX5_takenFrom_47 : decode cX5_takenFrom 47 = .ok (.if_icmp .ne 13, 3) := by decide +kernel
theorem dX5_takenFrom_50 : decode cX5_takenFrom 50 = .ok (.iload 4, 2) := by decide +kernel
theorem dX5_takenFrom_52 : decode cX5_takenFrom 52 = .ok (.iload_n 1, 1) := by decide +kernel
theorem dX5_takenFrom_53 : decode cX5_takenFrom 53 = .ok (.if_icmp .ge 7, 3) := by decide +kernel
theorem dX5_takenFrom_56 : decode cX5_takenFrom 56 = .ok (.iconst 1, 1) := by decide +kernel
theorem dX5_takenFrom_57 : decode cX5_takenFrom 57 = .ok (.goto 4, 3) := by decide +kernel
theorem dX5_takenFrom_60 : decode cX5_takenFrom 60 = .ok (.iconst 0, 1) := by decide +kernel
theorem dX5_takenFrom_61 : decode cX5_takenFrom 61 = .ok (.istore 5, 2) := by decide +kernel
theorem dX5_takenFrom_63 : decode cX5_takenFrom 63 = .ok (.iload 5, 2) := by decide +kernel
theorem dX5_takenFrom_65 : decode cX5_takenFrom 65 = .ok (.ifCond .eq 13, 3) := by decide +kernel
theorem dX5_takenFrom_68 : decode cX5_takenFrom 68 = .ok (.iload_n 3, 1) := by decide +kernel
theorem dX5_takenFrom_69 : decode cX5_takenFrom 69 = .ok (.aload_n 0, 1) := by decide +kernel
theorem dX5_takenFrom_70 : decode cX5_takenFrom 70 = .ok (.iload 4, 2) := by decide +kernel
theorem dX5_takenFrom_72 : decode cX5_takenFrom 72 = .ok (.iload_n 2, 1) := by decide +kernel
theorem dX5_takenFrom_73 : decode cX5_takenFrom 73 = .ok (.invokevirtual 46, 3) := by decide +kernel
theorem dX5_takenFrom_76 : decode cX5_takenFrom 76 = .ok (.isub, 1) := by decide +kernel
theorem dX5_takenFrom_77 : decode cX5_takenFrom 77 = .ok (.istore_n 3, 1) := by decide +kernel
theorem dX5_takenFrom_78 : decode cX5_takenFrom 78 = .ok (.iinc 4 1, 3) := by decide +kernel
theorem dX5_takenFrom_81 : decode cX5_takenFrom 81 = .ok (.goto (-72), 3) := by decide +kernel
theorem dX5_takenFrom_84 : decode cX5_takenFrom 84 = .ok (.iconst 0, 1) := by decide +kernel
theorem dX5_takenFrom_85 : decode cX5_takenFrom 85 = .ok (.iload_n 3, 1) := by decide +kernel
theorem dX5_takenFrom_86 : decode cX5_takenFrom 86 = .ok (.aload_n 0, 1) := by decide +kernel
theorem dX5_takenFrom_87 : decode cX5_takenFrom 87 = .ok (.iload_n 1, 1) := by decide +kernel
theorem dX5_takenFrom_88 : decode cX5_takenFrom 88 = .ok (.iload_n 2, 1) := by decide +kernel
theorem dX5_takenFrom_89 : decode cX5_takenFrom 89 = .ok (.invokevirtual 46, 3) := by decide +kernel
theorem dX5_takenFrom_92 : decode cX5_takenFrom 92 = .ok (.invokestatic 49, 3) := by decide +kernel
theorem dX5_takenFrom_95 : decode cX5_takenFrom 95 = .ok (.invokestatic 54, 3) := by decide +kernel
theorem dX5_takenFrom_98 : decode cX5_takenFrom 98 = .ok (.ireturn, 1) := by decide +kernel
abbrev mX5_takenFrom : MI := (yX5_takenFrom, cX5_takenFrom, 6, (some .int), noE)
theorem okX5_takenFrom : cok mX5_takenFrom 3 := ⟨tw875, tw9, by decide, by decide, by decide, by decide +kernel⟩
def fX5_takenFrom (M : Mem) (a0 a1 a2 : Int) : Option Int :=
  if M.2.1 a0 = 7 then (fX7_lackOfAll M a0 a2).bind fun r1 => iterC (fun (rec4 : (Int × Int) → Option Int) (s5 : Int × Int) => if s5.2 < M.1 a0 0 then (if M.2.1 (M.1 a0 4) = 12 ∧ (0 : Int) ≤ s5.2 ∧ s5.2 < M.2.2.1 (M.1 a0 4) then if M.2.1 (M.1 a0 4) = 12 ∧ (0 : Int) ≤ a1 ∧ a1 < M.2.2.1 (M.1 a0 4) then jn (fun (t10 : Int) => if t10 = 0 then (rec4 (s5.1, w32 (s5.2 + 1))) else ((fX7_spareOf M a0 s5.2 a2).bind fun r12 => rec4 (w32 (s5.1 - r12), w32 (s5.2 + 1)))) (fun (j9 : Int → Option Int) => jn (fun (t15 : Unit) => j9 1) (fun (j14 : Unit → Option Int) => if M.1 (M.1 a0 4) s5.2 < M.1 (M.1 a0 4) a1 then (j14 ()) else (if M.2.1 (M.1 a0 4) = 12 ∧ (0 : Int) ≤ s5.2 ∧ s5.2 < M.2.2.1 (M.1 a0 4) then if M.2.1 (M.1 a0 4) = 12 ∧ (0 : Int) ≤ a1 ∧ a1 < M.2.2.1 (M.1 a0 4) then jn (fun (t20 : Unit) => j9 0) (fun (j19 : Unit → Option Int) => if M.1 (M.1 a0 4) s5.2 = M.1 (M.1 a0 4) a1 then (if s5.2 < a1 then (j14 ()) else (j19 ())) else (j19 ())) else none else none))) else none else none) else ((fX7_spareOf M a0 a1 a2).bind fun r23 => some (imax 0 (imin s5.1 r23)))) BIG (r1, 0) else none
set_option maxRecDepth 100000 in
set_option maxHeartbeats 4000000 in
theorem kX5_takenFrom (d : Nat) (hd : 3 ≤ d) (M : Mem) (a0 a1 a2 : Int) : Ct mX5_takenFrom d 0 0 [pA a0, pI a1, pI a2] M (dI M) (fX5_takenFrom M a0 a1 a2) := by
  obtain ⟨d, rfl⟩ : ∃ k, d = k + 1 := ⟨d - 1, by omega⟩
  refine Ct.of 3 (fun _ _ _ => trivial) (by decide +kernel) rfl ?_
  unfold fX5_takenFrom
  refine v_aload_n dX5_takenFrom_0 rfl ?_
  refine v_iload_n dX5_takenFrom_1 rfl ?_
  refine v_if (fun h3 => ?_)
  refine v_cV (mi := mX5_takenFrom) (c0 := 0) (c1 := 0) (As := [pI a2]) (st := []) (kX7_lackOfAll d (by omega) _ _ _) rfl h3 rfl okX7_lackOfAll (Or.inl tw865) tw866 tw867 rfl (Nat.le_of_ble_eq_true rfl) dX5_takenFrom_2 (fun r1 => [pI r1]) (fun r1 => M) (fun _ => rfl) (fun _ => rfl) (fun r1 h2 => ?_) rfl
  refine v_istore_n (ls' := [some (pA a0), some (pI a1), some (pI a2), some (pI r1), none, none]) dX5_takenFrom_5 (by decide) rfl ?_
  refine v_iconst dX5_takenFrom_6 (by decide) ?_
  refine v_istore (ls' := [some (pA a0), some (pI a1), some (pI a2), some (pI r1), some (pI 0), none]) dX5_takenFrom_7 (by decide) rfl ?_
  refine v_loop (fun (s5 : Int × Int) => [some (pA a0), some (pI a1), some (pI a2), some (pI s5.1), some (pI s5.2), none]) (fun (s5 : Int × Int) => M) (s0 := (r1, 0)) ?_
  intro rec4 hrec4 s5
  refine v_iload dX5_takenFrom_9 rfl ?_
  refine v_aload_n dX5_takenFrom_11 rfl ?_
  refine v_get (v := pI (M.1 a0 0)) 7 0 rfl inX7 (by decide) tw55 dX5_takenFrom_12 h3 rfl ?_
  refine v_icmp_ge (tgt := 84) dX5_takenFrom_15 (by decide) (fun c6 => ?_) (fun c6 => ?_)
  · refine v_aload_n dX5_takenFrom_18 rfl ?_
    refine v_get (v := pA (M.1 a0 4)) 7 4 rfl inX7 (by decide) tw77 dX5_takenFrom_19 h3 rfl ?_
    refine v_iload dX5_takenFrom_22 rfl ?_
    refine v_if (fun h7 => ?_)
    refine v_iaload h7 dX5_takenFrom_24 ?_
    refine v_aload_n dX5_takenFrom_25 rfl ?_
    refine v_get (v := pA (M.1 a0 4)) 7 4 rfl inX7 (by decide) tw77 dX5_takenFrom_26 h3 rfl ?_
    refine v_iload_n dX5_takenFrom_29 rfl ?_
    refine v_if (fun h8 => ?_)
    refine v_iaload h8 dX5_takenFrom_30 ?_
    refine v_join (fun (t10 : Int) => [some (pA a0), some (pI a1), some (pI a2), some (pI s5.1), some (pI s5.2), none]) (fun (t10 : Int) => [pI t10]) (fun (t10 : Int) => M) 61 (fun t10 => ?_) (fun j9 hj9 => ?_)
    · refine v_istore (ls' := [some (pA a0), some (pI a1), some (pI a2), some (pI s5.1), some (pI s5.2), some (pI t10)]) dX5_takenFrom_61 (by decide) rfl ?_
      refine v_iload dX5_takenFrom_63 rfl ?_
      refine v_if_eq (tgt := 78) dX5_takenFrom_65 (by decide) (fun c11 => ?_) (fun c11 => ?_)
      · refine v_iinc (ls' := [some (pA a0), some (pI a1), some (pI a2), some (pI s5.1), some (pI (w32 (s5.2 + 1))), some (pI t10)]) dX5_takenFrom_78 (by decide) rfl rfl ?_
        refine v_goto (tgt := 9) dX5_takenFrom_81 (by decide) ?_
        exact v_drop [some (pA a0), some (pI a1), some (pI a2), some (pI s5.1), some (pI (w32 (s5.2 + 1))), none] (ls_s (ls_s (ls_s (ls_s (ls_s (ls_n ls_e)))))) (hrec4 (s5.1, w32 (s5.2 + 1)))
      · refine v_iload_n dX5_takenFrom_68 rfl ?_
        refine v_aload_n dX5_takenFrom_69 rfl ?_
        refine v_iload dX5_takenFrom_70 rfl ?_
        refine v_iload_n dX5_takenFrom_72 rfl ?_
        refine v_cV (mi := mX5_takenFrom) (c0 := 0) (c1 := 0) (As := [pI s5.2, pI a2]) (st := [pI s5.1]) (kX7_spareOf d (by omega) _ _ _ _) rfl h3 rfl okX7_spareOf (Or.inl tw876) tw701 tw702 rfl (Nat.le_of_ble_eq_true rfl) dX5_takenFrom_73 (fun r12 => [pI r12, pI s5.1]) (fun r12 => M) (fun _ => rfl) (fun _ => rfl) (fun r12 h13 => ?_) rfl
        refine v_isub dX5_takenFrom_76 ?_
        refine v_istore_n (ls' := [some (pA a0), some (pI a1), some (pI a2), some (pI (w32 (s5.1 - r12))), some (pI s5.2), some (pI t10)]) dX5_takenFrom_77 (by decide) rfl ?_
        refine v_iinc (ls' := [some (pA a0), some (pI a1), some (pI a2), some (pI (w32 (s5.1 - r12))), some (pI (w32 (s5.2 + 1))), some (pI t10)]) dX5_takenFrom_78 (by decide) rfl rfl ?_
        refine v_goto (tgt := 9) dX5_takenFrom_81 (by decide) ?_
        exact v_drop [some (pA a0), some (pI a1), some (pI a2), some (pI (w32 (s5.1 - r12))), some (pI (w32 (s5.2 + 1))), none] (ls_s (ls_s (ls_s (ls_s (ls_s (ls_n ls_e)))))) (hrec4 (w32 (s5.1 - r12), w32 (s5.2 + 1)))
    · refine v_join (fun (t15 : Unit) => [some (pA a0), some (pI a1), some (pI a2), some (pI s5.1), some (pI s5.2), none]) (fun (t15 : Unit) => []) (fun (t15 : Unit) => M) 56 (fun t15 => ?_) (fun j14 hj14 => ?_)
      · refine v_iconst dX5_takenFrom_56 (by decide) ?_
        refine v_goto (tgt := 61) dX5_takenFrom_57 (by decide) ?_
        exact hj9 1
      · refine v_icmp_lt (tgt := 56) dX5_takenFrom_31 (by decide) (fun c16 => ?_) (fun c16 => ?_)
        · exact hj14 ()
        · refine v_aload_n dX5_takenFrom_34 rfl ?_
          refine v_get (v := pA (M.1 a0 4)) 7 4 rfl inX7 (by decide) tw77 dX5_takenFrom_35 h3 rfl ?_
          refine v_iload dX5_takenFrom_38 rfl ?_
          refine v_if (fun h17 => ?_)
          refine v_iaload h17 dX5_takenFrom_40 ?_
          refine v_aload_n dX5_takenFrom_41 rfl ?_
          refine v_get (v := pA (M.1 a0 4)) 7 4 rfl inX7 (by decide) tw77 dX5_takenFrom_42 h3 rfl ?_
          refine v_iload_n dX5_takenFrom_45 rfl ?_
          refine v_if (fun h18 => ?_)
          refine v_iaload h18 dX5_takenFrom_46 ?_
          refine v_join (fun (t20 : Unit) => [some (pA a0), some (pI a1), some (pI a2), some (pI s5.1), some (pI s5.2), none]) (fun (t20 : Unit) => []) (fun (t20 : Unit) => M) 60 (fun t20 => ?_) (fun j19 hj19 => ?_)
          · refine v_iconst dX5_takenFrom_60 (by decide) ?_
            exact hj9 0
          · refine v_icmp_ne (tgt := 60) dX5_takenFrom_47 (by decide) (fun c21 => ?_) (fun c21 => ?_)
            · refine v_iload dX5_takenFrom_50 rfl ?_
              refine v_iload_n dX5_takenFrom_52 rfl ?_
              refine v_icmp_ge (tgt := 60) dX5_takenFrom_53 (by decide) (fun c22 => ?_) (fun c22 => ?_)
              · exact hj14 ()
              · exact hj19 ()
            · exact hj19 ()
  · refine v_iconst dX5_takenFrom_84 (by decide) ?_
    refine v_iload_n dX5_takenFrom_85 rfl ?_
    refine v_aload_n dX5_takenFrom_86 rfl ?_
    refine v_iload_n dX5_takenFrom_87 rfl ?_
    refine v_iload_n dX5_takenFrom_88 rfl ?_
    refine v_cV (mi := mX5_takenFrom) (c0 := 0) (c1 := 0) (As := [pI a1, pI a2]) (st := [pI s5.1, pI 0]) (kX7_spareOf d (by omega) _ _ _ _) rfl h3 rfl okX7_spareOf (Or.inl tw876) tw701 tw702 rfl (Nat.le_of_ble_eq_true rfl) dX5_takenFrom_89 (fun r23 => [pI r23, pI s5.1, pI 0]) (fun r23 => M) (fun _ => rfl) (fun _ => rfl) (fun r23 h24 => ?_) rfl
    refine v_mmin (mi := mX5_takenFrom) tw877 tw469 tw12 tw470 (Nat.le_of_ble_eq_true rfl) dX5_takenFrom_92 ?_
    refine v_mmax (mi := mX5_takenFrom) tw878 tw624 tw12 tw625 (Nat.le_of_ble_eq_true rfl) dX5_takenFrom_95 ?_
    exact v_ireturn dX5_takenFrom_98 rfl rfl
theorem dX5_nightsFor_0 : decode cX5_nightsFor 0 = .ok (.iload_n 0, 1) := by decide +kernel
theorem dX5_nightsFor_1 : decode cX5_nightsFor 1 = .ok (.ifCond .ne 5, 3) := by decide +kernel
theorem dX5_nightsFor_4 : decode cX5_nightsFor 4 = .ok (.iconst 0, 1) := by decide +kernel
theorem dX5_nightsFor_5 : decode cX5_nightsFor 5 = .ok (.ireturn, 1) := by decide +kernel
theorem dX5_nightsFor_6 : decode cX5_nightsFor 6 = .ok (.iload_n 1, 1) := by decide +kernel
theorem dX5_nightsFor_7 : decode cX5_nightsFor 7 = .ok (.ifCond .le 13, 3) := by decide +kernel
theorem dX5_nightsFor_10 : decode cX5_nightsFor 10 = .ok (.iload_n 0, 1) := by decide +kernel
theorem dX5_nightsFor_11 : decode cX5_nightsFor 11 = .ok (.iload_n 1, 1) := by decide +kernel
theorem dX5_nightsFor_12 : decode cX5_nightsFor 12 = .ok (.iadd, 1) := by decide +kernel
theorem dX5_nightsFor_13 : decode cX5_nightsFor 13 = .ok (.iconst 1, 1) := by decide +kernel
theorem dX5_nightsFor_14 : decode cX5_nightsFor 14 = .ok (.isub, 1) := by decide +kernel
theorem dX5_nightsFor_15 : decode cX5_nightsFor 15 = .ok (.iload_n 1, 1) := by decide +kernel
theorem dX5_nightsFor_16 : decode cX5_nightsFor 16 = .ok (.idiv, 1) := by decide +kernel
theorem dX5_nightsFor_17 : decode cX5_nightsFor 17 = .ok (.goto 4, 3) := by decide +kernel
theorem dX5_nightsFor_20 : decode cX5_nightsFor 20 = .ok (.iconst (-1), 1) := by decide +kernel
theorem dX5_nightsFor_21 : decode cX5_nightsFor 21 = .ok (.ireturn, 1) := by decide +kernel
abbrev mX5_nightsFor : MI := (yX5_nightsFor, cX5_nightsFor, 2, (some .int), noE)
theorem okX5_nightsFor : cok mX5_nightsFor 2 := ⟨tw885, tw9, by decide, by decide, by decide, by decide +kernel⟩
def fX5_nightsFor (M : Mem) (a0 a1 : Int) : Option Int :=
  if a0 = 0 then (some 0) else (if 0 < a1 then (if a1 ≠ 0 then some (w32 ((w32 ((w32 (a0 + a1)) - 1)).tdiv a1)) else none) else (some (-1)))
set_option maxRecDepth 100000 in
set_option maxHeartbeats 4000000 in
theorem kX5_nightsFor (d : Nat) (hd : 0 ≤ d) (M : Mem) (a0 a1 : Int) : Ct mX5_nightsFor d 0 0 [pI a0, pI a1] M (dI M) (fX5_nightsFor M a0 a1) := by
  refine Ct.of 0 (fun _ _ _ => trivial) (by decide +kernel) rfl ?_
  unfold fX5_nightsFor
  refine v_iload_n dX5_nightsFor_0 rfl ?_
  refine v_if_ne (tgt := 6) dX5_nightsFor_1 (by decide) (fun c1 => ?_) (fun c1 => ?_)
  · refine v_iconst dX5_nightsFor_4 (by decide) ?_
    exact v_ireturn dX5_nightsFor_5 rfl rfl
  · refine v_iload_n dX5_nightsFor_6 rfl ?_
    refine v_if_le (tgt := 20) dX5_nightsFor_7 (by decide) (fun c2 => ?_) (fun c2 => ?_)
    · refine v_iload_n dX5_nightsFor_10 rfl ?_
      refine v_iload_n dX5_nightsFor_11 rfl ?_
      refine v_iadd dX5_nightsFor_12 ?_
      refine v_iconst dX5_nightsFor_13 (by decide) ?_
      refine v_isub dX5_nightsFor_14 ?_
      refine v_iload_n dX5_nightsFor_15 rfl ?_
      refine v_if (fun h3 => ?_)
      refine v_idiv h3 dX5_nightsFor_16 ?_
      refine v_goto (tgt := 21) dX5_nightsFor_17 (by decide) ?_
      exact v_ireturn dX5_nightsFor_21 rfl rfl
    · refine v_iconst dX5_nightsFor_20 (by decide) ?_
      exact v_ireturn dX5_nightsFor_21 rfl rfl
theorem dX5_answer_0 : decode cX5_answer 0 = .ok (.iload_n 1, 1) := by decide +kernel
theorem dX5_answer_1 : decode cX5_answer 1 = .ok (.bipush 10, 2) := by decide +kernel
theorem dX5_answer_3 : decode cX5_answer 3 = .ok (.if_icmp .lt 20, 3) := by decide +kernel
theorem dX5_answer_6 : decode cX5_answer 6 = .ok (.aload_n 0, 1) := by decide +kernel
theorem dX5_answer_7 : decode cX5_answer 7 = .ok (.iload_n 1, 1) := by decide +kernel
theorem dX5_answer_8 : decode cX5_answer 8 = .ok (.bipush 10, 2) := by decide +kernel
theorem dX5_answer_10 : decode cX5_answer 10 = .ok (.isub, 1) := by decide +kernel
theorem dX5_answer_11 : decode cX5_answer 11 = .ok (.iconst 5, 1) := by decide +kernel
theorem dX5_answer_12 : decode cX5_answer 12 = .ok (.idiv, 1) := by decide +kernel
theorem dX5_answer_13 : decode cX5_answer 13 = .ok (.iload_n 1, 1) := by decide +kernel
theorem dX5_answer_14 : decode cX5_answer 14 = .ok (.bipush 10, 2) := by decide +kernel
theorem dX5_answer_16 : decode cX5_answer 16 = .ok (.isub, 1) := by decide +kernel
theorem dX5_answer_17 : decode cX5_answer 17 = .ok (.iconst 5, 1) := by decide +kernel
theorem dX5_answer_18 : decode cX5_answer 18 = .ok (.irem, 1) := by decide +kernel
theorem dX5_answer_19 : decode cX5_answer 19 = .ok (.invokestatic 31, 3) := by decide +kernel
theorem dX5_answer_22 : decode cX5_answer 22 = .ok (.ireturn, 1) := by decide +kernel
theorem dX5_answer_23 : decode cX5_answer 23 = .ok (.iconst 0, 1) := by decide +kernel
theorem dX5_answer_24 : decode cX5_answer 24 = .ok (.istore_n 2, 1) := by decide +kernel
theorem dX5_answer_25 : decode cX5_answer 25 = .ok (.iconst 0, 1) := by decide +kernel
theorem dX5_answer_26 : decode cX5_answer 26 = .ok (.istore_n 3, 1) := by decide +kernel
theorem dX5_answer_27 : decode cX5_answer 27 = .ok (.iconst 0, 1) := by decide +kernel
theorem dX5_answer_28 : decode cX5_answer 28 = .ok (.istore 4, 2) := by decide +kernel
theorem dX5_answer_30 : decode cX5_answer 30 = .ok (.iload 4, 2) := by decide +kernel
theorem dX5_answer_32 : decode cX5_answer 32 = .ok (.aload_n 0, 1) := by decide +kernel
theorem dX5_answer_33 : decode cX5_answer 33 = .ok (.getfield 18, 3) := by decide +kernel
theorem dX5_answer_36 : decode cX5_answer 36 = .ok (.if_icmp .ge 52, 3) := by decide +kernel
theorem dX5_answer_39 : decode cX5_answer 39 = .ok (.iconst 0, 1) := by decide +kernel
theorem dX5_answer_40 : decode cX5_answer 40 = .ok (.istore 5, 2) := by decide +kernel
theorem dX5_answer_42 : decode cX5_answer 42 = .ok (.iload 5, 2) := by decide +kernel
theorem dX5_answer_44 : decode cX5_answer 44 = .ok (.iconst 5, 1) := by decide +kernel
theorem dX5_answer_45 : decode cX5_answer 45 = .ok (.if_icmp .ge 37, 3) := by decide +kernel
theorem dX5_answer_48 : decode cX5_answer 48 = .ok (.aload_n 0, 1) := by decide +kernel
theorem dX5_answer_49 : decode cX5_answer 49 = .ok (.iload 4, 2) := by decide +kernel
theorem dX5_answer_51 : decode cX5_answer 51 = .ok (.iload 5, 2) := by decide +kernel
theorem dX5_answer_53 : decode cX5_answer 53 = .ok (.invokestatic 31, 3) := by decide +kernel
theorem dX5_answer_56 : decode cX5_answer 56 = .ok (.istore 6, 2) := by decide +kernel
theorem dX5_answer_58 : decode cX5_answer 58 = .ok (.iload_n 2, 1) := by decide +kernel
theorem dX5_answer_59 : decode cX5_answer 59 = .ok (.iload 6, 2) := by decide +kernel
theorem dX5_answer_61 : decode cX5_answer 61 = .ok (.iadd, 1) := by decide +kernel
theorem dX5_answer_62 : decode cX5_answer 62 = .ok (.istore_n 2, 1) := by decide +kernel
theorem dX5_answer_63 : decode cX5_answer 63 = .ok (.iload_n 3, 1) := by decide +kernel
theorem dX5_answer_64 : decode cX5_answer 64 = .ok (.iload 6, 2) := by decide +kernel
theorem dX5_answer_66 : decode cX5_answer 66 = .ok (.aload_n 0, 1) := by decide +kernel
theorem dX5_answer_67 : decode cX5_answer 67 = .ok (.getfield 35, 3) := by decide +kernel
theorem dX5_answer_70 : decode cX5_answer 70 = .ok (.iload 4, 2) := by decide +kernel
theorem dX5_answer_72 : decode cX5_answer 72 = .ok (.iaload, 1) := by decide +kernel
theorem dX5_answer_73 : decode cX5_answer 73 = .ok (.imul, 1) := by decide +kernel
theorem dX5_answer_74 : decode cX5_answer 74 = .ok (.iadd, 1) := by decide +kernel
theorem dX5_answer_75 : decode cX5_answer 75 = .ok (.istore_n 3, 1) := by decide +kernel
theorem dX5_answer_76 : decode cX5_answer 76 = .ok (.iinc 5 1, 3) := by decide +kernel
theorem dX5_answer_79 : decode cX5_answer 79 = .ok (.goto (-37), 3) := by decide +kernel
theorem dX5_answer_82 : decode cX5_answer 82 = .ok (.iinc 4 1, 3) := by decide +kernel
theorem dX5_answer_85 : decode cX5_answer 85 = .ok (.goto (-55), 3) := by decide +kernel
theorem dX5_answer_88 : decode cX5_answer 88 = .ok (.iload_n 1, 1) := by decide +kernel
theorem dX5_answer_89 : decode cX5_answer 89 = .ok (.ifCond .ne 5, 3) := by decide +kernel
theorem dX5_answer_92 : decode cX5_answer 92 = .ok (.iload_n 3, 1) := by decide +kernel
theorem dX5_answer_93 : decode cX5_answer 93 = .ok (.ireturn, 1) := by decide +kernel
theorem dX5_answer_94 : decode cX5_answer 94 = .ok (.iload_n 1, 1) := by decide +kernel
theorem dX5_answer_95 : decode cX5_answer 95 = .ok (.iconst 1, 1) := by decide +kernel
theorem dX5_answer_96 : decode cX5_answer 96 = .ok (.if_icmp .ne 7, 3) := by decide +kernel
theorem dX5_answer_99 : decode cX5_answer 99 = .ok (.iload_n 2, 1) := by decide +kernel
theorem dX5_answer_100 : decode cX5_answer 100 = .ok (.goto 11, 3) := by decide +kernel
theorem dX5_answer_103 : decode cX5_answer 103 = .ok (.iload_n 2, 1) := by decide +kernel
theorem dX5_answer_104 : decode cX5_answer 104 = .ok (.aload_n 0, 1) := by decide +kernel
theorem dX5_answer_105 : decode cX5_answer 105 = .ok (.invokevirtual 38, 3) := by decide +kernel
theorem dX5_answer_108 : decode cX5_answer 108 = .ok (.invokestatic 42, 3) := by decide +kernel
theorem dX5_answer_111 : decode cX5_answer 111 = .ok (.ireturn, 1) := by decide +kernel
abbrev mX5_answer : MI := (yX5_answer, cX5_answer, 7, (some .int), noE)
theorem okX5_answer : cok mX5_answer 2 := ⟨tw872, tw9, by decide, by decide, by decide, by decide +kernel⟩
def fX5_answer (M : Mem) (a0 a1 : Int) : Option Int :=
  if a1 < 10 then (iterC (fun (rec2 : (Int × Int × Int) → Option Int) (s3 : Int × Int × Int) => if M.2.1 a0 = 7 then if s3.2.2 < M.1 a0 0 then (iterC (fun (rec6 : (Int × Int × Int) → Option Int) (s7 : Int × Int × Int) => if s7.2.2 < 5 then ((fX5_takenFrom M a0 s3.2.2 s7.2.2).bind fun r9 => if M.2.1 (M.1 a0 4) = 12 ∧ (0 : Int) ≤ s3.2.2 ∧ s3.2.2 < M.2.2.1 (M.1 a0 4) then rec6 (w32 (s7.1 + r9), w32 (s7.2.1 + (w32 (r9 * (M.1 (M.1 a0 4) s3.2.2)))), w32 (s7.2.2 + 1)) else none) else (rec2 (s7.1, s7.2.1, w32 (s3.2.2 + 1)))) BIG (s3.1, s3.2.1, 0)) else (if a1 = 0 then (some s3.2.1) else (if a1 = 1 then (some s3.1) else ((fX7_limitOfAll M a0).bind fun r14 => (fX5_nightsFor M s3.1 r14).bind fun r16 => some r16))) else none) BIG (0, 0, 0)) else ((fX5_takenFrom M a0 (w32 ((w32 (a1 - 10)).tdiv 5)) ((w32 (a1 - 10)).tmod 5)).bind fun r18 => some r18)
set_option maxRecDepth 100000 in
set_option maxHeartbeats 4000000 in
theorem kX5_answer (d : Nat) (hd : 4 ≤ d) (M : Mem) (a0 a1 : Int) : Ct mX5_answer d 0 0 [pA a0, pI a1] M (dI M) (fX5_answer M a0 a1) := by
  obtain ⟨d, rfl⟩ : ∃ k, d = k + 1 := ⟨d - 1, by omega⟩
  refine Ct.of 5 (fun _ _ _ => trivial) (by decide +kernel) rfl ?_
  unfold fX5_answer
  refine v_iload_n dX5_answer_0 rfl ?_
  refine v_bipush dX5_answer_1 (by decide) ?_
  refine v_icmp_lt (tgt := 23) dX5_answer_3 (by decide) (fun c1 => ?_) (fun c1 => ?_)
  · refine v_iconst dX5_answer_23 (by decide) ?_
    refine v_istore_n (ls' := [some (pA a0), some (pI a1), some (pI 0), none, none, none, none]) dX5_answer_24 (by decide) rfl ?_
    refine v_iconst dX5_answer_25 (by decide) ?_
    refine v_istore_n (ls' := [some (pA a0), some (pI a1), some (pI 0), some (pI 0), none, none, none]) dX5_answer_26 (by decide) rfl ?_
    refine v_iconst dX5_answer_27 (by decide) ?_
    refine v_istore (ls' := [some (pA a0), some (pI a1), some (pI 0), some (pI 0), some (pI 0), none, none]) dX5_answer_28 (by decide) rfl ?_
    refine v_loop (fun (s3 : Int × Int × Int) => [some (pA a0), some (pI a1), some (pI s3.1), some (pI s3.2.1), some (pI s3.2.2), none, none]) (fun (s3 : Int × Int × Int) => M) (s0 := (0, 0, 0)) ?_
    intro rec2 hrec2 s3
    refine v_iload dX5_answer_30 rfl ?_
    refine v_aload_n dX5_answer_32 rfl ?_
    refine v_if (fun h4 => ?_)
    refine v_get (v := pI (M.1 a0 0)) 7 0 rfl inX7 (by decide) tw55 dX5_answer_33 h4 rfl ?_
    refine v_icmp_ge (tgt := 88) dX5_answer_36 (by decide) (fun c5 => ?_) (fun c5 => ?_)
    · refine v_iconst dX5_answer_39 (by decide) ?_
      refine v_istore (ls' := [some (pA a0), some (pI a1), some (pI s3.1), some (pI s3.2.1), some (pI s3.2.2), some (pI 0), none]) dX5_answer_40 (by decide) rfl ?_
      refine v_loop (fun (s7 : Int × Int × Int) => [some (pA a0), some (pI a1), some (pI s7.1), some (pI s7.2.1), some (pI s3.2.2), some (pI s7.2.2), none]) (fun (s7 : Int × Int × Int) => M) (s0 := (s3.1, s3.2.1, 0)) ?_
      intro rec6 hrec6 s7
      refine v_iload dX5_answer_42 rfl ?_
      refine v_iconst dX5_answer_44 (by decide) ?_
      refine v_icmp_ge (tgt := 82) dX5_answer_45 (by decide) (fun c8 => ?_) (fun c8 => ?_)
      · refine v_aload_n dX5_answer_48 rfl ?_
        refine v_iload dX5_answer_49 rfl ?_
        refine v_iload dX5_answer_51 rfl ?_
        refine v_cS (mi := mX5_answer) (c0 := 0) (c1 := 0) (As := [pA a0, pI s3.2.2, pI s7.2.2]) (st := []) (kX5_takenFrom d (by omega) _ _ _ _) okX5_takenFrom (Or.inl tw873) tw874 rfl (Nat.le_of_ble_eq_true rfl) dX5_answer_53 (fun r9 => [pI r9]) (fun r9 => M) (fun _ => rfl) (fun _ => rfl) (fun r9 h10 => ?_) rfl
        refine v_istore (ls' := [some (pA a0), some (pI a1), some (pI s7.1), some (pI s7.2.1), some (pI s3.2.2), some (pI s7.2.2), some (pI r9)]) dX5_answer_56 (by decide) rfl ?_
        refine v_iload_n dX5_answer_58 rfl ?_
        refine v_iload dX5_answer_59 rfl ?_
        refine v_iadd dX5_answer_61 ?_
        refine v_istore_n (ls' := [some (pA a0), some (pI a1), some (pI (w32 (s7.1 + r9))), some (pI s7.2.1), some (pI s3.2.2), some (pI s7.2.2), some (pI r9)]) dX5_answer_62 (by decide) rfl ?_
        refine v_iload_n dX5_answer_63 rfl ?_
        refine v_iload dX5_answer_64 rfl ?_
        refine v_aload_n dX5_answer_66 rfl ?_
        refine v_get (v := pA (M.1 a0 4)) 7 4 rfl inX7 (by decide) tw77 dX5_answer_67 h4 rfl ?_
        refine v_iload dX5_answer_70 rfl ?_
        refine v_if (fun h11 => ?_)
        refine v_iaload h11 dX5_answer_72 ?_
        refine v_imul dX5_answer_73 ?_
        refine v_iadd dX5_answer_74 ?_
        refine v_istore_n (ls' := [some (pA a0), some (pI a1), some (pI (w32 (s7.1 + r9))), some (pI (w32 (s7.2.1 + (w32 (r9 * (M.1 (M.1 a0 4) s3.2.2)))))), some (pI s3.2.2), some (pI s7.2.2), some (pI r9)]) dX5_answer_75 (by decide) rfl ?_
        refine v_iinc (ls' := [some (pA a0), some (pI a1), some (pI (w32 (s7.1 + r9))), some (pI (w32 (s7.2.1 + (w32 (r9 * (M.1 (M.1 a0 4) s3.2.2)))))), some (pI s3.2.2), some (pI (w32 (s7.2.2 + 1))), some (pI r9)]) dX5_answer_76 (by decide) rfl rfl ?_
        refine v_goto (tgt := 42) dX5_answer_79 (by decide) ?_
        exact v_drop [some (pA a0), some (pI a1), some (pI (w32 (s7.1 + r9))), some (pI (w32 (s7.2.1 + (w32 (r9 * (M.1 (M.1 a0 4) s3.2.2)))))), some (pI s3.2.2), some (pI (w32 (s7.2.2 + 1))), none] (ls_s (ls_s (ls_s (ls_s (ls_s (ls_s (ls_n ls_e))))))) (hrec6 (w32 (s7.1 + r9), w32 (s7.2.1 + (w32 (r9 * (M.1 (M.1 a0 4) s3.2.2)))), w32 (s7.2.2 + 1)))
      · refine v_iinc (ls' := [some (pA a0), some (pI a1), some (pI s7.1), some (pI s7.2.1), some (pI (w32 (s3.2.2 + 1))), some (pI s7.2.2), none]) dX5_answer_82 (by decide) rfl rfl ?_
        refine v_goto (tgt := 30) dX5_answer_85 (by decide) ?_
        exact v_drop [some (pA a0), some (pI a1), some (pI s7.1), some (pI s7.2.1), some (pI (w32 (s3.2.2 + 1))), none, none] (ls_s (ls_s (ls_s (ls_s (ls_s (ls_n (ls_n ls_e))))))) (hrec2 (s7.1, s7.2.1, w32 (s3.2.2 + 1)))
    · refine v_iload_n dX5_answer_88 rfl ?_
      refine v_if_ne (tgt := 94) dX5_answer_89 (by decide) (fun c12 => ?_) (fun c12 => ?_)
      · refine v_iload_n dX5_answer_92 rfl ?_
        exact v_ireturn dX5_answer_93 rfl rfl
      · refine v_iload_n dX5_answer_94 rfl ?_
        refine v_iconst dX5_answer_95 (by decide) ?_
        refine v_icmp_ne (tgt := 103) dX5_answer_96 (by decide) (fun c13 => ?_) (fun c13 => ?_)
        · refine v_iload_n dX5_answer_99 rfl ?_
          refine v_goto (tgt := 111) dX5_answer_100 (by decide) ?_
          exact v_ireturn dX5_answer_111 rfl rfl
        · refine v_iload_n dX5_answer_103 rfl ?_
          refine v_aload_n dX5_answer_104 rfl ?_
          refine v_cV (mi := mX5_answer) (c0 := 0) (c1 := 0) (As := []) (st := [pI s3.1]) (kX7_limitOfAll d (by omega) _ _) rfl h4 rfl okX7_limitOfAll (Or.inl tw879) tw880 tw881 rfl (Nat.le_of_ble_eq_true rfl) dX5_answer_105 (fun r14 => [pI r14, pI s3.1]) (fun r14 => M) (fun _ => rfl) (fun _ => rfl) (fun r14 h15 => ?_) rfl
          refine v_cS (mi := mX5_answer) (c0 := 0) (c1 := 0) (As := [pI s3.1, pI r14]) (st := []) (kX5_nightsFor d (by omega) _ _ _) okX5_nightsFor (Or.inl tw883) tw884 rfl (Nat.le_of_ble_eq_true rfl) dX5_answer_108 (fun r16 => [pI r16]) (fun r16 => M) (fun _ => rfl) (fun _ => rfl) (fun r16 h17 => ?_) rfl
          exact v_ireturn dX5_answer_111 rfl rfl
  · refine v_aload_n dX5_answer_6 rfl ?_
    refine v_iload_n dX5_answer_7 rfl ?_
    refine v_bipush dX5_answer_8 (by decide) ?_
    refine v_isub dX5_answer_10 ?_
    refine v_iconst dX5_answer_11 (by decide) ?_
    refine v_idiv (by decide) dX5_answer_12 ?_
    refine v_iload_n dX5_answer_13 rfl ?_
    refine v_bipush dX5_answer_14 (by decide) ?_
    refine v_isub dX5_answer_16 ?_
    refine v_iconst dX5_answer_17 (by decide) ?_
    refine v_irem (by decide) dX5_answer_18 ?_
    refine v_cS (mi := mX5_answer) (c0 := 0) (c1 := 0) (As := [pA a0, pI (w32 ((w32 (a1 - 10)).tdiv 5)), pI ((w32 (a1 - 10)).tmod 5)]) (st := []) (kX5_takenFrom d (by omega) _ _ _ _) okX5_takenFrom (Or.inl tw873) tw874 rfl (Nat.le_of_ble_eq_true rfl) dX5_answer_19 (fun r18 => [pI r18]) (fun r18 => M) (fun _ => rfl) (fun _ => rfl) (fun r18 h19 => ?_) rfl
    exact v_ireturn dX5_answer_22 rfl rfl
theorem dX5_leastOf_0 : decode cX5_leastOf 0 = .ok (.ldc 68, 2) := by decide +kernel
theorem dX5_leastOf_2 : decode cX5_leastOf 2 = .ok (.istore_n 3, 1) := by decide +kernel
theorem dX5_leastOf_3 : decode cX5_leastOf 3 = .ok (.iload_n 1, 1) := by decide +kernel
theorem dX5_leastOf_4 : decode cX5_leastOf 4 = .ok (.bipush (-54), 2) := by decide +kernel
theorem dX5_leastOf_6 : decode cX5_leastOf 6 = .ok (.invokestatic 54, 3) := by decide +kernel
theorem dX5_leastOf_9 : decode cX5_leastOf 9 = .ok (.istore 4, 2) := by decide +kernel
theorem dX5_leastOf_11 : decode cX5_leastOf 11 = .ok (.iload 4, 2) := by decide +kernel
theorem dX5_leastOf_13 : decode cX5_leastOf 13 = .ok (.iload_n 2, 1) := by decide +kernel
theorem dX5_leastOf_14 : decode cX5_leastOf 14 = .ok (.if_icmp .gt 31, 3) := by decide +kernel
theorem dX5_leastOf_17 : decode cX5_leastOf 17 = .ok (.iload 4, 2) := by decide +kernel
theorem dX5_leastOf_19 : decode cX5_leastOf 19 = .ok (.bipush 54, 2) := by decide +kernel
theorem dX5_leastOf_21 : decode cX5_leastOf 21 = .ok (.if_icmp .gt 24, 3) := by decide +kernel
theorem dX5_leastOf_24 : decode cX5_leastOf 24 = .ok (.iload_n 3, 1) := by decide +kernel
theorem dX5_leastOf_25 : decode cX5_leastOf 25 = .ok (.aload_n 0, 1) := by decide +kernel
theorem dX5_leastOf_26 : decode cX5_leastOf 26 = .ok (.getfield 11, 3) := by decide +kernel
theorem dX5_leastOf_29 : decode cX5_leastOf 29 = .ok (.bipush 54, 2) := by decide +kernel
theorem dX5_leastOf_31 : decode cX5_leastOf 31 = .ok (.iload 4, 2) := by decide +kernel
theorem dX5_leastOf_33 : decode cX5_leastOf 33 = .ok (.iadd, 1) := by decide +kernel
theorem dX5_leastOf_34 : decode cX5_leastOf 34 = .ok (.iaload, 1) := by decide +kernel
theorem dX5_leastOf_35 : decode cX5_leastOf 35 = .ok (.invokestatic 49, 3) := by decide +kernel
theorem dX5_leastOf_38 : decode cX5_leastOf 38 = .ok (.istore_n 3, 1) := by decide +kernel
theorem dX5_leastOf_39 : decode cX5_leastOf 39 = .ok (.iinc 4 1, 3) := by decide +kernel
theorem dX5_leastOf_42 : decode cX5_leastOf 42 = .ok (.goto (-31), 3) := by decide +kernel
theorem dX5_leastOf_45 : decode cX5_leastOf 45 = .ok (.iload_n 3, 1) := by decide +kernel
theorem dX5_leastOf_46 : decode cX5_leastOf 46 = .ok (.ireturn, 1) := by decide +kernel
abbrev mX5_leastOf : MI := (yX5_leastOf, cX5_leastOf, 5, (some .int), noE)
theorem okX5_leastOf : cok mX5_leastOf 2 := ⟨tw905, tw9, by decide, by decide, by decide, by decide +kernel⟩
def fX5_leastOf (M : Mem) (a0 a1 a2 : Int) : Option Int :=
  iterC (fun (rec1 : (Int × Int) → Option Int) (s2 : Int × Int) => if a2 < s2.2 then (some s2.1) else (if 54 < s2.2 then (some s2.1) else (if M.2.1 a0 = 5 then if M.2.1 (M.1 a0 0) = 12 ∧ (0 : Int) ≤ (w32 (54 + s2.2)) ∧ (w32 (54 + s2.2)) < M.2.2.1 (M.1 a0 0) then rec1 (imin s2.1 (M.1 (M.1 a0 0) (w32 (54 + s2.2))), w32 (s2.2 + 1)) else none else none))) BIG (1000000, imax a1 (-54))
set_option maxRecDepth 100000 in
set_option maxHeartbeats 4000000 in
theorem kX5_leastOf (d : Nat) (hd : 1 ≤ d) (M : Mem) (a0 a1 a2 : Int) : Ct mX5_leastOf d 0 0 [pA a0, pI a1, pI a2] M (dI M) (fX5_leastOf M a0 a1 a2) := by
  obtain ⟨d, rfl⟩ : ∃ k, d = k + 1 := ⟨d - 1, by omega⟩
  refine Ct.of 2 (fun _ _ _ => trivial) (by decide +kernel) rfl ?_
  unfold fX5_leastOf
  refine v_ldc (n := 1000000) dX5_leastOf_0 (by decide) tw899 ?_
  refine v_istore_n (ls' := [some (pA a0), some (pI a1), some (pI a2), some (pI 1000000), none]) dX5_leastOf_2 (by decide) rfl ?_
  refine v_iload_n dX5_leastOf_3 rfl ?_
  refine v_bipush dX5_leastOf_4 (by decide) ?_
  refine v_mmax (mi := mX5_leastOf) tw878 tw624 tw12 tw625 (Nat.le_of_ble_eq_true rfl) dX5_leastOf_6 ?_
  refine v_istore (ls' := [some (pA a0), some (pI a1), some (pI a2), some (pI 1000000), some (pI (imax a1 (-54)))]) dX5_leastOf_9 (by decide) rfl ?_
  refine v_drop [some (pA a0), none, some (pI a2), some (pI 1000000), some (pI (imax a1 (-54)))] (ls_s (ls_n (ls_s (ls_s (ls_s ls_e))))) ?_
  refine v_loop (fun (s2 : Int × Int) => [some (pA a0), none, some (pI a2), some (pI s2.1), some (pI s2.2)]) (fun (s2 : Int × Int) => M) (s0 := (1000000, imax a1 (-54))) ?_
  intro rec1 hrec1 s2
  refine v_iload dX5_leastOf_11 rfl ?_
  refine v_iload_n dX5_leastOf_13 rfl ?_
  refine v_icmp_gt (tgt := 45) dX5_leastOf_14 (by decide) (fun c3 => ?_) (fun c3 => ?_)
  · refine v_iload_n dX5_leastOf_45 rfl ?_
    exact v_ireturn dX5_leastOf_46 rfl rfl
  · refine v_iload dX5_leastOf_17 rfl ?_
    refine v_bipush dX5_leastOf_19 (by decide) ?_
    refine v_icmp_gt (tgt := 45) dX5_leastOf_21 (by decide) (fun c4 => ?_) (fun c4 => ?_)
    · refine v_iload_n dX5_leastOf_45 rfl ?_
      exact v_ireturn dX5_leastOf_46 rfl rfl
    · refine v_iload_n dX5_leastOf_24 rfl ?_
      refine v_aload_n dX5_leastOf_25 rfl ?_
      refine v_if (fun h5 => ?_)
      refine v_get (v := pA (M.1 a0 0)) 5 0 rfl inX5 (by decide) tw390 dX5_leastOf_26 h5 rfl ?_
      refine v_bipush dX5_leastOf_29 (by decide) ?_
      refine v_iload dX5_leastOf_31 rfl ?_
      refine v_iadd dX5_leastOf_33 ?_
      refine v_if (fun h6 => ?_)
      refine v_iaload h6 dX5_leastOf_34 ?_
      refine v_mmin (mi := mX5_leastOf) tw877 tw469 tw12 tw470 (Nat.le_of_ble_eq_true rfl) dX5_leastOf_35 ?_
      refine v_istore_n (ls' := [some (pA a0), none, some (pI a2), some (pI (imin s2.1 (M.1 (M.1 a0 0) (w32 (54 + s2.2))))), some (pI s2.2)]) dX5_leastOf_38 (by decide) rfl ?_
      refine v_iinc (ls' := [some (pA a0), none, some (pI a2), some (pI (imin s2.1 (M.1 (M.1 a0 0) (w32 (54 + s2.2))))), some (pI (w32 (s2.2 + 1)))]) dX5_leastOf_39 (by decide) rfl rfl ?_
      refine v_goto (tgt := 11) dX5_leastOf_42 (by decide) ?_
      exact hrec1 (imin s2.1 (M.1 (M.1 a0 0) (w32 (54 + s2.2))), w32 (s2.2 + 1))
theorem dX5_carryGood_0 : decode cX5_carryGood 0 = .ok (.bipush 54, 2) := by decide +kernel
theorem dX5_carryGood_2 : decode cX5_carryGood 2 = .ok (.aload_n 1, 1) := by decide +kernel
theorem dX5_carryGood_3 : decode cX5_carryGood 3 = .ok (.iload_n 2, 1) := by decide +kernel
theorem dX5_carryGood_4 : decode cX5_carryGood 4 = .ok (.invokevirtual 28, 3) := by decide +kernel
theorem dX5_carryGood_7 : decode cX5_carryGood 7 = .ok (.invokestatic 49, 3) := by decide +kernel
theorem dX5_carryGood_10 : decode cX5_carryGood 10 = .ok (.istore_n 3, 1) := by decide +kernel
theorem dX5_carryGood_11 : decode cX5_carryGood 11 = .ok (.iload_n 3, 1) := by decide +kernel
theorem dX5_carryGood_12 : decode cX5_carryGood 12 = .ok (.ifCond .ne 5, 3) := by decide +kernel
theorem dX5_carryGood_15 : decode cX5_carryGood 15 = .ok (.iconst 0, 1) := by decide +kernel
theorem dX5_carryGood_16 : decode cX5_carryGood 16 = .ok (.ireturn, 1) := by decide +kernel
theorem dX5_carryGood_17 : decode cX5_carryGood 17 = .ok (.aload_n 0, 1) := by decide +kernel
theorem dX5_carryGood_18 : decode cX5_carryGood 18 = .ok (.getfield 11, 3) := by decide +kernel
theorem dX5_carryGood_21 : decode cX5_carryGood 21 = .ok (.ldc 68, 2) := by decide +kernel
theorem dX5_carryGood_23 : decode cX5_carryGood 23 = .ok (.invokestatic 69, 3) := by decide +kernel
theorem dX5_carryGood_26 : decode cX5_carryGood 26 = .ok (.aload_n 0, 1) := by decide +kernel
theorem dX5_carryGood_27 : decode cX5_carryGood 27 = .ok (.getfield 15, 3) := by decide +kernel
theorem dX5_carryGood_30 : decode cX5_carryGood 30 = .ok (.ldc 68, 2) := by decide +kernel
theorem dX5_carryGood_32 : decode cX5_carryGood 32 = .ok (.invokestatic 69, 3) := by decide +kernel
theorem dX5_carryGood_35 : decode cX5_carryGood 35 = .ok (.aload_n 0, 1) := by decide +kernel
theorem dX5_carryGood_36 : decode cX5_carryGood 36 = .ok (.getfield 11, 3) := by decide +kernel
theorem dX5_carryGood_39 : decode cX5_carryGood 39 = .ok (.bipush 54, 2) := by decide +kernel
theorem dX5_carryGood_41 : decode cX5_carryGood 41 = .ok (.iconst 0, 1) := by decide +kernel
theorem dX5_carryGood_42 : decode cX5_carryGood 42 = .ok (.iastore, 1) := by decide +kernel
theorem dX5_carryGood_43 : decode cX5_carryGood 43 = .ok (.iconst 0, 1) := by decide +kernel
theorem dX5_carryGood_44 : decode cX5_carryGood 44 = .ok (.istore 4, 2) := by decide +kernel
theorem dX5_carryGood_46 : decode cX5_carryGood 46 = .ok (.iload 4, 2) := by decide +kernel
theorem dX5_carryGood_48 : decode cX5_carryGood 48 = .ok (.aload_n 1, 1) := by decide +kernel
theorem dX5_carryGood_49 : decode cX5_carryGood 49 = .ok (.getfield 18, 3) := by decide +kernel
theorem dX5_carryGood_52 : decode cX5_carryGood 52 = .ok (.if_icmp .ge 98, 3) := by decide +kernel
theorem dX5_carryGood_55 : decode cX5_carryGood 55 = .ok (.iload_n 3, 1) := by decide +kernel
theorem dX5_carryGood_56 : decode cX5_carryGood 56 = .ok (.ineg, 1) := by decide +kernel
theorem dX5_carryGood_57 : decode cX5_carryGood 57 = .ok (.istore 5, 2) := by decide +kernel
theorem dX5_carryGood_59 : decode cX5_carryGood 59 = .ok (.iload 5, 2) := by decide +kernel
theorem dX5_carryGood_61 : decode cX5_carryGood 61 = .ok (.iload_n 3, 1) := by decide +kernel
theorem dX5_carryGood_62 : decode cX5_carryGood 62 = .ok (.if_icmp .gt 62, 3) := by decide +kernel
theorem dX5_carryGood_65 : decode cX5_carryGood 65 = .ok (.iload 5, 2) := by decide +kernel
theorem dX5_carryGood_67 : decode cX5_carryGood 67 = .ok (.aload_n 1, 1) := by decide +kernel
theorem dX5_carryGood_68 : decode cX5_carryGood 68 = .ok (.iload 4, 2) := by decide +kernel
theorem dX5_carryGood_70 : decode cX5_carryGood 70 = .ok (.iload_n 2, 1) := by decide +kernel
theorem dX5_carryGood_71 : decode cX5_carryGood 71 = .ok (.invokevirtual 73, 3) := by decide +kernel
theorem dX5_carryGood_74 : decode cX5_carryGood 74 = .ok (.iadd, 1) := by decide +kernel
theorem dX5_carryGood_75 : decode cX5_carryGood 75 = .ok (.istore 6, 2) := by decide +kernel
theorem dX5_carryGood_77 : decode cX5_carryGood 77 = .ok (.aload_n 0, 1) := by decide +kernel
theorem dX5_carryGood_78 : decode cX5_carryGood 78 = .ok (.iload 6, 2) := by decide +kernel
theorem dX5_carryGood_80 : decode cX5_carryGood 80 = .ok (.aload_n 1, 1) := by decide +kernel
theorem dX5_carryGood_81 : decode cX5_carryGood 81 = .ok (.iload 4, 2) := by decide +kernel
theorem dX5_carryGood_83 : decode cX5_carryGood 83 = .ok (.iload_n 2, 1) := by decide +kernel
theorem dX5_carryGood_84 : decode cX5_carryGood 84 = .ok (.invokevirtual 46, 3) := by decide +kernel
theorem dX5_carryGood_87 : decode cX5_carryGood 87 = .ok (.isub, 1) := by decide +kernel
theorem dX5_carryGood_88 : decode cX5_carryGood 88 = .ok (.iload 6, 2) := by decide +kernel
theorem dX5_carryGood_90 : decode cX5_carryGood 90 = .ok (.invokevirtual 76, 3) := by decide +kernel
theorem dX5_carryGood_93 : decode cX5_carryGood 93 = .ok (.istore 7, 2) := by decide +kernel
theorem dX5_carryGood_95 : decode cX5_carryGood 95 = .ok (.aload_n 0, 1) := by decide +kernel
theorem dX5_carryGood_96 : decode cX5_carryGood 96 = .ok (.getfield 15, 3) := by decide +kernel
theorem dX5_carryGood_99 : decode cX5_carryGood 99 = .ok (.bipush 54, 2) := by decide +kernel
theorem dX5_carryGood_101 : decode cX5_carryGood 101 = .ok (.iload 5, 2) := by decide +kernel
theorem dX5_carryGood_103 : decode cX5_carryGood 103 = .ok (.iadd, 1) := by decide +kernel
theorem dX5_carryGood_104 : decode cX5_carryGood 104 = .ok (.ldc 68, 2) := by decide +kernel
theorem dX5_carryGood_106 : decode cX5_carryGood 106 = .ok (.iload 7, 2) := by decide +kernel
theorem dX5_carryGood_108 : decode cX5_carryGood 108 = .ok (.iload 5, 2) := by decide +kernel
theorem dX5_carryGood_110 : decode cX5_carryGood 110 = .ok (.invokestatic 79, 3) := by decide +kernel
theorem dX5_carryGood_113 : decode cX5_carryGood 113 = .ok (.iadd, 1) := by decide +kernel
theorem dX5_carryGood_114 : decode cX5_carryGood 114 = .ok (.invokestatic 49, 3) := by decide +kernel
theorem dX5_carryGood_117 : decode cX5_carryGood 117 = .ok (.iastore, 1) := by decide +kernel
theorem dX5_carryGood_118 : decode cX5_carryGood 118 = .ok (.iinc 5 1, 3) := by decide +kernel
theorem dX5_carryGood_121 : decode cX5_carryGood 121 = .ok (.goto (-62), 3) := by decide +kernel
theorem dX5_carryGood_124 : decode cX5_carryGood 124 = .ok (.aload_n 0, 1) := by decide +kernel
theorem dX5_carryGood_125 : decode cX5_carryGood 125 = .ok (.getfield 11, 3) := by decide +kernel
theorem dX5_carryGood_128 : decode cX5_carryGood 128 = .ok (.astore 5, 2) := by decide +kernel
theorem dX5_carryGood_130 : decode cX5_carryGood 130 = .ok (.aload_n 0, 1) := by decide +kernel
theorem dX5_carryGood_131 : decode cX5_carryGood 131 = .ok (.aload_n 0, 1) := by decide +kernel
theorem dX5_carryGood_132 : decode cX5_carryGood 132 = .ok (.getfield 15, 3) := by decide +kernel
theorem dX5_carryGood_135 : decode cX5_carryGood 135 = .ok (.putfield 11, 3) := by decide +kernel
theorem dX5_carryGood_138 : decode cX5_carryGood 138 = .ok (.aload_n 0, 1) := by decide +kernel
theorem dX5_carryGood_139 : decode cX5_carryGood 139 = .ok (.aload 5, 2) := by decide +kernel
theorem dX5_carryGood_141 : decode cX5_carryGood 141 = .ok (.putfield 15, 3) := by decide +kernel
theorem dX5_carryGood_144 : decode cX5_carryGood 144 = .ok (.iinc 4 1, 3) := by decide +kernel
theorem dX5_carryGood_147 : decode cX5_carryGood 147 = .ok (.goto (-101), 3) := by decide +kernel
theorem dX5_carryGood_150 : decode cX5_carryGood 150 = .ok (.aload_n 0, 1) := by decide +kernel
theorem dX5_carryGood_151 : decode cX5_carryGood 151 = .ok (.getfield 11, 3) := by decide +kernel
theorem dX5_carryGood_154 : decode cX5_carryGood 154 = .ok (.bipush 54, 2) := by decide +kernel
theorem dX5_carryGood_156 : decode cX5_carryGood 156 = .ok (.iaload, 1) := by decide +kernel
theorem dX5_carryGood_157 : decode cX5_carryGood 157 = .ok (.ireturn, 1) := by decide +kernel
abbrev mX5_carryGood : MI := (yX5_carryGood, cX5_carryGood, 8, (some .int), noE)
theorem okX5_carryGood : cok mX5_carryGood 2 := ⟨tw898, tw9, by decide, by decide, by decide, by decide +kernel⟩
def fX5_carryGood (M : Mem) (a0 a1 a2 : Int) : Option (Int × Mem) :=
  if M.2.1 a1 = 7 then (fX7_lackOfAll M a1 a2).bind fun r1 => if imin 54 r1 = 0 then (some (0, M)) else (if M.2.1 a0 = 5 then (fX10_fillRow M (M.1 a0 0) 1000000).bind fun r6 => if r6.2.1 a0 = 5 then (fX10_fillRow r6 (r6.1 a0 1) 1000000).bind fun r9 => if r9.2.1 a0 = 5 then if r9.2.1 (r9.1 a0 0) = 12 ∧ (0 : Int) ≤ 54 ∧ 54 < r9.2.2.1 (r9.1 a0 0) then bM (mst r9 (r9.1 a0 0) 54 0) fun M13 => iterC (fun (rec15 : (Int × Mem) → Option (Int × Mem)) (s16 : Int × Mem) => if s16.2.2.1 a1 = 7 then if s16.1 < s16.2.1 a1 0 then (iterC (fun (rec19 : (Int × Mem) → Option (Int × Mem)) (s20 : Int × Mem) => if imin 54 r1 < s20.1 then (if s20.2.2.1 a0 = 5 then if (-1 : Int) ≤ (s20.2.1 a0 1) then bM (mst s20.2 a0 0 (s20.2.1 a0 1)) fun M24 => if (-1 : Int) ≤ (s20.2.1 a0 0) then bM (mst M24 a0 1 (s20.2.1 a0 0)) fun M27 => rec15 (w32 (s16.1 + 1), M27) else none else none else none) else (if s20.2.2.1 a1 = 7 then (fX7_lackOf s20.2 a1 s16.1 a2).bind fun r29 => (fX7_spareOf s20.2 a1 s16.1 a2).bind fun r32 => if s20.2.2.1 a0 = 5 then (fX5_leastOf s20.2 a0 (w32 ((w32 (s20.1 + r29)) - r32)) (w32 (s20.1 + r29))).bind fun r34 => if s20.2.2.1 (s20.2.1 a0 1) = 12 ∧ (0 : Int) ≤ (w32 (54 + s20.1)) ∧ (w32 (54 + s20.1)) < s20.2.2.2.1 (s20.2.1 a0 1) then bM (mst s20.2 (s20.2.1 a0 1) (w32 (54 + s20.1)) (imin 1000000 (w32 (r34 + (iabs s20.1))))) fun M38 => rec19 (w32 (s20.1 + 1), M38) else none else none else none)) BIG (w32 (-(imin 54 r1)), s16.2)) else (if s16.2.2.1 a0 = 5 then if s16.2.2.1 (s16.2.1 a0 0) = 12 ∧ (0 : Int) ≤ 54 ∧ 54 < s16.2.2.2.1 (s16.2.1 a0 0) then some (s16.2.1 (s16.2.1 a0 0) 54, s16.2) else none else none) else none) BIG (0, M13) else none else none else none else none) else none
set_option maxRecDepth 100000 in
set_option maxHeartbeats 4000000 in
theorem kX5_carryGood (d : Nat) (hd : 3 ≤ d) (M : Mem) (a0 a1 a2 : Int) : Ct mX5_carryGood d 0 0 [pA a0, pA a1, pI a2] M dIM (fX5_carryGood M a0 a1 a2) := by
  obtain ⟨d, rfl⟩ : ∃ k, d = k + 1 := ⟨d - 1, by omega⟩
  refine Ct.of 5 (fun _ _ _ => trivial) (by decide +kernel) rfl ?_
  unfold fX5_carryGood
  refine v_bipush dX5_carryGood_0 (by decide) ?_
  refine v_aload_n dX5_carryGood_2 rfl ?_
  refine v_iload_n dX5_carryGood_3 rfl ?_
  refine v_if (fun h3 => ?_)
  refine v_cV (mi := mX5_carryGood) (c0 := 0) (c1 := 0) (As := [pI a2]) (st := [pI 54]) (kX7_lackOfAll d (by omega) _ _ _) rfl h3 rfl okX7_lackOfAll (Or.inl tw865) tw866 tw867 rfl (Nat.le_of_ble_eq_true rfl) dX5_carryGood_4 (fun r1 => [pI r1, pI 54]) (fun r1 => M) (fun _ => rfl) (fun _ => rfl) (fun r1 h2 => ?_) rfl
  refine v_mmin (mi := mX5_carryGood) tw877 tw469 tw12 tw470 (Nat.le_of_ble_eq_true rfl) dX5_carryGood_7 ?_
  refine v_istore_n (ls' := [some (pA a0), some (pA a1), some (pI a2), some (pI (imin 54 r1)), none, none, none, none]) dX5_carryGood_10 (by decide) rfl ?_
  refine v_iload_n dX5_carryGood_11 rfl ?_
  refine v_if_ne (tgt := 17) dX5_carryGood_12 (by decide) (fun c4 => ?_) (fun c4 => ?_)
  · refine v_iconst dX5_carryGood_15 (by decide) ?_
    exact v_ireturn dX5_carryGood_16 rfl rfl
  · refine v_aload_n dX5_carryGood_17 rfl ?_
    refine v_if (fun h5 => ?_)
    refine v_get (v := pA (M.1 a0 0)) 5 0 rfl inX5 (by decide) tw390 dX5_carryGood_18 h5 rfl ?_
    refine v_ldc (n := 1000000) dX5_carryGood_21 (by decide) tw899 ?_
    refine v_cS (mi := mX5_carryGood) (c0 := 0) (c1 := 0) (As := [pA (M.1 a0 0), pI 1000000]) (st := []) (kX10_fillRow d (by omega) _ _ _) okX10_fillRow (Or.inr nw19) tw52 rfl (Nat.le_of_ble_eq_true rfl) dX5_carryGood_23 (fun r6 => []) (fun r6 => r6) (fun _ => rfl) (fun _ => rfl) (fun r6 h7 => ?_) rfl
    refine v_aload_n dX5_carryGood_26 rfl ?_
    refine v_if (fun h8 => ?_)
    refine v_get (v := pA (r6.1 a0 1)) 5 1 rfl inX5 (by decide) tw391 dX5_carryGood_27 h8 rfl ?_
    refine v_ldc (n := 1000000) dX5_carryGood_30 (by decide) tw899 ?_
    refine v_cS (mi := mX5_carryGood) (c0 := 0) (c1 := 0) (As := [pA (r6.1 a0 1), pI 1000000]) (st := []) (kX10_fillRow d (by omega) _ _ _) okX10_fillRow (Or.inr nw19) tw52 rfl (Nat.le_of_ble_eq_true rfl) dX5_carryGood_32 (fun r9 => []) (fun r9 => r9) (fun _ => rfl) (fun _ => rfl) (fun r9 h10 => ?_) rfl
    refine v_aload_n dX5_carryGood_35 rfl ?_
    refine v_if (fun h11 => ?_)
    refine v_get (v := pA (r9.1 a0 0)) 5 0 rfl inX5 (by decide) tw390 dX5_carryGood_36 h11 rfl ?_
    refine v_bipush dX5_carryGood_39 (by decide) ?_
    refine v_iconst dX5_carryGood_41 (by decide) ?_
    refine v_if (fun h12 => ?_)
    refine v_iastore h12 dX5_carryGood_42 ?_
    refine v_bM (fun M13 e14 => ?_)
    refine v_iconst dX5_carryGood_43 (by decide) ?_
    refine v_istore (ls' := [some (pA a0), some (pA a1), some (pI a2), some (pI (imin 54 r1)), some (pI 0), none, none, none]) dX5_carryGood_44 (by decide) rfl ?_
    refine v_loop (fun (s16 : Int × Mem) => [some (pA a0), some (pA a1), some (pI a2), some (pI (imin 54 r1)), some (pI s16.1), none, none, none]) (fun (s16 : Int × Mem) => s16.2) (s0 := (0, M13)) ?_
    intro rec15 hrec15 s16
    refine v_iload dX5_carryGood_46 rfl ?_
    refine v_aload_n dX5_carryGood_48 rfl ?_
    refine v_if (fun h17 => ?_)
    refine v_get (v := pI (s16.2.1 a1 0)) 7 0 rfl inX7 (by decide) tw55 dX5_carryGood_49 h17 rfl ?_
    refine v_icmp_ge (tgt := 150) dX5_carryGood_52 (by decide) (fun c18 => ?_) (fun c18 => ?_)
    · refine v_iload_n dX5_carryGood_55 rfl ?_
      refine v_ineg dX5_carryGood_56 ?_
      refine v_istore (ls' := [some (pA a0), some (pA a1), some (pI a2), some (pI (imin 54 r1)), some (pI s16.1), some (pI (w32 (-(imin 54 r1)))), none, none]) dX5_carryGood_57 (by decide) rfl ?_
      refine v_loop (fun (s20 : Int × Mem) => [some (pA a0), some (pA a1), some (pI a2), some (pI (imin 54 r1)), some (pI s16.1), some (pI s20.1), none, none]) (fun (s20 : Int × Mem) => s20.2) (s0 := (w32 (-(imin 54 r1)), s16.2)) ?_
      intro rec19 hrec19 s20
      refine v_iload dX5_carryGood_59 rfl ?_
      refine v_iload_n dX5_carryGood_61 rfl ?_
      refine v_icmp_gt (tgt := 124) dX5_carryGood_62 (by decide) (fun c21 => ?_) (fun c21 => ?_)
      · refine v_aload_n dX5_carryGood_124 rfl ?_
        refine v_if (fun h22 => ?_)
        refine v_get (v := pA (s20.2.1 a0 0)) 5 0 rfl inX5 (by decide) tw390 dX5_carryGood_125 h22 rfl ?_
        refine v_astore (ls' := [some (pA a0), some (pA a1), some (pI a2), some (pI (imin 54 r1)), some (pI s16.1), some (pA (s20.2.1 a0 0)), none, none]) dX5_carryGood_128 (by decide) rfl ?_
        refine v_aload_n dX5_carryGood_130 rfl ?_
        refine v_aload_n dX5_carryGood_131 rfl ?_
        refine v_get (v := pA (s20.2.1 a0 1)) 5 1 rfl inX5 (by decide) tw391 dX5_carryGood_132 h22 rfl ?_
        refine v_if (fun h23 => ?_)
        refine v_put (x := s20.2.1 a0 1) 5 0 rfl inX5 (by decide) tw390 (Or.inl rfl) rfl dX5_carryGood_135 h22 rfl (fun _ => h23) ?_
        refine v_bM (fun M24 e25 => ?_)
        refine v_aload_n dX5_carryGood_138 rfl ?_
        refine v_aload dX5_carryGood_139 rfl ?_
        refine v_if (fun h26 => ?_)
        refine v_put (x := s20.2.1 a0 0) 5 1 rfl inX5 (by decide) tw391 (Or.inl rfl) rfl dX5_carryGood_141 (by rw [e25]; exact h22) rfl (fun _ => h26) ?_
        refine v_bM (fun M27 e28 => ?_)
        refine v_iinc (ls' := [some (pA a0), some (pA a1), some (pI a2), some (pI (imin 54 r1)), some (pI (w32 (s16.1 + 1))), some (pA (s20.2.1 a0 0)), none, none]) dX5_carryGood_144 (by decide) rfl rfl ?_
        refine v_goto (tgt := 46) dX5_carryGood_147 (by decide) ?_
        exact v_drop [some (pA a0), some (pA a1), some (pI a2), some (pI (imin 54 r1)), some (pI (w32 (s16.1 + 1))), none, none, none] (ls_s (ls_s (ls_s (ls_s (ls_s (ls_n (ls_n (ls_n ls_e)))))))) (hrec15 (w32 (s16.1 + 1), M27))
      · refine v_iload dX5_carryGood_65 rfl ?_
        refine v_aload_n dX5_carryGood_67 rfl ?_
        refine v_iload dX5_carryGood_68 rfl ?_
        refine v_iload_n dX5_carryGood_70 rfl ?_
        refine v_if (fun h31 => ?_)
        refine v_cV (mi := mX5_carryGood) (c0 := 0) (c1 := 0) (As := [pI s16.1, pI a2]) (st := [pI s20.1]) (kX7_lackOf d (by omega) _ _ _ _) rfl h31 rfl okX7_lackOf (Or.inl tw901) tw707 tw708 rfl (Nat.le_of_ble_eq_true rfl) dX5_carryGood_71 (fun r29 => [pI r29, pI s20.1]) (fun r29 => s20.2) (fun _ => rfl) (fun _ => rfl) (fun r29 h30 => ?_) rfl
        refine v_iadd dX5_carryGood_74 ?_
        refine v_istore (ls' := [some (pA a0), some (pA a1), some (pI a2), some (pI (imin 54 r1)), some (pI s16.1), some (pI s20.1), some (pI (w32 (s20.1 + r29))), none]) dX5_carryGood_75 (by decide) rfl ?_
        refine v_aload_n dX5_carryGood_77 rfl ?_
        refine v_iload dX5_carryGood_78 rfl ?_
        refine v_aload_n dX5_carryGood_80 rfl ?_
        refine v_iload dX5_carryGood_81 rfl ?_
        refine v_iload_n dX5_carryGood_83 rfl ?_
        refine v_cV (mi := mX5_carryGood) (c0 := 0) (c1 := 0) (As := [pI s16.1, pI a2]) (st := [pI (w32 (s20.1 + r29)), pA a0]) (kX7_spareOf d (by omega) _ _ _ _) rfl h31 rfl okX7_spareOf (Or.inl tw876) tw701 tw702 rfl (Nat.le_of_ble_eq_true rfl) dX5_carryGood_84 (fun r32 => [pI r32, pI (w32 (s20.1 + r29)), pA a0]) (fun r32 => s20.2) (fun _ => rfl) (fun _ => rfl) (fun r32 h33 => ?_) rfl
        refine v_isub dX5_carryGood_87 ?_
        refine v_iload dX5_carryGood_88 rfl ?_
        refine v_if (fun h36 => ?_)
        refine v_cV (mi := mX5_carryGood) (c0 := 0) (c1 := 0) (As := [pI (w32 ((w32 (s20.1 + r29)) - r32)), pI (w32 (s20.1 + r29))]) (st := []) (kX5_leastOf d (by omega) _ _ _ _) rfl h36 rfl okX5_leastOf (Or.inl tw902) tw904 tp18 rfl (Nat.le_of_ble_eq_true rfl) dX5_carryGood_90 (fun r34 => [pI r34]) (fun r34 => s20.2) (fun _ => rfl) (fun _ => rfl) (fun r34 h35 => ?_) rfl
        refine v_istore (ls' := [some (pA a0), some (pA a1), some (pI a2), some (pI (imin 54 r1)), some (pI s16.1), some (pI s20.1), some (pI (w32 (s20.1 + r29))), some (pI r34)]) dX5_carryGood_93 (by decide) rfl ?_
        refine v_aload_n dX5_carryGood_95 rfl ?_
        refine v_get (v := pA (s20.2.1 a0 1)) 5 1 rfl inX5 (by decide) tw391 dX5_carryGood_96 h36 rfl ?_
        refine v_bipush dX5_carryGood_99 (by decide) ?_
        refine v_iload dX5_carryGood_101 rfl ?_
        refine v_iadd dX5_carryGood_103 ?_
        refine v_ldc (n := 1000000) dX5_carryGood_104 (by decide) tw899 ?_
        refine v_iload dX5_carryGood_106 rfl ?_
        refine v_iload dX5_carryGood_108 rfl ?_
        refine v_mabs (mi := mX5_carryGood) tw906 tw907 tw12 tw908 (Nat.le_of_ble_eq_true rfl) dX5_carryGood_110 ?_
        refine v_iadd dX5_carryGood_113 ?_
        refine v_mmin (mi := mX5_carryGood) tw877 tw469 tw12 tw470 (Nat.le_of_ble_eq_true rfl) dX5_carryGood_114 ?_
        refine v_if (fun h37 => ?_)
        refine v_iastore h37 dX5_carryGood_117 ?_
        refine v_bM (fun M38 e39 => ?_)
        refine v_iinc (ls' := [some (pA a0), some (pA a1), some (pI a2), some (pI (imin 54 r1)), some (pI s16.1), some (pI (w32 (s20.1 + 1))), some (pI (w32 (s20.1 + r29))), some (pI r34)]) dX5_carryGood_118 (by decide) rfl rfl ?_
        refine v_goto (tgt := 59) dX5_carryGood_121 (by decide) ?_
        exact v_drop [some (pA a0), some (pA a1), some (pI a2), some (pI (imin 54 r1)), some (pI s16.1), some (pI (w32 (s20.1 + 1))), none, none] (ls_s (ls_s (ls_s (ls_s (ls_s (ls_s (ls_n (ls_n ls_e)))))))) (hrec19 (w32 (s20.1 + 1), M38))
    · refine v_aload_n dX5_carryGood_150 rfl ?_
      refine v_if (fun h40 => ?_)
      refine v_get (v := pA (s16.2.1 a0 0)) 5 0 rfl inX5 (by decide) tw390 dX5_carryGood_151 h40 rfl ?_
      refine v_bipush dX5_carryGood_154 (by decide) ?_
      refine v_if (fun h41 => ?_)
      refine v_iaload h41 dX5_carryGood_156 ?_
      exact v_ireturn dX5_carryGood_157 rfl rfl
theorem dX5_carryAll_0 : decode cX5_carryAll 0 = .ok (.aload_n 1, 1) := by decide +kernel
theorem dX5_carryAll_1 : decode cX5_carryAll 1 = .ok (.invokestatic 57, 3) := by decide +kernel
theorem dX5_carryAll_4 : decode cX5_carryAll 4 = .ok (.ifCond .ne 5, 3) := by decide +kernel
theorem dX5_carryAll_7 : decode cX5_carryAll 7 = .ok (.iconst (-1), 1) := by decide +kernel
theorem dX5_carryAll_8 : decode cX5_carryAll 8 = .ok (.ireturn, 1) := by decide +kernel
theorem dX5_carryAll_9 : decode cX5_carryAll 9 = .ok (.iconst 0, 1) := by decide +kernel
theorem dX5_carryAll_10 : decode cX5_carryAll 10 = .ok (.istore_n 2, 1) := by decide +kernel
theorem dX5_carryAll_11 : decode cX5_carryAll 11 = .ok (.iconst 0, 1) := by decide +kernel
theorem dX5_carryAll_12 : decode cX5_carryAll 12 = .ok (.istore_n 3, 1) := by decide +kernel
theorem dX5_carryAll_13 : decode cX5_carryAll 13 = .ok (.iload_n 3, 1) := by decide +kernel
theorem dX5_carryAll_14 : decode cX5_carryAll 14 = .ok (.iconst 5, 1) := by decide +kernel
theorem dX5_carryAll_15 : decode cX5_carryAll 15 = .ok (.if_icmp .ge 25, 3) := by decide +kernel
theorem dX5_carryAll_18 : decode cX5_carryAll 18 = .ok (.iload_n 2, 1) := by decide +kernel
theorem dX5_carryAll_19 : decode cX5_carryAll 19 = .ok (.aload_n 1, 1) := by decide +kernel
theorem dX5_carryAll_20 : decode cX5_carryAll 20 = .ok (.getfield 61, 3) := by decide +kernel
theorem dX5_carryAll_23 : decode cX5_carryAll 23 = .ok (.iload_n 3, 1) := by decide +kernel
theorem dX5_carryAll_24 : decode cX5_carryAll 24 = .ok (.iaload, 1) := by decide +kernel
theorem dX5_carryAll_25 : decode cX5_carryAll 25 = .ok (.aload_n 0, 1) := by decide +kernel
theorem dX5_carryAll_26 : decode cX5_carryAll 26 = .ok (.aload_n 1, 1) := by decide +kernel
theorem dX5_carryAll_27 : decode cX5_carryAll 27 = .ok (.iload_n 3, 1) := by decide +kernel
theorem dX5_carryAll_28 : decode cX5_carryAll 28 = .ok (.invokevirtual 64, 3) := by decide +kernel
theorem dX5_carryAll_31 : decode cX5_carryAll 31 = .ok (.imul, 1) := by decide +kernel
theorem dX5_carryAll_32 : decode cX5_carryAll 32 = .ok (.iadd, 1) := by decide +kernel
theorem dX5_carryAll_33 : decode cX5_carryAll 33 = .ok (.istore_n 2, 1) := by decide +kernel
theorem dX5_carryAll_34 : decode cX5_carryAll 34 = .ok (.iinc 3 1, 3) := by decide +kernel
theorem dX5_carryAll_37 : decode cX5_carryAll 37 = .ok (.goto (-24), 3) := by decide +kernel
theorem dX5_carryAll_40 : decode cX5_carryAll 40 = .ok (.iload_n 2, 1) := by decide +kernel
theorem dX5_carryAll_41 : decode cX5_carryAll 41 = .ok (.ireturn, 1) := by decide +kernel
abbrev mX5_carryAll : MI := (yX5_carryAll, cX5_carryAll, 4, (some .int), noE)
theorem okX5_carryAll : cok mX5_carryAll 1 := ⟨tw893, tw9, by decide, by decide, by decide, by decide +kernel⟩
def fX5_carryAll (M : Mem) (a0 a1 : Int) : Option (Int × Mem) :=
  (fX5_isEnough M a1).bind fun r1 => if r1 = 0 then (some ((-1), M)) else (iterC (fun (rec4 : (Int × Int × Mem) → Option (Int × Mem)) (s5 : Int × Int × Mem) => if s5.2.1 < 5 then (if s5.2.2.2.1 a1 = 7 then if s5.2.2.2.1 (s5.2.2.1 a1 6) = 12 ∧ (0 : Int) ≤ s5.2.1 ∧ s5.2.1 < s5.2.2.2.2.1 (s5.2.2.1 a1 6) then if s5.2.2.2.1 a0 = 5 then (fX5_carryGood s5.2.2 a0 a1 s5.2.1).bind fun r9 => rec4 (w32 (s5.1 + (w32 ((s5.2.2.1 (s5.2.2.1 a1 6) s5.2.1) * r9.1))), w32 (s5.2.1 + 1), r9.2) else none else none else none) else (some (s5.1, s5.2.2))) BIG (0, 0, M))
set_option maxRecDepth 100000 in
set_option maxHeartbeats 4000000 in
theorem kX5_carryAll (d : Nat) (hd : 4 ≤ d) (M : Mem) (a0 a1 : Int) : Ct mX5_carryAll d 0 0 [pA a0, pA a1] M dIM (fX5_carryAll M a0 a1) := by
  obtain ⟨d, rfl⟩ : ∃ k, d = k + 1 := ⟨d - 1, by omega⟩
  refine Ct.of 2 (fun _ _ _ => trivial) (by decide +kernel) rfl ?_
  unfold fX5_carryAll
  refine v_aload_n dX5_carryAll_0 rfl ?_
  refine v_cS (mi := mX5_carryAll) (c0 := 0) (c1 := 0) (As := [pA a1]) (st := []) (kX5_isEnough d (by omega) _ _) okX5_isEnough (Or.inl tw894) tw858 rfl (Nat.le_of_ble_eq_true rfl) dX5_carryAll_1 (fun r1 => [pI r1]) (fun r1 => M) (fun _ => rfl) (fun _ => rfl) (fun r1 h2 => ?_) rfl
  refine v_if_ne (tgt := 9) dX5_carryAll_4 (by decide) (fun c3 => ?_) (fun c3 => ?_)
  · refine v_iconst dX5_carryAll_7 (by decide) ?_
    exact v_ireturn dX5_carryAll_8 rfl rfl
  · refine v_iconst dX5_carryAll_9 (by decide) ?_
    refine v_istore_n (ls' := [some (pA a0), some (pA a1), some (pI 0), none]) dX5_carryAll_10 (by decide) rfl ?_
    refine v_iconst dX5_carryAll_11 (by decide) ?_
    refine v_istore_n (ls' := [some (pA a0), some (pA a1), some (pI 0), some (pI 0)]) dX5_carryAll_12 (by decide) rfl ?_
    refine v_loop (fun (s5 : Int × Int × Mem) => [some (pA a0), some (pA a1), some (pI s5.1), some (pI s5.2.1)]) (fun (s5 : Int × Int × Mem) => s5.2.2) (s0 := (0, 0, M)) ?_
    intro rec4 hrec4 s5
    refine v_iload_n dX5_carryAll_13 rfl ?_
    refine v_iconst dX5_carryAll_14 (by decide) ?_
    refine v_icmp_ge (tgt := 40) dX5_carryAll_15 (by decide) (fun c6 => ?_) (fun c6 => ?_)
    · refine v_iload_n dX5_carryAll_18 rfl ?_
      refine v_aload_n dX5_carryAll_19 rfl ?_
      refine v_if (fun h7 => ?_)
      refine v_get (v := pA (s5.2.2.1 a1 6)) 7 6 rfl inX7 (by decide) tw87 dX5_carryAll_20 h7 rfl ?_
      refine v_iload_n dX5_carryAll_23 rfl ?_
      refine v_if (fun h8 => ?_)
      refine v_iaload h8 dX5_carryAll_24 ?_
      refine v_aload_n dX5_carryAll_25 rfl ?_
      refine v_aload_n dX5_carryAll_26 rfl ?_
      refine v_iload_n dX5_carryAll_27 rfl ?_
      refine v_if (fun h11 => ?_)
      refine v_cV (mi := mX5_carryAll) (c0 := 0) (c1 := 0) (As := [pA a1, pI s5.2.1]) (st := [pI (s5.2.2.1 (s5.2.2.1 a1 6) s5.2.1), pI s5.1]) (kX5_carryGood d (by omega) _ _ _ _) rfl h11 rfl okX5_carryGood (Or.inl tw895) tw897 tp17 rfl (Nat.le_of_ble_eq_true rfl) dX5_carryAll_28 (fun r9 => [pI r9.1, pI (s5.2.2.1 (s5.2.2.1 a1 6) s5.2.1), pI s5.1]) (fun r9 => r9.2) (fun _ => rfl) (fun _ => rfl) (fun r9 h10 => ?_) rfl
      refine v_imul dX5_carryAll_31 ?_
      refine v_iadd dX5_carryAll_32 ?_
      refine v_istore_n (ls' := [some (pA a0), some (pA a1), some (pI (w32 (s5.1 + (w32 ((s5.2.2.1 (s5.2.2.1 a1 6) s5.2.1) * r9.1))))), some (pI s5.2.1)]) dX5_carryAll_33 (by decide) rfl ?_
      refine v_iinc (ls' := [some (pA a0), some (pA a1), some (pI (w32 (s5.1 + (w32 ((s5.2.2.1 (s5.2.2.1 a1 6) s5.2.1) * r9.1))))), some (pI (w32 (s5.2.1 + 1)))]) dX5_carryAll_34 (by decide) rfl rfl ?_
      refine v_goto (tgt := 13) dX5_carryAll_37 (by decide) ?_
      exact hrec4 (w32 (s5.1 + (w32 ((s5.2.2.1 (s5.2.2.1 a1 6) s5.2.1) * r9.1))), w32 (s5.2.1 + 1), r9.2)
    · refine v_iload_n dX5_carryAll_40 rfl ?_
      exact v_ireturn dX5_carryAll_41 rfl rfl
theorem dX2_init_0 : decode cX2_init 0 = .ok (.aload_n 0, 1) := by decide +kernel
theorem dX2_init_1 : decode cX2_init 1 = .ok (.invokespecial 3, 3) := by decide +kernel
theorem dX2_init_4 : decode cX2_init 4 = .ok (.aload_n 0, 1) := by decide +kernel
theorem dX2_init_5 : decode cX2_init 5 = .ok (.iconst 5, 1) := by decide +kernel
theorem dX2_init_6 : decode cX2_init 6 = .ok (.newarray .int, 2) := by decide +kernel
theorem dX2_init_8 : decode cX2_init 8 = .ok (.putfield 9, 3) := by decide +kernel
theorem dX2_init_11 : decode cX2_init 11 = .ok (.aload_n 0, 1) := by decide +kernel
theorem dX2_init_12 : decode cX2_init 12 = .ok (.iconst 0, 1) := by decide +kernel
theorem dX2_init_13 : decode cX2_init 13 = .ok (.putfield 15, 3) := by decide +kernel
theorem dX2_init_16 : decode cX2_init 16 = .ok (.aload_n 0, 1) := by decide +kernel
theorem dX2_init_17 : decode cX2_init 17 = .ok (.iconst 5, 1) := by decide +kernel
theorem dX2_init_18 : decode cX2_init 18 = .ok (.newarray .int, 2) := by decide +kernel
theorem dX2_init_20 : decode cX2_init 20 = .ok (.putfield 19, 3) := by decide +kernel
theorem dX2_init_23 : decode cX2_init 23 = .ok (.aload_n 0, 1) := by decide +kernel
theorem dX2_init_24 : decode cX2_init 24 = .ok (.iconst 0, 1) := by decide +kernel
theorem dX2_init_25 : decode cX2_init 25 = .ok (.putfield 22, 3) := by decide +kernel
theorem dX2_init_28 : decode cX2_init 28 = .ok (.aload_n 0, 1) := by decide +kernel
theorem dX2_init_29 : decode cX2_init 29 = .ok (.aload_n 1, 1) := by decide +kernel
theorem dX2_init_30 : decode cX2_init 30 = .ok (.putfield 25, 3) := by decide +kernel
theorem dX2_init_33 : decode cX2_init 33 = .ok (.return_, 1) := by decide +kernel
abbrev mX2_init : MI := (yX2_init, cX2_init, 2, none, noE)
theorem okX2_init : cok mX2_init 1 := ⟨tw401, tw10, by decide, by decide, by decide, by decide +kernel⟩
def fX2_init (M : Mem) (a0 a1 : Int) : Option Mem :=
  if (0 : Int) ≤ a0 then bM (mnew M 12 5) fun M2 => if M2.2.1 a0 = 2 then if (-1 : Int) ≤ (M.2.2.2 : Int) then bM (mst M2 a0 0 (M.2.2.2 : Int)) fun M6 => bM (mst M6 a0 1 0) fun M8 => bM (mnew M8 12 5) fun M10 => if M10.2.1 a0 = 2 then if (-1 : Int) ≤ (M8.2.2.2 : Int) then bM (mst M10 a0 2 (M8.2.2.2 : Int)) fun M14 => bM (mst M14 a0 4 0) fun M16 => if (-1 : Int) ≤ a1 then bM (mst M16 a0 3 a1) fun M19 => some M19 else none else none else none else none else none else none
set_option maxRecDepth 100000 in
set_option maxHeartbeats 4000000 in
theorem kX2_init (d : Nat) (hd : 1 ≤ d) (M : Mem) (a0 a1 : Int) : Ct mX2_init d 2 10 [pA a0, pA a1] M dV (fX2_init M a0 a1) := by
  obtain ⟨d, rfl⟩ : ∃ k, d = k + 1 := ⟨d - 1, by omega⟩
  refine Ct.of 0 (fun _ _ _ => trivial) (by decide +kernel) rfl ?_
  unfold fX2_init
  refine v_aload_n dX2_init_0 rfl ?_
  refine v_if (fun h1 => ?_)
  refine v_objInit (mi := mX2_init) h1 tw402 tw26 tw27 (Nat.le_of_ble_eq_true rfl) dX2_init_1 ?_
  refine v_aload_n dX2_init_4 rfl ?_
  refine v_iconst dX2_init_5 (by decide) ?_
  refine v_newarray (t := .int) (n := 5) 12 (by decide) (by decide) tw121 dX2_init_6 ?_
  refine v_bM (fun M2 e3 => ?_)
  refine v_if (fun h4 => ?_)
  refine v_if (fun h5 => ?_)
  refine v_put (x := (M.2.2.2 : Int)) 2 0 rfl inX2 (by decide) tw403 (Or.inr ⟨rfl, rfl, rfl⟩) rfl dX2_init_8 h4 rfl (fun _ => h5) ?_
  refine v_bM (fun M6 e7 => ?_)
  refine v_aload_n dX2_init_11 rfl ?_
  refine v_iconst dX2_init_12 (by decide) ?_
  refine v_put (x := 0) 2 1 rfl inX2 (by decide) tw405 (Or.inl rfl) rfl dX2_init_13 (by rw [e7]; exact h4) rfl id ?_
  refine v_bM (fun M8 e9 => ?_)
  refine v_aload_n dX2_init_16 rfl ?_
  refine v_iconst dX2_init_17 (by decide) ?_
  refine v_newarray (t := .int) (n := 5) 12 (by decide) (by decide) tw121 dX2_init_18 ?_
  refine v_bM (fun M10 e11 => ?_)
  refine v_if (fun h12 => ?_)
  refine v_if (fun h13 => ?_)
  refine v_put (x := (M8.2.2.2 : Int)) 2 2 rfl inX2 (by decide) tw407 (Or.inr ⟨rfl, rfl, rfl⟩) rfl dX2_init_20 h12 rfl (fun _ => h13) ?_
  refine v_bM (fun M14 e15 => ?_)
  refine v_aload_n dX2_init_23 rfl ?_
  refine v_iconst dX2_init_24 (by decide) ?_
  refine v_put (x := 0) 2 4 rfl inX2 (by decide) tw409 (Or.inl rfl) rfl dX2_init_25 (by rw [e15]; exact h12) rfl id ?_
  refine v_bM (fun M16 e17 => ?_)
  refine v_aload_n dX2_init_28 rfl ?_
  refine v_aload_n dX2_init_29 rfl ?_
  refine v_if (fun h18 => ?_)
  refine v_put (x := a1) 2 3 rfl inX2 (by decide) tw408 (Or.inl rfl) rfl dX2_init_30 (by rw [e17, e15]; exact h12) rfl (fun _ => h18) ?_
  refine v_bM (fun M19 e20 => ?_)
  exact v_return dX2_init_33 rfl rfl
theorem dX2_keepBetter_0 : decode cX2_keepBetter 0 = .ok (.iload_n 1, 1) := by decide +kernel
theorem dX2_keepBetter_1 : decode cX2_keepBetter 1 = .ok (.aload_n 0, 1) := by decide +kernel
theorem dX2_keepBetter_2 : decode cX2_keepBetter 2 = .ok (.getfield 15, 3) := by decide +kernel
theorem dX2_keepBetter_5 : decode cX2_keepBetter 5 = .ok (.if_icmp .le 19, 3) := by decide +kernel
theorem dX2_keepBetter_8 : decode cX2_keepBetter 8 = .ok (.aload_n 0, 1) := by decide +kernel
theorem dX2_keepBetter_9 : decode cX2_keepBetter 9 = .ok (.iload_n 1, 1) := by decide +kernel
theorem dX2_keepBetter_10 : decode cX2_keepBetter 10 = .ok (.putfield 15, 3) := by decide +kernel
theorem dX2_keepBetter_13 : decode cX2_keepBetter 13 = .ok (.aload_n 0, 1) := by decide +kernel
theorem dX2_keepBetter_14 : decode cX2_keepBetter 14 = .ok (.getfield 19, 3) := by decide +kernel
theorem dX2_keepBetter_17 : decode cX2_keepBetter 17 = .ok (.aload_n 0, 1) := by decide +kernel
theorem dX2_keepBetter_18 : decode cX2_keepBetter 18 = .ok (.getfield 9, 3) := by decide +kernel
theorem dX2_keepBetter_21 : decode cX2_keepBetter 21 = .ok (.invokestatic 61, 3) := by decide +kernel
theorem dX2_keepBetter_24 : decode cX2_keepBetter 24 = .ok (.return_, 1) := by decide +kernel
abbrev mX2_keepBetter : MI := (yX2_keepBetter, cX2_keepBetter, 2, none, noE)
theorem okX2_keepBetter : cok mX2_keepBetter 1 := ⟨tw1134, tw10, by decide, by decide, by decide, by decide +kernel⟩
def fX2_keepBetter (M : Mem) (a0 a1 : Int) : Option Mem :=
  if M.2.1 a0 = 2 then if M.1 a0 1 < a1 then (bM (mst M a0 1 a1) fun M3 => (fX10_copyRow M3 (M3.1 a0 2) (M3.1 a0 0)).bind fun r5 => some r5) else (some M) else none
set_option maxRecDepth 100000 in
set_option maxHeartbeats 4000000 in
theorem kX2_keepBetter (d : Nat) (hd : 2 ≤ d) (M : Mem) (a0 a1 : Int) : Ct mX2_keepBetter d 0 0 [pA a0, pI a1] M dV (fX2_keepBetter M a0 a1) := by
  obtain ⟨d, rfl⟩ : ∃ k, d = k + 1 := ⟨d - 1, by omega⟩
  refine Ct.of 0 (fun _ _ _ => trivial) (by decide +kernel) rfl ?_
  unfold fX2_keepBetter
  refine v_iload_n dX2_keepBetter_0 rfl ?_
  refine v_aload_n dX2_keepBetter_1 rfl ?_
  refine v_if (fun h1 => ?_)
  refine v_get (v := pI (M.1 a0 1)) 2 1 rfl inX2 (by decide) tw405 dX2_keepBetter_2 h1 rfl ?_
  refine v_icmp_le (tgt := 24) dX2_keepBetter_5 (by decide) (fun c2 => ?_) (fun c2 => ?_)
  · refine v_aload_n dX2_keepBetter_8 rfl ?_
    refine v_iload_n dX2_keepBetter_9 rfl ?_
    refine v_put (x := a1) 2 1 rfl inX2 (by decide) tw405 (Or.inl rfl) rfl dX2_keepBetter_10 h1 rfl id ?_
    refine v_bM (fun M3 e4 => ?_)
    refine v_aload_n dX2_keepBetter_13 rfl ?_
    refine v_get (v := pA (M3.1 a0 2)) 2 2 rfl inX2 (by decide) tw407 dX2_keepBetter_14 (by rw [e4]; exact h1) rfl ?_
    refine v_aload_n dX2_keepBetter_17 rfl ?_
    refine v_get (v := pA (M3.1 a0 0)) 2 0 rfl inX2 (by decide) tw403 dX2_keepBetter_18 (by rw [e4]; exact h1) rfl ?_
    refine v_cS (mi := mX2_keepBetter) (c0 := 0) (c1 := 0) (As := [pA (M3.1 a0 2), pA (M3.1 a0 0)]) (st := []) (kX10_copyRow d (by omega) _ _ _) okX10_copyRow (Or.inr nw25) tw651 rfl (Nat.le_of_ble_eq_true rfl) dX2_keepBetter_21 (fun r5 => []) (fun r5 => r5) (fun _ => rfl) (fun _ => rfl) (fun r5 h6 => ?_) rfl
    exact v_return dX2_keepBetter_24 rfl rfl
  · exact v_return dX2_keepBetter_24 rfl rfl
theorem dX2_pick_0 : decode cX2_pick 0 = .ok (.iload_n 1, 1) := by decide +kernel
theorem dX2_pick_1 : decode cX2_pick 1 = .ok (.iconst 5, 1) := by decide +kernel
theorem dX2_pick_2 : decode cX2_pick 2 = .ok (.if_icmp .lt 10, 3) := by decide +kernel
theorem dX2_pick_5 : decode cX2_pick 5 = .ok (.aload_n 0, 1) := by decide +kernel
theorem dX2_pick_6 : decode cX2_pick 6 = .ok (.iload 4, 2) := by decide +kernel
theorem dX2_pick_8 : decode cX2_pick 8 = .ok (.invokevirtual 37, 3) := by decide +kernel
theorem dX2_pick_11 : decode cX2_pick 11 = .ok (.return_, 1) := by decide +kernel
theorem dX2_pick_12 : decode cX2_pick 12 = .ok (.iload_n 2, 1) := by decide +kernel
theorem dX2_pick_13 : decode cX2_pick 13 = .ok (.aload_n 0, 1) := by decide +kernel
theorem dX2_pick_14 : decode cX2_pick 14 = .ok (.getfield 25, 3) := by decide +kernel
theorem dX2_pick_17 : decode cX2_pick 17 = .ok (.getfield 41, 3) := by decide +kernel
theorem dX2_pick_20 : decode cX2_pick 20 = .ok (.aload_n 0, 1) := by decide +kernel
theorem dX2_pick_21 : decode cX2_pick 21 = .ok (.getfield 22, 3) := by decide +kernel
theorem dX2_pick_24 : decode cX2_pick 24 = .ok (.iload_n 1, 1) := by decide +kernel
theorem dX2_pick_25 : decode cX2_pick 25 = .ok (.invokestatic 46, 3) := by decide +kernel
theorem dX2_pick_28 : decode cX2_pick 28 = .ok (.iaload, 1) := by decide +kernel
theorem dX2_pick_29 : decode cX2_pick 29 = .ok (.invokestatic 50, 3) := by decide +kernel
theorem dX2_pick_32 : decode cX2_pick 32 = .ok (.istore 5, 2) := by decide +kernel
theorem dX2_pick_34 : decode cX2_pick 34 = .ok (.iload 5, 2) := by decide +kernel
theorem dX2_pick_36 : decode cX2_pick 36 = .ok (.istore 6, 2) := by decide +kernel
theorem dX2_pick_38 : decode cX2_pick 38 = .ok (.iload 6, 2) := by decide +kernel
theorem dX2_pick_40 : decode cX2_pick 40 = .ok (.ifCond .lt 66, 3) := by decide +kernel
theorem dX2_pick_43 : decode cX2_pick 43 = .ok (.iload_n 3, 1) := by decide +kernel
theorem dX2_pick_44 : decode cX2_pick 44 = .ok (.iload 6, 2) := by decide +kernel
theorem dX2_pick_46 : decode cX2_pick 46 = .ok (.aload_n 0, 1) := by decide +kernel
theorem dX2_pick_47 : decode cX2_pick 47 = .ok (.getfield 25, 3) := by decide +kernel
theorem dX2_pick_50 : decode cX2_pick 50 = .ok (.getfield 55, 3) := by decide +kernel
theorem dX2_pick_53 : decode cX2_pick 53 = .ok (.iload_n 1, 1) := by decide +kernel
theorem dX2_pick_54 : decode cX2_pick 54 = .ok (.iaload, 1) := by decide +kernel
theorem dX2_pick_55 : decode cX2_pick 55 = .ok (.imul, 1) := by decide +kernel
theorem dX2_pick_56 : decode cX2_pick 56 = .ok (.isub, 1) := by decide +kernel
theorem dX2_pick_57 : decode cX2_pick 57 = .ok (.istore 7, 2) := by decide +kernel
theorem dX2_pick_59 : decode cX2_pick 59 = .ok (.iload 7, 2) := by decide +kernel
theorem dX2_pick_61 : decode cX2_pick 61 = .ok (.ifCond .lt 39, 3) := by decide +kernel
theorem dX2_pick_64 : decode cX2_pick 64 = .ok (.aload_n 0, 1) := by decide +kernel
theorem dX2_pick_65 : decode cX2_pick 65 = .ok (.getfield 19, 3) := by decide +kernel
theorem dX2_pick_68 : decode cX2_pick 68 = .ok (.iload_n 1, 1) := by decide +kernel
theorem dX2_pick_69 : decode cX2_pick 69 = .ok (.iload 6, 2) := by decide +kernel
theorem dX2_pick_71 : decode cX2_pick 71 = .ok (.iastore, 1) := by decide +kernel
theorem dX2_pick_72 : decode cX2_pick 72 = .ok (.aload_n 0, 1) := by decide +kernel
theorem dX2_pick_73 : decode cX2_pick 73 = .ok (.iload_n 1, 1) := by decide +kernel
theorem dX2_pick_74 : decode cX2_pick 74 = .ok (.iconst 1, 1) := by decide +kernel
theorem dX2_pick_75 : decode cX2_pick 75 = .ok (.iadd, 1) := by decide +kernel
theorem dX2_pick_76 : decode cX2_pick 76 = .ok (.iload_n 2, 1) := by decide +kernel
theorem dX2_pick_77 : decode cX2_pick 77 = .ok (.iload 6, 2) := by decide +kernel
theorem dX2_pick_79 : decode cX2_pick 79 = .ok (.isub, 1) := by decide +kernel
theorem dX2_pick_80 : decode cX2_pick 80 = .ok (.iload 7, 2) := by decide +kernel
theorem dX2_pick_82 : decode cX2_pick 82 = .ok (.iload 4, 2) := by decide +kernel
theorem dX2_pick_84 : decode cX2_pick 84 = .ok (.iload 6, 2) := by decide +kernel
theorem dX2_pick_86 : decode cX2_pick 86 = .ok (.aload_n 0, 1) := by decide +kernel
theorem dX2_pick_87 : decode cX2_pick 87 = .ok (.getfield 25, 3) := by decide +kernel
theorem dX2_pick_90 : decode cX2_pick 90 = .ok (.getfield 58, 3) := by decide +kernel
theorem dX2_pick_93 : decode cX2_pick 93 = .ok (.iload_n 1, 1) := by decide +kernel
theorem dX2_pick_94 : decode cX2_pick 94 = .ok (.iaload, 1) := by decide +kernel
theorem dX2_pick_95 : decode cX2_pick 95 = .ok (.imul, 1) := by decide +kernel
theorem dX2_pick_96 : decode cX2_pick 96 = .ok (.iadd, 1) := by decide +kernel
theorem dX2_pick_97 : decode cX2_pick 97 = .ok (.invokestatic 33, 3) := by decide +kernel
theorem dX2_pick_100 : decode cX2_pick 100 = .ok (.iinc 6 (-1), 3) := by decide +kernel
theorem dX2_pick_103 : decode cX2_pick 103 = .ok (.goto (-65), 3) := by decide +kernel
theorem dX2_pick_106 : decode cX2_pick 106 = .ok (.return_, 1) := by decide +kernel
abbrev mX2_pick : MI := (yX2_pick, cX2_pick, 8, none, noE)
theorem okX2_pick : cok mX2_pick 5 := ⟨tw1130, tw10, by decide, by decide, by decide, by decide +kernel⟩
def fX2_pick : Nat → Mem → Int → Int → Int → Int → Int → Option Mem
  | 0, _, _, _, _, _, _ => none
  | fu + 1, M, a0, a1, a2, a3, a4 => if a1 < 5 then (if M.2.1 a0 = 2 then if M.2.1 (M.1 a0 3) = 7 then (fX10_cell M (M.1 a0 4) a1).bind fun r4 => if M.2.1 (M.1 (M.1 a0 3) 2) = 12 ∧ (0 : Int) ≤ r4 ∧ r4 < M.2.2.1 (M.1 (M.1 a0 3) 2) then iterC (fun (rec7 : (Int × Mem) → Option Mem) (s8 : Int × Mem) => if s8.1 < 0 then (some s8.2) else (if s8.2.2.1 a0 = 2 then if s8.2.2.1 (s8.2.1 a0 3) = 7 then if s8.2.2.1 (s8.2.1 (s8.2.1 a0 3) 6) = 12 ∧ (0 : Int) ≤ a1 ∧ a1 < s8.2.2.2.1 (s8.2.1 (s8.2.1 a0 3) 6) then if w32 (a3 - (w32 (s8.1 * (s8.2.1 (s8.2.1 (s8.2.1 a0 3) 6) a1)))) < 0 then (rec7 (w32 (s8.1 + (-1)), s8.2)) else (if s8.2.2.1 (s8.2.1 a0 2) = 12 ∧ (0 : Int) ≤ a1 ∧ a1 < s8.2.2.2.1 (s8.2.1 a0 2) then bM (mst s8.2 (s8.2.1 a0 2) a1 s8.1) fun M15 => if M15.2.1 (M15.1 a0 3) = 7 then if M15.2.1 (M15.1 (M15.1 a0 3) 7) = 12 ∧ (0 : Int) ≤ a1 ∧ a1 < M15.2.2.1 (M15.1 (M15.1 a0 3) 7) then (fX2_pick fu M15 a0 (w32 (a1 + 1)) (w32 (a2 - s8.1)) (w32 (a3 - (w32 (s8.1 * (s8.2.1 (s8.2.1 (s8.2.1 a0 3) 6) a1))))) (w32 (a4 + (w32 (s8.1 * (M15.1 (M15.1 (M15.1 a0 3) 7) a1)))))).bind fun r19 => rec7 (w32 (s8.1 + (-1)), r19) else none else none else none) else none else none else none)) BIG (imin a2 (M.1 (M.1 (M.1 a0 3) 2) r4), M) else none else none else none) else (if M.2.1 a0 = 2 then (fX2_keepBetter M a0 a4).bind fun r21 => some r21 else none)
set_option maxRecDepth 100000 in
set_option maxHeartbeats 4000000 in
theorem kX2_pick : ∀ (fu d : Nat), fu + 4 ≤ d → ∀ (M : Mem) (a0 a1 a2 a3 a4 : Int), Ct mX2_pick d 0 0 [pA a0, pI a1, pI a2, pI a3, pI a4] M dV (fX2_pick fu M a0 a1 a2 a3 a4)
  | 0, d, hd, M, a0, a1, a2, a3, a4 => fun r h => by cases h
  | fu + 1, d, hd, M, a0, a1, a2, a3, a4 => by
    obtain ⟨d, rfl⟩ : ∃ k, d = k + 1 := ⟨d - 1, by omega⟩
    refine Ct.of 3 (fun _ _ _ => trivial) (by decide +kernel) rfl ?_
    unfold fX2_pick
    refine v_iload_n dX2_pick_0 rfl ?_
    refine v_iconst dX2_pick_1 (by decide) ?_
    refine v_icmp_lt (tgt := 12) dX2_pick_2 (by decide) (fun c1 => ?_) (fun c1 => ?_)
    · refine v_iload_n dX2_pick_12 rfl ?_
      refine v_aload_n dX2_pick_13 rfl ?_
      refine v_if (fun h2 => ?_)
      refine v_get (v := pA (M.1 a0 3)) 2 3 rfl inX2 (by decide) tw408 dX2_pick_14 h2 rfl ?_
      refine v_if (fun h3 => ?_)
      refine v_get (v := pA (M.1 (M.1 a0 3) 2)) 7 2 rfl inX7 (by decide) tw68 dX2_pick_17 h3 rfl ?_
      refine v_aload_n dX2_pick_20 rfl ?_
      refine v_get (v := pI (M.1 a0 4)) 2 4 rfl inX2 (by decide) tw409 dX2_pick_21 h2 rfl ?_
      refine v_iload_n dX2_pick_24 rfl ?_
      refine v_cS (mi := mX2_pick) (c0 := 0) (c1 := 0) (As := [pI (M.1 a0 4), pI a1]) (st := [pA (M.1 (M.1 a0 3) 2), pI a2]) (kX10_cell d (by omega) _ _ _) okX10_cell (Or.inr nw26) tw621 rfl (Nat.le_of_ble_eq_true rfl) dX2_pick_25 (fun r4 => [pI r4, pA (M.1 (M.1 a0 3) 2), pI a2]) (fun r4 => M) (fun _ => rfl) (fun _ => rfl) (fun r4 h5 => ?_) rfl
      refine v_if (fun h6 => ?_)
      refine v_iaload h6 dX2_pick_28 ?_
      refine v_mmin (mi := mX2_pick) tw1137 tw469 tw12 tw470 (Nat.le_of_ble_eq_true rfl) dX2_pick_29 ?_
      refine v_istore (ls' := [some (pA a0), some (pI a1), some (pI a2), some (pI a3), some (pI a4), some (pI (imin a2 (M.1 (M.1 (M.1 a0 3) 2) r4))), none, none]) dX2_pick_32 (by decide) rfl ?_
      refine v_iload dX2_pick_34 rfl ?_
      refine v_istore (ls' := [some (pA a0), some (pI a1), some (pI a2), some (pI a3), some (pI a4), some (pI (imin a2 (M.1 (M.1 (M.1 a0 3) 2) r4))), some (pI (imin a2 (M.1 (M.1 (M.1 a0 3) 2) r4))), none]) dX2_pick_36 (by decide) rfl ?_
      refine v_drop [some (pA a0), some (pI a1), some (pI a2), some (pI a3), some (pI a4), none, some (pI (imin a2 (M.1 (M.1 (M.1 a0 3) 2) r4))), none] (ls_s (ls_s (ls_s (ls_s (ls_s (ls_n (ls_s (ls_n ls_e)))))))) ?_
      refine v_loop (fun (s8 : Int × Mem) => [some (pA a0), some (pI a1), some (pI a2), some (pI a3), some (pI a4), none, some (pI s8.1), none]) (fun (s8 : Int × Mem) => s8.2) (s0 := (imin a2 (M.1 (M.1 (M.1 a0 3) 2) r4), M)) ?_
      intro rec7 hrec7 s8
      refine v_iload dX2_pick_38 rfl ?_
      refine v_if_lt (tgt := 106) dX2_pick_40 (by decide) (fun c9 => ?_) (fun c9 => ?_)
      · exact v_return dX2_pick_106 rfl rfl
      · refine v_iload_n dX2_pick_43 rfl ?_
        refine v_iload dX2_pick_44 rfl ?_
        refine v_aload_n dX2_pick_46 rfl ?_
        refine v_if (fun h10 => ?_)
        refine v_get (v := pA (s8.2.1 a0 3)) 2 3 rfl inX2 (by decide) tw408 dX2_pick_47 h10 rfl ?_
        refine v_if (fun h11 => ?_)
        refine v_get (v := pA (s8.2.1 (s8.2.1 a0 3) 6)) 7 6 rfl inX7 (by decide) tw85 dX2_pick_50 h11 rfl ?_
        refine v_iload_n dX2_pick_53 rfl ?_
        refine v_if (fun h12 => ?_)
        refine v_iaload h12 dX2_pick_54 ?_
        refine v_imul dX2_pick_55 ?_
        refine v_isub dX2_pick_56 ?_
        refine v_istore (ls' := [some (pA a0), some (pI a1), some (pI a2), some (pI a3), some (pI a4), none, some (pI s8.1), some (pI (w32 (a3 - (w32 (s8.1 * (s8.2.1 (s8.2.1 (s8.2.1 a0 3) 6) a1))))))]) dX2_pick_57 (by decide) rfl ?_
        refine v_iload dX2_pick_59 rfl ?_
        refine v_if_lt (tgt := 100) dX2_pick_61 (by decide) (fun c13 => ?_) (fun c13 => ?_)
        · refine v_iinc (ls' := [some (pA a0), some (pI a1), some (pI a2), some (pI a3), some (pI a4), none, some (pI (w32 (s8.1 + (-1)))), some (pI (w32 (a3 - (w32 (s8.1 * (s8.2.1 (s8.2.1 (s8.2.1 a0 3) 6) a1))))))]) dX2_pick_100 (by decide) rfl rfl ?_
          refine v_goto (tgt := 38) dX2_pick_103 (by decide) ?_
          exact v_drop [some (pA a0), some (pI a1), some (pI a2), some (pI a3), some (pI a4), none, some (pI (w32 (s8.1 + (-1)))), none] (ls_s (ls_s (ls_s (ls_s (ls_s (ls_n (ls_s (ls_n ls_e)))))))) (hrec7 (w32 (s8.1 + (-1)), s8.2))
        · refine v_aload_n dX2_pick_64 rfl ?_
          refine v_get (v := pA (s8.2.1 a0 2)) 2 2 rfl inX2 (by decide) tw407 dX2_pick_65 h10 rfl ?_
          refine v_iload_n dX2_pick_68 rfl ?_
          refine v_iload dX2_pick_69 rfl ?_
          refine v_if (fun h14 => ?_)
          refine v_iastore h14 dX2_pick_71 ?_
          refine v_bM (fun M15 e16 => ?_)
          refine v_aload_n dX2_pick_72 rfl ?_
          refine v_iload_n dX2_pick_73 rfl ?_
          refine v_iconst dX2_pick_74 (by decide) ?_
          refine v_iadd dX2_pick_75 ?_
          refine v_iload_n dX2_pick_76 rfl ?_
          refine v_iload dX2_pick_77 rfl ?_
          refine v_isub dX2_pick_79 ?_
          refine v_iload dX2_pick_80 rfl ?_
          refine v_iload dX2_pick_82 rfl ?_
          refine v_iload dX2_pick_84 rfl ?_
          refine v_aload_n dX2_pick_86 rfl ?_
          refine v_get (v := pA (M15.1 a0 3)) 2 3 rfl inX2 (by decide) tw408 dX2_pick_87 (by rw [e16]; exact h10) rfl ?_
          refine v_if (fun h17 => ?_)
          refine v_get (v := pA (M15.1 (M15.1 a0 3) 7)) 7 7 rfl inX7 (by decide) tw90 dX2_pick_90 h17 rfl ?_
          refine v_iload_n dX2_pick_93 rfl ?_
          refine v_if (fun h18 => ?_)
          refine v_iaload h18 dX2_pick_94 ?_
          refine v_imul dX2_pick_95 ?_
          refine v_iadd dX2_pick_96 ?_
          refine v_cS (mi := mX2_pick) (c0 := 0) (c1 := 0) (As := [pA a0, pI (w32 (a1 + 1)), pI (w32 (a2 - s8.1)), pI (w32 (a3 - (w32 (s8.1 * (s8.2.1 (s8.2.1 (s8.2.1 a0 3) 6) a1))))), pI (w32 (a4 + (w32 (s8.1 * (M15.1 (M15.1 (M15.1 a0 3) 7) a1)))))]) (st := []) (kX2_pick fu d (by omega) _ _ _ _ _ _) okX2_pick (Or.inl tw1128) tw1129 rfl (Nat.le_of_ble_eq_true rfl) dX2_pick_97 (fun r19 => []) (fun r19 => r19) (fun _ => rfl) (fun _ => rfl) (fun r19 h20 => ?_) rfl
          refine v_iinc (ls' := [some (pA a0), some (pI a1), some (pI a2), some (pI a3), some (pI a4), none, some (pI (w32 (s8.1 + (-1)))), some (pI (w32 (a3 - (w32 (s8.1 * (s8.2.1 (s8.2.1 (s8.2.1 a0 3) 6) a1))))))]) dX2_pick_100 (by decide) rfl rfl ?_
          refine v_goto (tgt := 38) dX2_pick_103 (by decide) ?_
          exact v_drop [some (pA a0), some (pI a1), some (pI a2), some (pI a3), some (pI a4), none, some (pI (w32 (s8.1 + (-1)))), none] (ls_s (ls_s (ls_s (ls_s (ls_s (ls_n (ls_s (ls_n ls_e)))))))) (hrec7 (w32 (s8.1 + (-1)), r19))
    · refine v_aload_n dX2_pick_5 rfl ?_
      refine v_iload dX2_pick_6 rfl ?_
      refine v_if (fun h23 => ?_)
      refine v_cV (mi := mX2_pick) (c0 := 0) (c1 := 0) (As := [pI a4]) (st := []) (kX2_keepBetter d (by omega) _ _ _) rfl h23 rfl okX2_keepBetter (Or.inl tw1131) tw1133 tp26 rfl (Nat.le_of_ble_eq_true rfl) dX2_pick_8 (fun r21 => []) (fun r21 => r21) (fun _ => rfl) (fun _ => rfl) (fun r21 h22 => ?_) rfl
      exact v_return dX2_pick_11 rfl rfl
theorem dX2_choose_0 : decode cX2_choose 0 = .ok (.aload_n 0, 1) := by decide +kernel
theorem dX2_choose_1 : decode cX2_choose 1 = .ok (.aload_n 1, 1) := by decide +kernel
theorem dX2_choose_2 : decode cX2_choose 2 = .ok (.putfield 25, 3) := by decide +kernel
theorem dX2_choose_5 : decode cX2_choose 5 = .ok (.aload_n 0, 1) := by decide +kernel
theorem dX2_choose_6 : decode cX2_choose 6 = .ok (.iload_n 2, 1) := by decide +kernel
theorem dX2_choose_7 : decode cX2_choose 7 = .ok (.putfield 22, 3) := by decide +kernel
theorem dX2_choose_10 : decode cX2_choose 10 = .ok (.aload_n 0, 1) := by decide +kernel
theorem dX2_choose_11 : decode cX2_choose 11 = .ok (.iconst (-1), 1) := by decide +kernel
theorem dX2_choose_12 : decode cX2_choose 12 = .ok (.putfield 15, 3) := by decide +kernel
theorem dX2_choose_15 : decode cX2_choose 15 = .ok (.aload_n 0, 1) := by decide +kernel
theorem dX2_choose_16 : decode cX2_choose 16 = .ok (.getfield 9, 3) := by decide +kernel
theorem dX2_choose_19 : decode cX2_choose 19 = .ok (.iconst 0, 1) := by decide +kernel
theorem dX2_choose_20 : decode cX2_choose 20 = .ok (.invokestatic 29, 3) := by decide +kernel
theorem dX2_choose_23 : decode cX2_choose 23 = .ok (.aload_n 0, 1) := by decide +kernel
theorem dX2_choose_24 : decode cX2_choose 24 = .ok (.getfield 19, 3) := by decide +kernel
theorem dX2_choose_27 : decode cX2_choose 27 = .ok (.iconst 0, 1) := by decide +kernel
theorem dX2_choose_28 : decode cX2_choose 28 = .ok (.invokestatic 29, 3) := by decide +kernel
theorem dX2_choose_31 : decode cX2_choose 31 = .ok (.aload_n 0, 1) := by decide +kernel
theorem dX2_choose_32 : decode cX2_choose 32 = .ok (.iconst 0, 1) := by decide +kernel
theorem dX2_choose_33 : decode cX2_choose 33 = .ok (.iload_n 3, 1) := by decide +kernel
theorem dX2_choose_34 : decode cX2_choose 34 = .ok (.iload 4, 2) := by decide +kernel
theorem dX2_choose_36 : decode cX2_choose 36 = .ok (.iconst 0, 1) := by decide +kernel
theorem dX2_choose_37 : decode cX2_choose 37 = .ok (.invokestatic 33, 3) := by decide +kernel
theorem dX2_choose_40 : decode cX2_choose 40 = .ok (.return_, 1) := by decide +kernel
abbrev mX2_choose : MI := (yX2_choose, cX2_choose, 5, none, noE)
theorem okX2_choose : cok mX2_choose 4 := ⟨tw1126, tw10, by decide, by decide, by decide, by decide +kernel⟩
def fX2_choose (M : Mem) (a0 a1 a2 a3 a4 : Int) : Option Mem :=
  if M.2.1 a0 = 2 then if (-1 : Int) ≤ a1 then bM (mst M a0 3 a1) fun M3 => bM (mst M3 a0 4 a2) fun M5 => bM (mst M5 a0 1 (-1)) fun M7 => (fX10_fillRow M7 (M7.1 a0 0) 0).bind fun r9 => if r9.2.1 a0 = 2 then (fX10_fillRow r9 (r9.1 a0 2) 0).bind fun r12 => (fX2_pick 20 r12 a0 0 a3 a4 0).bind fun r14 => some r14 else none else none else none
set_option maxRecDepth 100000 in
set_option maxHeartbeats 4000000 in
theorem kX2_choose (d : Nat) (hd : 25 ≤ d) (M : Mem) (a0 a1 a2 a3 a4 : Int) : Ct mX2_choose d 0 0 [pA a0, pA a1, pI a2, pI a3, pI a4] M dV (fX2_choose M a0 a1 a2 a3 a4) := by
  obtain ⟨d, rfl⟩ : ∃ k, d = k + 1 := ⟨d - 1, by omega⟩
  refine Ct.of 0 (fun _ _ _ => trivial) (by decide +kernel) rfl ?_
  unfold fX2_choose
  refine v_aload_n dX2_choose_0 rfl ?_
  refine v_aload_n dX2_choose_1 rfl ?_
  refine v_if (fun h1 => ?_)
  refine v_if (fun h2 => ?_)
  refine v_put (x := a1) 2 3 rfl inX2 (by decide) tw408 (Or.inl rfl) rfl dX2_choose_2 h1 rfl (fun _ => h2) ?_
  refine v_bM (fun M3 e4 => ?_)
  refine v_aload_n dX2_choose_5 rfl ?_
  refine v_iload_n dX2_choose_6 rfl ?_
  refine v_put (x := a2) 2 4 rfl inX2 (by decide) tw409 (Or.inl rfl) rfl dX2_choose_7 (by rw [e4]; exact h1) rfl id ?_
  refine v_bM (fun M5 e6 => ?_)
  refine v_aload_n dX2_choose_10 rfl ?_
  refine v_iconst dX2_choose_11 (by decide) ?_
  refine v_put (x := (-1)) 2 1 rfl inX2 (by decide) tw405 (Or.inl rfl) rfl dX2_choose_12 (by rw [e6, e4]; exact h1) rfl id ?_
  refine v_bM (fun M7 e8 => ?_)
  refine v_aload_n dX2_choose_15 rfl ?_
  refine v_get (v := pA (M7.1 a0 0)) 2 0 rfl inX2 (by decide) tw403 dX2_choose_16 (by rw [e8, e6, e4]; exact h1) rfl ?_
  refine v_iconst dX2_choose_19 (by decide) ?_
  refine v_cS (mi := mX2_choose) (c0 := 0) (c1 := 0) (As := [pA (M7.1 a0 0), pI 0]) (st := []) (kX10_fillRow d (by omega) _ _ _) okX10_fillRow (Or.inr nw24) tw52 rfl (Nat.le_of_ble_eq_true rfl) dX2_choose_20 (fun r9 => []) (fun r9 => r9) (fun _ => rfl) (fun _ => rfl) (fun r9 h10 => ?_) rfl
  refine v_aload_n dX2_choose_23 rfl ?_
  refine v_if (fun h11 => ?_)
  refine v_get (v := pA (r9.1 a0 2)) 2 2 rfl inX2 (by decide) tw407 dX2_choose_24 h11 rfl ?_
  refine v_iconst dX2_choose_27 (by decide) ?_
  refine v_cS (mi := mX2_choose) (c0 := 0) (c1 := 0) (As := [pA (r9.1 a0 2), pI 0]) (st := []) (kX10_fillRow d (by omega) _ _ _) okX10_fillRow (Or.inr nw24) tw52 rfl (Nat.le_of_ble_eq_true rfl) dX2_choose_28 (fun r12 => []) (fun r12 => r12) (fun _ => rfl) (fun _ => rfl) (fun r12 h13 => ?_) rfl
  refine v_aload_n dX2_choose_31 rfl ?_
  refine v_iconst dX2_choose_32 (by decide) ?_
  refine v_iload_n dX2_choose_33 rfl ?_
  refine v_iload dX2_choose_34 rfl ?_
  refine v_iconst dX2_choose_36 (by decide) ?_
  refine v_cS (mi := mX2_choose) (c0 := 0) (c1 := 0) (As := [pA a0, pI 0, pI a3, pI a4, pI 0]) (st := []) (kX2_pick 20 d (by omega) _ _ _ _ _ _) okX2_pick (Or.inl tw1128) tw1129 rfl (Nat.le_of_ble_eq_true rfl) dX2_choose_37 (fun r14 => []) (fun r14 => r14) (fun _ => rfl) (fun _ => rfl) (fun r14 h15 => ?_) rfl
  exact v_return dX2_choose_40 rfl rfl
theorem dX3_init_0 : decode cX3_init 0 = .ok (.aload_n 0, 1) := by decide +kernel
theorem dX3_init_1 : decode cX3_init 1 = .ok (.invokespecial 3, 3) := by decide +kernel
theorem dX3_init_4 : decode cX3_init 4 = .ok (.aload_n 0, 1) := by decide +kernel
theorem dX3_init_5 : decode cX3_init 5 = .ok (.iconst 0, 1) := by decide +kernel
theorem dX3_init_6 : decode cX3_init 6 = .ok (.putfield 9, 3) := by decide +kernel
theorem dX3_init_9 : decode cX3_init 9 = .ok (.aload_n 0, 1) := by decide +kernel
theorem dX3_init_10 : decode cX3_init 10 = .ok (.iconst (-1), 1) := by decide +kernel
theorem dX3_init_11 : decode cX3_init 11 = .ok (.putfield 15, 3) := by decide +kernel
theorem dX3_init_14 : decode cX3_init 14 = .ok (.aload_n 0, 1) := by decide +kernel
theorem dX3_init_15 : decode cX3_init 15 = .ok (.new 18, 3) := by decide +kernel
theorem dX3_init_18 : decode cX3_init 18 = .ok (.dup, 1) := by decide +kernel
theorem dX3_init_19 : decode cX3_init 19 = .ok (.invokespecial 20, 3) := by decide +kernel
theorem dX3_init_22 : decode cX3_init 22 = .ok (.putfield 21, 3) := by decide +kernel
theorem dX3_init_25 : decode cX3_init 25 = .ok (.aload_n 0, 1) := by decide +kernel
theorem dX3_init_26 : decode cX3_init 26 = .ok (.new 25, 3) := by decide +kernel
theorem dX3_init_29 : decode cX3_init 29 = .ok (.dup, 1) := by decide +kernel
theorem dX3_init_30 : decode cX3_init 30 = .ok (.invokespecial 27, 3) := by decide +kernel
theorem dX3_init_33 : decode cX3_init 33 = .ok (.putfield 28, 3) := by decide +kernel
theorem dX3_init_36 : decode cX3_init 36 = .ok (.aload_n 0, 1) := by decide +kernel
theorem dX3_init_37 : decode cX3_init 37 = .ok (.new 32, 3) := by decide +kernel
theorem dX3_init_40 : decode cX3_init 40 = .ok (.dup, 1) := by decide +kernel
theorem dX3_init_41 : decode cX3_init 41 = .ok (.invokespecial 34, 3) := by decide +kernel
theorem dX3_init_44 : decode cX3_init 44 = .ok (.putfield 35, 3) := by decide +kernel
theorem dX3_init_47 : decode cX3_init 47 = .ok (.aload_n 0, 1) := by decide +kernel
theorem dX3_init_48 : decode cX3_init 48 = .ok (.new 39, 3) := by decide +kernel
theorem dX3_init_51 : decode cX3_init 51 = .ok (.dup, 1) := by decide +kernel
theorem dX3_init_52 : decode cX3_init 52 = .ok (.invokespecial 41, 3) := by decide +kernel
theorem dX3_init_55 : decode cX3_init 55 = .ok (.putfield 42, 3) := by decide +kernel
theorem dX3_init_58 : decode cX3_init 58 = .ok (.aload_n 0, 1) := by decide +kernel
theorem dX3_init_59 : decode cX3_init 59 = .ok (.aconst_null, 1) := by decide +kernel
theorem dX3_init_60 : decode cX3_init 60 = .ok (.putfield 46, 3) := by decide +kernel
theorem dX3_init_63 : decode cX3_init 63 = .ok (.aload_n 0, 1) := by decide +kernel
theorem dX3_init_64 : decode cX3_init 64 = .ok (.iconst 0, 1) := by decide +kernel
theorem dX3_init_65 : decode cX3_init 65 = .ok (.putfield 50, 3) := by decide +kernel
theorem dX3_init_68 : decode cX3_init 68 = .ok (.aload_n 0, 1) := by decide +kernel
theorem dX3_init_69 : decode cX3_init 69 = .ok (.iconst 0, 1) := by decide +kernel
theorem dX3_init_70 : decode cX3_init 70 = .ok (.putfield 53, 3) := by decide +kernel
theorem dX3_init_73 : decode cX3_init 73 = .ok (.aload_n 0, 1) := by decide +kernel
theorem dX3_init_74 : decode cX3_init 74 = .ok (.iconst 0, 1) := by decide +kernel
theorem dX3_init_75 : decode cX3_init 75 = .ok (.putfield 56, 3) := by decide +kernel
theorem dX3_init_78 : decode cX3_init 78 = .ok (.aload_n 0, 1) := by decide +kernel
theorem dX3_init_79 : decode cX3_init 79 = .ok (.iconst 0, 1) := by decide +kernel
theorem dX3_init_80 : decode cX3_init 80 = .ok (.putfield 59, 3) := by decide +kernel
theorem dX3_init_83 : decode cX3_init 83 = .ok (.aload_n 0, 1) := by decide +kernel
theorem dX3_init_84 : decode cX3_init 84 = .ok (.iconst 0, 1) := by decide +kernel
theorem dX3_init_85 : decode cX3_init 85 = .ok (.putfield 62, 3) := by decide +kernel
theorem dX3_init_88 : decode cX3_init 88 = .ok (.aload_n 0, 1) := by decide +kernel
theorem dX3_init_89 : decode cX3_init 89 = .ok (.iconst 3, 1) := by decide +kernel
theorem dX3_init_90 : decode cX3_init 90 = .ok (.newarray .int, 2) := by decide +kernel
theorem dX3_init_92 : decode cX3_init 92 = .ok (.putfield 65, 3) := by decide +kernel
theorem dX3_init_95 : decode cX3_init 95 = .ok (.aload_n 0, 1) := by decide +kernel
theorem dX3_init_96 : decode cX3_init 96 = .ok (.iconst 0, 1) := by decide +kernel
theorem dX3_init_97 : decode cX3_init 97 = .ok (.putfield 69, 3) := by decide +kernel
theorem dX3_init_100 : decode cX3_init 100 = .ok (.aload_n 0, 1) := by decide +kernel
theorem dX3_init_101 : decode cX3_init 101 = .ok (.iconst (-1), 1) := by decide +kernel
theorem dX3_init_102 : decode cX3_init 102 = .ok (.putfield 73, 3) := by decide +kernel
theorem dX3_init_105 : decode cX3_init 105 = .ok (.aload_n 0, 1) := by decide +kernel
theorem dX3_init_106 : decode cX3_init 106 = .ok (.iconst (-1), 1) := by decide +kernel
theorem dX3_init_107 : decode cX3_init 107 = .ok (.putfield 76, 3) := by decide +kernel
theorem dX3_init_110 : decode cX3_init 110 = .ok (.return_, 1) := by decide +kernel
abbrev mX3_init : MI := (yX3_init, cX3_init, 1, none, noE)
theorem okX3_init : cok mX3_init 0 := ⟨tw244, tw7, by decide, by decide, by decide, by decide +kernel⟩
def fX3_init (M : Mem) (a0 : Int) : Option Mem :=
  if (0 : Int) ≤ a0 then if M.2.1 a0 = 3 then bM (mst M a0 0 0) fun M3 => bM (mst M3 a0 1 (-1)) fun M5 => bM (mnew M5 7 10) fun M7 => if (0 : Int) ≤ (M5.2.2.2 : Int) then (fX7_init M7 (M5.2.2.2 : Int)).bind fun r10 => if r10.2.1 a0 = 3 then if (-1 : Int) ≤ (M5.2.2.2 : Int) then bM (mst r10 a0 2 (M5.2.2.2 : Int)) fun M15 => bM (mnew M15 0 3) fun M17 => if (0 : Int) ≤ (M15.2.2.2 : Int) then (fX0_init M17 (M15.2.2.2 : Int)).bind fun r20 => if r20.2.1 a0 = 3 then if (-1 : Int) ≤ (M15.2.2.2 : Int) then bM (mst r20 a0 3 (M15.2.2.2 : Int)) fun M25 => bM (mnew M25 1 5) fun M27 => if (0 : Int) ≤ (M25.2.2.2 : Int) then (fX1_init M27 (M25.2.2.2 : Int)).bind fun r30 => if r30.2.1 a0 = 3 then if (-1 : Int) ≤ (M25.2.2.2 : Int) then bM (mst r30 a0 4 (M25.2.2.2 : Int)) fun M35 => bM (mnew M35 4 4) fun M37 => if (0 : Int) ≤ (M35.2.2.2 : Int) then (fX4_init M37 (M35.2.2.2 : Int)).bind fun r40 => if r40.2.1 a0 = 3 then if (-1 : Int) ≤ (M35.2.2.2 : Int) then bM (mst r40 a0 5 (M35.2.2.2 : Int)) fun M45 => if (-1 : Int) ≤ (-1) then bM (mst M45 a0 6 (-1)) fun M48 => bM (mst M48 a0 7 0) fun M50 => bM (mst M50 a0 8 0) fun M52 => bM (mst M52 a0 9 0) fun M54 => bM (mst M54 a0 10 0) fun M56 => bM (mst M56 a0 11 0) fun M58 => bM (mnew M58 12 3) fun M60 => if M60.2.1 a0 = 3 then if (-1 : Int) ≤ (M58.2.2.2 : Int) then bM (mst M60 a0 12 (M58.2.2.2 : Int)) fun M64 => bM (mst M64 a0 13 0) fun M66 => bM (mst M66 a0 14 (-1)) fun M68 => bM (mst M68 a0 15 (-1)) fun M70 => some M70 else none else none else none else none else none else none else none else none else none else none else none else none else none else none else none else none else none
set_option maxRecDepth 100000 in
set_option maxHeartbeats 4000000 in
theorem kX3_init (d : Nat) (hd : 3 ≤ d) (M : Mem) (a0 : Int) : Ct mX3_init d 20 321 [pA a0] M dV (fX3_init M a0) := by
  obtain ⟨d, rfl⟩ : ∃ k, d = k + 1 := ⟨d - 1, by omega⟩
  refine Ct.of 0 (fun _ _ _ => trivial) (by decide +kernel) rfl ?_
  unfold fX3_init
  refine v_aload_n dX3_init_0 rfl ?_
  refine v_if (fun h1 => ?_)
  refine v_objInit (mi := mX3_init) h1 tw245 tw26 tw27 (Nat.le_of_ble_eq_true rfl) dX3_init_1 ?_
  refine v_aload_n dX3_init_4 rfl ?_
  refine v_iconst dX3_init_5 (by decide) ?_
  refine v_if (fun h2 => ?_)
  refine v_put (x := 0) 3 0 rfl inX3 (by decide) tw254 (Or.inl rfl) rfl dX3_init_6 h2 rfl id ?_
  refine v_bM (fun M3 e4 => ?_)
  refine v_aload_n dX3_init_9 rfl ?_
  refine v_iconst dX3_init_10 (by decide) ?_
  refine v_put (x := (-1)) 3 1 rfl inX3 (by decide) tw256 (Or.inl rfl) rfl dX3_init_11 (by rw [e4]; exact h2) rfl id ?_
  refine v_bM (fun M5 e6 => ?_)
  refine v_aload_n dX3_init_14 rfl ?_
  refine v_new (N := 10) 7 rfl inX7 tw246 tw42 tw3 ftX7 dX3_init_15 ?_
  refine v_bM (fun M7 e8 => ?_)
  have h9 : M7.2.1 (M5.2.2.2 : Int) = 7 := by rw [e8]; exact mnew_k
  refine v_dup dX3_init_18 (by intro z hz; cases hz) ?_
  refine v_if (fun h12 => ?_)
  refine v_cI (mi := mX3_init) (c0 := 8) (c1 := 90) (As := []) (st := [pA (M5.2.2.2 : Int), pA a0]) (kX7_init d (by omega) _ _) h12 okX7_init rfl rfl (Or.inl tw247) tw44 rfl (Nat.le_of_ble_eq_true rfl) dX3_init_19 (fun r10 => [pA (M5.2.2.2 : Int), pA a0]) (fun r10 => r10) (fun _ => rfl) (fun _ => rfl) (fun r10 h11 => ?_) rfl
  refine v_if (fun h13 => ?_)
  refine v_if (fun h14 => ?_)
  refine v_put (x := (M5.2.2.2 : Int)) 3 2 rfl inX3 (by decide) tw258 (Or.inr ⟨rfl, rfl, rfl⟩) rfl dX3_init_22 h13 rfl (fun _ => h14) ?_
  refine v_bM (fun M15 e16 => ?_)
  refine v_aload_n dX3_init_25 rfl ?_
  refine v_new (N := 3) 0 rfl inX0 tw248 tw122 tw4 ftX0 dX3_init_26 ?_
  refine v_bM (fun M17 e18 => ?_)
  have h19 : M17.2.1 (M15.2.2.2 : Int) = 0 := by rw [e18]; exact mnew_k
  refine v_dup dX3_init_29 (by intro z hz; cases hz) ?_
  refine v_if (fun h22 => ?_)
  refine v_cI (mi := mX3_init) (c0 := 0) (c1 := 0) (As := []) (st := [pA (M15.2.2.2 : Int), pA a0]) (kX0_init d (by omega) _ _) h22 okX0_init rfl rfl (Or.inr nw5) tw124 rfl (Nat.le_of_ble_eq_true rfl) dX3_init_30 (fun r20 => [pA (M15.2.2.2 : Int), pA a0]) (fun r20 => r20) (fun _ => rfl) (fun _ => rfl) (fun r20 h21 => ?_) rfl
  refine v_if (fun h23 => ?_)
  refine v_if (fun h24 => ?_)
  refine v_put (x := (M15.2.2.2 : Int)) 3 3 rfl inX3 (by decide) tw260 (Or.inr ⟨rfl, rfl, rfl⟩) rfl dX3_init_33 h23 rfl (fun _ => h24) ?_
  refine v_bM (fun M25 e26 => ?_)
  refine v_aload_n dX3_init_36 rfl ?_
  refine v_new (N := 5) 1 rfl inX1 tw250 tw143 tw5 ftX1 dX3_init_37 ?_
  refine v_bM (fun M27 e28 => ?_)
  have h29 : M27.2.1 (M25.2.2.2 : Int) = 1 := by rw [e28]; exact mnew_k
  refine v_dup dX3_init_40 (by intro z hz; cases hz) ?_
  refine v_if (fun h32 => ?_)
  refine v_cI (mi := mX3_init) (c0 := 4) (c1 := 160) (As := []) (st := [pA (M25.2.2.2 : Int), pA a0]) (kX1_init d (by omega) _ _) h32 okX1_init rfl rfl (Or.inr nw6) tw145 rfl (Nat.le_of_ble_eq_true rfl) dX3_init_41 (fun r30 => [pA (M25.2.2.2 : Int), pA a0]) (fun r30 => r30) (fun _ => rfl) (fun _ => rfl) (fun r30 h31 => ?_) rfl
  refine v_if (fun h33 => ?_)
  refine v_if (fun h34 => ?_)
  refine v_put (x := (M25.2.2.2 : Int)) 3 4 rfl inX3 (by decide) tw262 (Or.inr ⟨rfl, rfl, rfl⟩) rfl dX3_init_44 h33 rfl (fun _ => h34) ?_
  refine v_bM (fun M35 e36 => ?_)
  refine v_aload_n dX3_init_47 rfl ?_
  refine v_new (N := 4) 4 rfl inX4 tw252 tw175 tw6 ftX4 dX3_init_48 ?_
  refine v_bM (fun M37 e38 => ?_)
  have h39 : M37.2.1 (M35.2.2.2 : Int) = 4 := by rw [e38]; exact mnew_k
  refine v_dup dX3_init_51 (by intro z hz; cases hz) ?_
  refine v_if (fun h42 => ?_)
  refine v_cI (mi := mX3_init) (c0 := 3) (c1 := 46) (As := []) (st := [pA (M35.2.2.2 : Int), pA a0]) (kX4_init d (by omega) _ _) h42 okX4_init rfl rfl (Or.inl tw253) tw177 rfl (Nat.le_of_ble_eq_true rfl) dX3_init_52 (fun r40 => [pA (M35.2.2.2 : Int), pA a0]) (fun r40 => r40) (fun _ => rfl) (fun _ => rfl) (fun r40 h41 => ?_) rfl
  refine v_if (fun h43 => ?_)
  refine v_if (fun h44 => ?_)
  refine v_put (x := (M35.2.2.2 : Int)) 3 5 rfl inX3 (by decide) tw264 (Or.inr ⟨rfl, rfl, rfl⟩) rfl dX3_init_55 h43 rfl (fun _ => h44) ?_
  refine v_bM (fun M45 e46 => ?_)
  refine v_aload_n dX3_init_58 rfl ?_
  refine v_null dX3_init_59 ?_
  refine v_if (fun h47 => ?_)
  refine v_put (x := (-1)) 3 6 rfl inX3 (by decide) tw266 (Or.inl rfl) rfl dX3_init_60 (by rw [e46]; exact h43) rfl (fun _ => h47) ?_
  refine v_bM (fun M48 e49 => ?_)
  refine v_aload_n dX3_init_63 rfl ?_
  refine v_iconst dX3_init_64 (by decide) ?_
  refine v_put (x := 0) 3 7 rfl inX3 (by decide) tw267 (Or.inl rfl) rfl dX3_init_65 (by rw [e49, e46]; exact h43) rfl id ?_
  refine v_bM (fun M50 e51 => ?_)
  refine v_aload_n dX3_init_68 rfl ?_
  refine v_iconst dX3_init_69 (by decide) ?_
  refine v_put (x := 0) 3 8 rfl inX3 (by decide) tw268 (Or.inl rfl) rfl dX3_init_70 (by rw [e51, e49, e46]; exact h43) rfl id ?_
  refine v_bM (fun M52 e53 => ?_)
  refine v_aload_n dX3_init_73 rfl ?_
  refine v_iconst dX3_init_74 (by decide) ?_
  refine v_put (x := 0) 3 9 rfl inX3 (by decide) tw269 (Or.inl rfl) rfl dX3_init_75 (by rw [e53, e51, e49, e46]; exact h43) rfl id ?_
  refine v_bM (fun M54 e55 => ?_)
  refine v_aload_n dX3_init_78 rfl ?_
  refine v_iconst dX3_init_79 (by decide) ?_
  refine v_put (x := 0) 3 10 rfl inX3 (by decide) tw270 (Or.inl rfl) rfl dX3_init_80 (by rw [e55, e53, e51, e49, e46]; exact h43) rfl id ?_
  refine v_bM (fun M56 e57 => ?_)
  refine v_aload_n dX3_init_83 rfl ?_
  refine v_iconst dX3_init_84 (by decide) ?_
  refine v_put (x := 0) 3 11 rfl inX3 (by decide) tw271 (Or.inl rfl) rfl dX3_init_85 (by rw [e57, e55, e53, e51, e49, e46]; exact h43) rfl id ?_
  refine v_bM (fun M58 e59 => ?_)
  refine v_aload_n dX3_init_88 rfl ?_
  refine v_iconst dX3_init_89 (by decide) ?_
  refine v_newarray (t := .int) (n := 3) 12 (by decide) (by decide) tw121 dX3_init_90 ?_
  refine v_bM (fun M60 e61 => ?_)
  refine v_if (fun h62 => ?_)
  refine v_if (fun h63 => ?_)
  refine v_put (x := (M58.2.2.2 : Int)) 3 12 rfl inX3 (by decide) tw272 (Or.inr ⟨rfl, rfl, rfl⟩) rfl dX3_init_92 h62 rfl (fun _ => h63) ?_
  refine v_bM (fun M64 e65 => ?_)
  refine v_aload_n dX3_init_95 rfl ?_
  refine v_iconst dX3_init_96 (by decide) ?_
  refine v_put (x := 0) 3 13 rfl inX3 (by decide) tw273 (Or.inl rfl) rfl dX3_init_97 (by rw [e65]; exact h62) rfl (fun _ => by first | exact Or.inl rfl | exact Or.inr rfl) ?_
  refine v_bM (fun M66 e67 => ?_)
  refine v_aload_n dX3_init_100 rfl ?_
  refine v_iconst dX3_init_101 (by decide) ?_
  refine v_put (x := (-1)) 3 14 rfl inX3 (by decide) tw274 (Or.inl rfl) rfl dX3_init_102 (by rw [e67, e65]; exact h62) rfl id ?_
  refine v_bM (fun M68 e69 => ?_)
  refine v_aload_n dX3_init_105 rfl ?_
  refine v_iconst dX3_init_106 (by decide) ?_
  refine v_put (x := (-1)) 3 15 rfl inX3 (by decide) tw275 (Or.inl rfl) rfl dX3_init_107 (by rw [e69, e67, e65]; exact h62) rfl id ?_
  refine v_bM (fun M70 e71 => ?_)
  exact v_return dX3_init_110 rfl rfl
theorem dX3_begin_0 : decode cX3_begin 0 = .ok (.aload_n 0, 1) := by decide +kernel
theorem dX3_begin_1 : decode cX3_begin 1 = .ok (.aload_n 1, 1) := by decide +kernel
theorem dX3_begin_2 : decode cX3_begin 2 = .ok (.putfield 46, 3) := by decide +kernel
theorem dX3_begin_5 : decode cX3_begin 5 = .ok (.aload_n 0, 1) := by decide +kernel
theorem dX3_begin_6 : decode cX3_begin 6 = .ok (.iload_n 2, 1) := by decide +kernel
theorem dX3_begin_7 : decode cX3_begin 7 = .ok (.putfield 50, 3) := by decide +kernel
theorem dX3_begin_10 : decode cX3_begin 10 = .ok (.aload_n 0, 1) := by decide +kernel
theorem dX3_begin_11 : decode cX3_begin 11 = .ok (.iconst 0, 1) := by decide +kernel
theorem dX3_begin_12 : decode cX3_begin 12 = .ok (.putfield 53, 3) := by decide +kernel
theorem dX3_begin_15 : decode cX3_begin 15 = .ok (.aload_n 0, 1) := by decide +kernel
theorem dX3_begin_16 : decode cX3_begin 16 = .ok (.iconst 0, 1) := by decide +kernel
theorem dX3_begin_17 : decode cX3_begin 17 = .ok (.putfield 9, 3) := by decide +kernel
theorem dX3_begin_20 : decode cX3_begin 20 = .ok (.aload_n 0, 1) := by decide +kernel
theorem dX3_begin_21 : decode cX3_begin 21 = .ok (.iconst (-1), 1) := by decide +kernel
theorem dX3_begin_22 : decode cX3_begin 22 = .ok (.putfield 15, 3) := by decide +kernel
theorem dX3_begin_25 : decode cX3_begin 25 = .ok (.aload_n 0, 1) := by decide +kernel
theorem dX3_begin_26 : decode cX3_begin 26 = .ok (.iconst 0, 1) := by decide +kernel
theorem dX3_begin_27 : decode cX3_begin 27 = .ok (.putfield 69, 3) := by decide +kernel
theorem dX3_begin_30 : decode cX3_begin 30 = .ok (.aload_n 0, 1) := by decide +kernel
theorem dX3_begin_31 : decode cX3_begin 31 = .ok (.iconst (-1), 1) := by decide +kernel
theorem dX3_begin_32 : decode cX3_begin 32 = .ok (.putfield 73, 3) := by decide +kernel
theorem dX3_begin_35 : decode cX3_begin 35 = .ok (.aload_n 0, 1) := by decide +kernel
theorem dX3_begin_36 : decode cX3_begin 36 = .ok (.iconst (-1), 1) := by decide +kernel
theorem dX3_begin_37 : decode cX3_begin 37 = .ok (.putfield 76, 3) := by decide +kernel
theorem dX3_begin_40 : decode cX3_begin 40 = .ok (.aload_n 0, 1) := by decide +kernel
theorem dX3_begin_41 : decode cX3_begin 41 = .ok (.getfield 21, 3) := by decide +kernel
theorem dX3_begin_44 : decode cX3_begin 44 = .ok (.invokevirtual 106, 3) := by decide +kernel
theorem dX3_begin_47 : decode cX3_begin 47 = .ok (.aload_n 0, 1) := by decide +kernel
theorem dX3_begin_48 : decode cX3_begin 48 = .ok (.getfield 28, 3) := by decide +kernel
theorem dX3_begin_51 : decode cX3_begin 51 = .ok (.invokevirtual 109, 3) := by decide +kernel
theorem dX3_begin_54 : decode cX3_begin 54 = .ok (.aload_n 0, 1) := by decide +kernel
theorem dX3_begin_55 : decode cX3_begin 55 = .ok (.getfield 35, 3) := by decide +kernel
theorem dX3_begin_58 : decode cX3_begin 58 = .ok (.invokevirtual 110, 3) := by decide +kernel
theorem dX3_begin_61 : decode cX3_begin 61 = .ok (.aload_n 0, 1) := by decide +kernel
theorem dX3_begin_62 : decode cX3_begin 62 = .ok (.getfield 42, 3) := by decide +kernel
theorem dX3_begin_65 : decode cX3_begin 65 = .ok (.invokevirtual 111, 3) := by decide +kernel
theorem dX3_begin_68 : decode cX3_begin 68 = .ok (.return_, 1) := by decide +kernel
abbrev mX3_begin : MI := (yX3_begin, cX3_begin, 3, none, noE)
theorem okX3_begin : cok mX3_begin 2 := ⟨tw474, tw7, by decide, by decide, by decide, by decide +kernel⟩
def fX3_begin (M : Mem) (a0 a1 a2 : Int) : Option Mem :=
  if M.2.1 a0 = 3 then if (-1 : Int) ≤ a1 then bM (mst M a0 6 a1) fun M3 => bM (mst M3 a0 7 a2) fun M5 => bM (mst M5 a0 8 0) fun M7 => bM (mst M7 a0 0 0) fun M9 => bM (mst M9 a0 1 (-1)) fun M11 => bM (mst M11 a0 13 0) fun M13 => bM (mst M13 a0 14 (-1)) fun M15 => bM (mst M15 a0 15 (-1)) fun M17 => if M17.2.1 (M17.1 a0 2) = 7 then (fX7_clear M17 (M17.1 a0 2)).bind fun r19 => if r19.2.1 a0 = 3 then if r19.2.1 (r19.1 a0 3) = 0 then (fX0_clear r19 (r19.1 a0 3)).bind fun r23 => if r23.2.1 a0 = 3 then if r23.2.1 (r23.1 a0 4) = 1 then (fX1_clear r23 (r23.1 a0 4)).bind fun r27 => if r27.2.1 a0 = 3 then if r27.2.1 (r27.1 a0 5) = 4 then (fX4_clear r27 (r27.1 a0 5)).bind fun r31 => some r31 else none else none else none else none else none else none else none else none else none
set_option maxRecDepth 100000 in
set_option maxHeartbeats 4000000 in
theorem kX3_begin (d : Nat) (hd : 2 ≤ d) (M : Mem) (a0 a1 a2 : Int) : Ct mX3_begin d 0 0 [pA a0, pA a1, pI a2] M dV (fX3_begin M a0 a1 a2) := by
  obtain ⟨d, rfl⟩ : ∃ k, d = k + 1 := ⟨d - 1, by omega⟩
  refine Ct.of 0 (fun _ _ _ => trivial) (by decide +kernel) rfl ?_
  unfold fX3_begin
  refine v_aload_n dX3_begin_0 rfl ?_
  refine v_aload_n dX3_begin_1 rfl ?_
  refine v_if (fun h1 => ?_)
  refine v_if (fun h2 => ?_)
  refine v_put (x := a1) 3 6 rfl inX3 (by decide) tw266 (Or.inl rfl) rfl dX3_begin_2 h1 rfl (fun _ => h2) ?_
  refine v_bM (fun M3 e4 => ?_)
  refine v_aload_n dX3_begin_5 rfl ?_
  refine v_iload_n dX3_begin_6 rfl ?_
  refine v_put (x := a2) 3 7 rfl inX3 (by decide) tw267 (Or.inl rfl) rfl dX3_begin_7 (by rw [e4]; exact h1) rfl id ?_
  refine v_bM (fun M5 e6 => ?_)
  refine v_aload_n dX3_begin_10 rfl ?_
  refine v_iconst dX3_begin_11 (by decide) ?_
  refine v_put (x := 0) 3 8 rfl inX3 (by decide) tw268 (Or.inl rfl) rfl dX3_begin_12 (by rw [e6, e4]; exact h1) rfl id ?_
  refine v_bM (fun M7 e8 => ?_)
  refine v_aload_n dX3_begin_15 rfl ?_
  refine v_iconst dX3_begin_16 (by decide) ?_
  refine v_put (x := 0) 3 0 rfl inX3 (by decide) tw254 (Or.inl rfl) rfl dX3_begin_17 (by rw [e8, e6, e4]; exact h1) rfl id ?_
  refine v_bM (fun M9 e10 => ?_)
  refine v_aload_n dX3_begin_20 rfl ?_
  refine v_iconst dX3_begin_21 (by decide) ?_
  refine v_put (x := (-1)) 3 1 rfl inX3 (by decide) tw256 (Or.inl rfl) rfl dX3_begin_22 (by rw [e10, e8, e6, e4]; exact h1) rfl id ?_
  refine v_bM (fun M11 e12 => ?_)
  refine v_aload_n dX3_begin_25 rfl ?_
  refine v_iconst dX3_begin_26 (by decide) ?_
  refine v_put (x := 0) 3 13 rfl inX3 (by decide) tw273 (Or.inl rfl) rfl dX3_begin_27 (by rw [e12, e10, e8, e6, e4]; exact h1) rfl (fun _ => by first | exact Or.inl rfl | exact Or.inr rfl) ?_
  refine v_bM (fun M13 e14 => ?_)
  refine v_aload_n dX3_begin_30 rfl ?_
  refine v_iconst dX3_begin_31 (by decide) ?_
  refine v_put (x := (-1)) 3 14 rfl inX3 (by decide) tw274 (Or.inl rfl) rfl dX3_begin_32 (by rw [e14, e12, e10, e8, e6, e4]; exact h1) rfl id ?_
  refine v_bM (fun M15 e16 => ?_)
  refine v_aload_n dX3_begin_35 rfl ?_
  refine v_iconst dX3_begin_36 (by decide) ?_
  refine v_put (x := (-1)) 3 15 rfl inX3 (by decide) tw275 (Or.inl rfl) rfl dX3_begin_37 (by rw [e16, e14, e12, e10, e8, e6, e4]; exact h1) rfl id ?_
  refine v_bM (fun M17 e18 => ?_)
  refine v_aload_n dX3_begin_40 rfl ?_
  refine v_get (v := pA (M17.1 a0 2)) 3 2 rfl inX3 (by decide) tw258 dX3_begin_41 (by rw [e18, e16, e14, e12, e10, e8, e6, e4]; exact h1) rfl ?_
  refine v_if (fun h21 => ?_)
  refine v_cV (mi := mX3_begin) (c0 := 0) (c1 := 0) (As := []) (st := []) (kX7_clear d (by omega) _ _) rfl h21 rfl okX7_clear (Or.inl tw475) tw48 tw49 rfl (Nat.le_of_ble_eq_true rfl) dX3_begin_44 (fun r19 => []) (fun r19 => r19) (fun _ => rfl) (fun _ => rfl) (fun r19 h20 => ?_) rfl
  refine v_aload_n dX3_begin_47 rfl ?_
  refine v_if (fun h22 => ?_)
  refine v_get (v := pA (r19.1 a0 3)) 3 3 rfl inX3 (by decide) tw260 dX3_begin_48 h22 rfl ?_
  refine v_if (fun h25 => ?_)
  refine v_cV (mi := mX3_begin) (c0 := 0) (c1 := 0) (As := []) (st := []) (kX0_clear d (by omega) _ _) rfl h25 rfl okX0_clear (Or.inl tw476) tw477 tw478 rfl (Nat.le_of_ble_eq_true rfl) dX3_begin_51 (fun r23 => []) (fun r23 => r23) (fun _ => rfl) (fun _ => rfl) (fun r23 h24 => ?_) rfl
  refine v_aload_n dX3_begin_54 rfl ?_
  refine v_if (fun h26 => ?_)
  refine v_get (v := pA (r23.1 a0 4)) 3 4 rfl inX3 (by decide) tw262 dX3_begin_55 h26 rfl ?_
  refine v_if (fun h29 => ?_)
  refine v_cV (mi := mX3_begin) (c0 := 0) (c1 := 0) (As := []) (st := []) (kX1_clear d (by omega) _ _) rfl h29 rfl okX1_clear (Or.inl tw480) tw481 tw482 rfl (Nat.le_of_ble_eq_true rfl) dX3_begin_58 (fun r27 => []) (fun r27 => r27) (fun _ => rfl) (fun _ => rfl) (fun r27 h28 => ?_) rfl
  refine v_aload_n dX3_begin_61 rfl ?_
  refine v_if (fun h30 => ?_)
  refine v_get (v := pA (r27.1 a0 5)) 3 5 rfl inX3 (by decide) tw264 dX3_begin_62 h30 rfl ?_
  refine v_if (fun h33 => ?_)
  refine v_cV (mi := mX3_begin) (c0 := 0) (c1 := 0) (As := []) (st := []) (kX4_clear d (by omega) _ _) rfl h33 rfl okX4_clear (Or.inl tw484) tw181 tw182 rfl (Nat.le_of_ble_eq_true rfl) dX3_begin_65 (fun r31 => []) (fun r31 => r31) (fun _ => rfl) (fun _ => rfl) (fun r31 h32 => ?_) rfl
  exact v_return dX3_begin_68 rfl rfl
theorem dX3_byteAt_0 : decode cX3_byteAt 0 = .ok (.aload_n 0, 1) := by decide +kernel
theorem dX3_byteAt_1 : decode cX3_byteAt 1 = .ok (.getfield 46, 3) := by decide +kernel
theorem dX3_byteAt_4 : decode cX3_byteAt 4 = .ok (.ifnull 33, 3) := by decide +kernel
theorem dX3_byteAt_7 : decode cX3_byteAt 7 = .ok (.iload_n 1, 1) := by decide +kernel
theorem dX3_byteAt_8 : decode cX3_byteAt 8 = .ok (.ifCond .lt 29, 3) := by decide +kernel
theorem dX3_byteAt_11 : decode cX3_byteAt 11 = .ok (.iload_n 1, 1) := by decide +kernel
theorem dX3_byteAt_12 : decode cX3_byteAt 12 = .ok (.aload_n 0, 1) := by decide +kernel
theorem dX3_byteAt_13 : decode cX3_byteAt 13 = .ok (.getfield 50, 3) := by decide +kernel
theorem dX3_byteAt_16 : decode cX3_byteAt 16 = .ok (.if_icmp .ge 21, 3) := by decide +kernel
theorem dX3_byteAt_19 : decode cX3_byteAt 19 = .ok (.iload_n 1, 1) := by decide +kernel
theorem dX3_byteAt_20 : decode cX3_byteAt 20 = .ok (.aload_n 0, 1) := by decide +kernel
theorem dX3_byteAt_21 : decode cX3_byteAt 21 = .ok (.getfield 46, 3) := by decide +kernel
theorem dX3_byteAt_24 : decode cX3_byteAt 24 = .ok (.arraylength, 1) := by decide +kernel
theorem dX3_byteAt_25 : decode cX3_byteAt 25 = .ok (.if_icmp .ge 12, 3) := by decide +kernel
theorem dX3_byteAt_28 : decode cX3_byteAt 28 = .ok (.aload_n 0, 1) := by decide +kernel
theorem dX3_byteAt_29 : decode cX3_byteAt 29 = .ok (.getfield 46, 3) := by decide +kernel
theorem dX3_byteAt_32 : decode cX3_byteAt 32 = .ok (.iload_n 1, 1) := by decide +kernel
theorem dX3_byteAt_33 : decode cX3_byteAt 33 = .ok (.baload, 1) := by decide +kernel
theorem dX3_byteAt_34 : decode cX3_byteAt 34 = .ok (.goto 4, 3) := by decide +kernel
theorem dX3_byteAt_37 : decode cX3_byteAt 37 = .ok (.iconst 0, 1) := by decide +kernel
theorem dX3_byteAt_38 : decode cX3_byteAt 38 = .ok (.ireturn, 1) := by decide +kernel
abbrev mX3_byteAt : MI := (yX3_byteAt, cX3_byteAt, 2, (some .int), noE)
theorem okX3_byteAt : cok mX3_byteAt 1 := ⟨tw492, tw7, by decide, by decide, by decide, by decide +kernel⟩
def fX3_byteAt (M : Mem) (a0 a1 : Int) : Option Int :=
  if M.2.1 a0 = 3 then if M.1 a0 6 = -1 then (some 0) else (if a1 < 0 then (some 0) else (if a1 < M.1 a0 7 then (if 11 ≤ M.2.1 (M.1 a0 6) then if a1 < M.2.2.1 (M.1 a0 6) then (if (M.2.1 (M.1 a0 6) = 11 ∨ M.2.1 (M.1 a0 6) = 13) ∧ (0 : Int) ≤ a1 ∧ a1 < M.2.2.1 (M.1 a0 6) then some (M.1 (M.1 a0 6) a1) else none) else (some 0) else none) else (some 0))) else none
set_option maxRecDepth 100000 in
set_option maxHeartbeats 4000000 in
theorem kX3_byteAt (d : Nat) (hd : 0 ≤ d) (M : Mem) (a0 a1 : Int) : Ct mX3_byteAt d 0 0 [pA a0, pI a1] M (dI M) (fX3_byteAt M a0 a1) := by
  refine Ct.of 0 (fun _ _ _ => trivial) (by decide +kernel) rfl ?_
  unfold fX3_byteAt
  refine v_aload_n dX3_byteAt_0 rfl ?_
  refine v_if (fun h1 => ?_)
  refine v_get (v := pA (M.1 a0 6)) 3 6 rfl inX3 (by decide) tw266 dX3_byteAt_1 h1 rfl ?_
  refine v_ifnull (tgt := 37) dX3_byteAt_4 (by decide) (fun c2 => ?_) (fun c2 => ?_)
  · refine v_iconst dX3_byteAt_37 (by decide) ?_
    exact v_ireturn dX3_byteAt_38 rfl rfl
  · refine v_iload_n dX3_byteAt_7 rfl ?_
    refine v_if_lt (tgt := 37) dX3_byteAt_8 (by decide) (fun c3 => ?_) (fun c3 => ?_)
    · refine v_iconst dX3_byteAt_37 (by decide) ?_
      exact v_ireturn dX3_byteAt_38 rfl rfl
    · refine v_iload_n dX3_byteAt_11 rfl ?_
      refine v_aload_n dX3_byteAt_12 rfl ?_
      refine v_get (v := pI (M.1 a0 7)) 3 7 rfl inX3 (by decide) tw267 dX3_byteAt_13 h1 rfl ?_
      refine v_icmp_ge (tgt := 37) dX3_byteAt_16 (by decide) (fun c4 => ?_) (fun c4 => ?_)
      · refine v_iload_n dX3_byteAt_19 rfl ?_
        refine v_aload_n dX3_byteAt_20 rfl ?_
        refine v_get (v := pA (M.1 a0 6)) 3 6 rfl inX3 (by decide) tw266 dX3_byteAt_21 h1 rfl ?_
        refine v_if (fun h5 => ?_)
        refine v_alen h5 dX3_byteAt_24 ?_
        refine v_icmp_ge (tgt := 37) dX3_byteAt_25 (by decide) (fun c6 => ?_) (fun c6 => ?_)
        · refine v_aload_n dX3_byteAt_28 rfl ?_
          refine v_get (v := pA (M.1 a0 6)) 3 6 rfl inX3 (by decide) tw266 dX3_byteAt_29 h1 rfl ?_
          refine v_iload_n dX3_byteAt_32 rfl ?_
          refine v_if (fun h7 => ?_)
          refine v_baload h7 dX3_byteAt_33 ?_
          refine v_goto (tgt := 38) dX3_byteAt_34 (by decide) ?_
          exact v_ireturn dX3_byteAt_38 rfl rfl
        · refine v_iconst dX3_byteAt_37 (by decide) ?_
          exact v_ireturn dX3_byteAt_38 rfl rfl
      · refine v_iconst dX3_byteAt_37 (by decide) ?_
        exact v_ireturn dX3_byteAt_38 rfl rfl
theorem dX3_isBlank_0 : decode cX3_isBlank 0 = .ok (.iload_n 0, 1) := by decide +kernel
theorem dX3_isBlank_1 : decode cX3_isBlank 1 = .ok (.bipush 10, 2) := by decide +kernel
theorem dX3_isBlank_3 : decode cX3_isBlank 3 = .ok (.if_icmp .eq 9, 3) := by decide +kernel
theorem dX3_isBlank_6 : decode cX3_isBlank 6 = .ok (.iload_n 0, 1) := by decide +kernel
theorem dX3_isBlank_7 : decode cX3_isBlank 7 = .ok (.bipush 32, 2) := by decide +kernel
theorem dX3_isBlank_9 : decode cX3_isBlank 9 = .ok (.if_icmp .ne 7, 3) := by decide +kernel
theorem dX3_isBlank_12 : decode cX3_isBlank 12 = .ok (.iconst 1, 1) := by decide +kernel
theorem dX3_isBlank_13 : decode cX3_isBlank 13 = .ok (.goto 4, 3) := by decide +kernel
theorem dX3_isBlank_16 : decode cX3_isBlank 16 = .ok (.iconst 0, 1) := by decide +kernel
theorem dX3_isBlank_17 : decode cX3_isBlank 17 = .ok (.ireturn, 1) := by decide +kernel
abbrev mX3_isBlank : MI := (yX3_isBlank, cX3_isBlank, 1, (some .boolean), noE)
theorem okX3_isBlank : cok mX3_isBlank 1 := ⟨tw495, tw7, by decide, by decide, by decide, by decide +kernel⟩
def fX3_isBlank (M : Mem) (a0 : Int) : Option Int :=
  if a0 = 10 then (some 1) else (if a0 = 32 then (some 1) else (some 0))
set_option maxRecDepth 100000 in
set_option maxHeartbeats 4000000 in
theorem kX3_isBlank (d : Nat) (hd : 0 ≤ d) (M : Mem) (a0 : Int) : Ct mX3_isBlank d 0 0 [pI a0] M (dI M) (fX3_isBlank M a0) := by
  refine Ct.of 0 (fun _ _ _ => trivial) (by decide +kernel) rfl ?_
  unfold fX3_isBlank
  refine v_iload_n dX3_isBlank_0 rfl ?_
  refine v_bipush dX3_isBlank_1 (by decide) ?_
  refine v_icmp_eq (tgt := 12) dX3_isBlank_3 (by decide) (fun c1 => ?_) (fun c1 => ?_)
  · refine v_iconst dX3_isBlank_12 (by decide) ?_
    refine v_goto (tgt := 17) dX3_isBlank_13 (by decide) ?_
    exact v_breturn dX3_isBlank_17 rfl (by decide) rfl
  · refine v_iload_n dX3_isBlank_6 rfl ?_
    refine v_bipush dX3_isBlank_7 (by decide) ?_
    refine v_icmp_ne (tgt := 16) dX3_isBlank_9 (by decide) (fun c2 => ?_) (fun c2 => ?_)
    · refine v_iconst dX3_isBlank_12 (by decide) ?_
      refine v_goto (tgt := 17) dX3_isBlank_13 (by decide) ?_
      exact v_breturn dX3_isBlank_17 rfl (by decide) rfl
    · refine v_iconst dX3_isBlank_16 (by decide) ?_
      exact v_breturn dX3_isBlank_17 rfl (by decide) rfl
theorem dX3_isLetter_0 : decode cX3_isLetter 0 = .ok (.iload_n 0, 1) := by decide +kernel
theorem dX3_isLetter_1 : decode cX3_isLetter 1 = .ok (.bipush 97, 2) := by decide +kernel
theorem dX3_isLetter_3 : decode cX3_isLetter 3 = .ok (.if_icmp .lt 13, 3) := by decide +kernel
theorem dX3_isLetter_6 : decode cX3_isLetter 6 = .ok (.iload_n 0, 1) := by decide +kernel
theorem dX3_isLetter_7 : decode cX3_isLetter 7 = .ok (.bipush 122, 2) := by decide +kernel
theorem dX3_isLetter_9 : decode cX3_isLetter 9 = .ok (.if_icmp .gt 7, 3) := by decide +kernel
theorem dX3_isLetter_12 : decode cX3_isLetter 12 = .ok (.iconst 1, 1) := by decide +kernel
theorem dX3_isLetter_13 : decode cX3_isLetter 13 = .ok (.goto 4, 3) := by decide +kernel
theorem dX3_isLetter_16 : decode cX3_isLetter 16 = .ok (.iconst 0, 1) := by decide +kernel
theorem dX3_isLetter_17 : decode cX3_isLetter 17 = .ok (.ireturn, 1) := by decide +kernel
abbrev mX3_isLetter : MI := (yX3_isLetter, cX3_isLetter, 1, (some .boolean), noE)
theorem okX3_isLetter : cok mX3_isLetter 1 := ⟨tw498, tw7, by decide, by decide, by decide, by decide +kernel⟩
def fX3_isLetter (M : Mem) (a0 : Int) : Option Int :=
  if a0 < 97 then (some 0) else (if 122 < a0 then (some 0) else (some 1))
set_option maxRecDepth 100000 in
set_option maxHeartbeats 4000000 in
theorem kX3_isLetter (d : Nat) (hd : 0 ≤ d) (M : Mem) (a0 : Int) : Ct mX3_isLetter d 0 0 [pI a0] M (dI M) (fX3_isLetter M a0) := by
  refine Ct.of 0 (fun _ _ _ => trivial) (by decide +kernel) rfl ?_
  unfold fX3_isLetter
  refine v_iload_n dX3_isLetter_0 rfl ?_
  refine v_bipush dX3_isLetter_1 (by decide) ?_
  refine v_icmp_lt (tgt := 16) dX3_isLetter_3 (by decide) (fun c1 => ?_) (fun c1 => ?_)
  · refine v_iconst dX3_isLetter_16 (by decide) ?_
    exact v_breturn dX3_isLetter_17 rfl (by decide) rfl
  · refine v_iload_n dX3_isLetter_6 rfl ?_
    refine v_bipush dX3_isLetter_7 (by decide) ?_
    refine v_icmp_gt (tgt := 16) dX3_isLetter_9 (by decide) (fun c2 => ?_) (fun c2 => ?_)
    · refine v_iconst dX3_isLetter_16 (by decide) ?_
      exact v_breturn dX3_isLetter_17 rfl (by decide) rfl
    · refine v_iconst dX3_isLetter_12 (by decide) ?_
      refine v_goto (tgt := 17) dX3_isLetter_13 (by decide) ?_
      exact v_breturn dX3_isLetter_17 rfl (by decide) rfl
theorem dX3_isDigit_0 : decode cX3_isDigit 0 = .ok (.iload_n 0, 1) := by decide +kernel
theorem dX3_isDigit_1 : decode cX3_isDigit 1 = .ok (.bipush 48, 2) := by decide +kernel
theorem dX3_isDigit_3 : decode cX3_isDigit 3 = .ok (.if_icmp .lt 13, 3) := by decide +kernel
theorem dX3_isDigit_6 : decode cX3_isDigit 6 = .ok (.iload_n 0, 1) := by decide +kernel
theorem dX3_isDigit_7 : decode cX3_isDigit 7 = .ok (.bipush 57, 2) := by decide +kernel
theorem dX3_isDigit_9 : decode cX3_isDigit 9 = .ok (.if_icmp .gt 7, 3) := by decide +kernel
theorem dX3_isDigit_12 : decode cX3_isDigit 12 = .ok (.iconst 1, 1) := by decide +kernel
theorem dX3_isDigit_13 : decode cX3_isDigit 13 = .ok (.goto 4, 3) := by decide +kernel
theorem dX3_isDigit_16 : decode cX3_isDigit 16 = .ok (.iconst 0, 1) := by decide +kernel
theorem dX3_isDigit_17 : decode cX3_isDigit 17 = .ok (.ireturn, 1) := by decide +kernel
abbrev mX3_isDigit : MI := (yX3_isDigit, cX3_isDigit, 1, (some .boolean), noE)
theorem okX3_isDigit : cok mX3_isDigit 1 := ⟨tw501, tw7, by decide, by decide, by decide, by decide +kernel⟩
def fX3_isDigit (M : Mem) (a0 : Int) : Option Int :=
  if a0 < 48 then (some 0) else (if 57 < a0 then (some 0) else (some 1))
set_option maxRecDepth 100000 in
set_option maxHeartbeats 4000000 in
theorem kX3_isDigit (d : Nat) (hd : 0 ≤ d) (M : Mem) (a0 : Int) : Ct mX3_isDigit d 0 0 [pI a0] M (dI M) (fX3_isDigit M a0) := by
  refine Ct.of 0 (fun _ _ _ => trivial) (by decide +kernel) rfl ?_
  unfold fX3_isDigit
  refine v_iload_n dX3_isDigit_0 rfl ?_
  refine v_bipush dX3_isDigit_1 (by decide) ?_
  refine v_icmp_lt (tgt := 16) dX3_isDigit_3 (by decide) (fun c1 => ?_) (fun c1 => ?_)
  · refine v_iconst dX3_isDigit_16 (by decide) ?_
    exact v_breturn dX3_isDigit_17 rfl (by decide) rfl
  · refine v_iload_n dX3_isDigit_6 rfl ?_
    refine v_bipush dX3_isDigit_7 (by decide) ?_
    refine v_icmp_gt (tgt := 16) dX3_isDigit_9 (by decide) (fun c2 => ?_) (fun c2 => ?_)
    · refine v_iconst dX3_isDigit_16 (by decide) ?_
      exact v_breturn dX3_isDigit_17 rfl (by decide) rfl
    · refine v_iconst dX3_isDigit_12 (by decide) ?_
      refine v_goto (tgt := 17) dX3_isDigit_13 (by decide) ?_
      exact v_breturn dX3_isDigit_17 rfl (by decide) rfl
theorem dX3_stepNumber_0 : decode cX3_stepNumber 0 = .ok (.aload_n 0, 1) := by decide +kernel
theorem dX3_stepNumber_1 : decode cX3_stepNumber 1 = .ok (.iconst 0, 1) := by decide +kernel
theorem dX3_stepNumber_2 : decode cX3_stepNumber 2 = .ok (.putfield 62, 3) := by decide +kernel
theorem dX3_stepNumber_5 : decode cX3_stepNumber 5 = .ok (.aload_n 0, 1) := by decide +kernel
theorem dX3_stepNumber_6 : decode cX3_stepNumber 6 = .ok (.getfield 53, 3) := by decide +kernel
theorem dX3_stepNumber_9 : decode cX3_stepNumber 9 = .ok (.aload_n 0, 1) := by decide +kernel
theorem dX3_stepNumber_10 : decode cX3_stepNumber 10 = .ok (.getfield 50, 3) := by decide +kernel
theorem dX3_stepNumber_13 : decode cX3_stepNumber 13 = .ok (.if_icmp .ge 59, 3) := by decide +kernel
theorem dX3_stepNumber_16 : decode cX3_stepNumber 16 = .ok (.aload_n 0, 1) := by decide +kernel
theorem dX3_stepNumber_17 : decode cX3_stepNumber 17 = .ok (.aload_n 0, 1) := by decide +kernel
theorem dX3_stepNumber_18 : decode cX3_stepNumber 18 = .ok (.getfield 53, 3) := by decide +kernel
theorem dX3_stepNumber_21 : decode cX3_stepNumber 21 = .ok (.invokevirtual 195, 3) := by decide +kernel
theorem dX3_stepNumber_24 : decode cX3_stepNumber 24 = .ok (.invokestatic 254, 3) := by decide +kernel
theorem dX3_stepNumber_27 : decode cX3_stepNumber 27 = .ok (.ifCond .eq 45, 3) := by decide +kernel
theorem dX3_stepNumber_30 : decode cX3_stepNumber 30 = .ok (.aload_n 0, 1) := by decide +kernel
theorem dX3_stepNumber_31 : decode cX3_stepNumber 31 = .ok (.sipush 999, 3) := by decide +kernel
theorem dX3_stepNumber_34 : decode cX3_stepNumber 34 = .ok (.bipush 10, 2) := by decide +kernel
theorem dX3_stepNumber_36 : decode cX3_stepNumber 36 = .ok (.aload_n 0, 1) := by decide +kernel
theorem dX3_stepNumber_37 : decode cX3_stepNumber 37 = .ok (.getfield 62, 3) := by decide +kernel
theorem dX3_stepNumber_40 : decode cX3_stepNumber 40 = .ok (.imul, 1) := by decide +kernel
theorem dX3_stepNumber_41 : decode cX3_stepNumber 41 = .ok (.aload_n 0, 1) := by decide +kernel
theorem dX3_stepNumber_42 : decode cX3_stepNumber 42 = .ok (.aload_n 0, 1) := by decide +kernel
theorem dX3_stepNumber_43 : decode cX3_stepNumber 43 = .ok (.getfield 53, 3) := by decide +kernel
theorem dX3_stepNumber_46 : decode cX3_stepNumber 46 = .ok (.invokevirtual 195, 3) := by decide +kernel
theorem dX3_stepNumber_49 : decode cX3_stepNumber 49 = .ok (.iadd, 1) := by decide +kernel
theorem dX3_stepNumber_50 : decode cX3_stepNumber 50 = .ok (.bipush 48, 2) := by decide +kernel
theorem dX3_stepNumber_52 : decode cX3_stepNumber 52 = .ok (.isub, 1) := by decide +kernel
theorem dX3_stepNumber_53 : decode cX3_stepNumber 53 = .ok (.invokestatic 79, 3) := by decide +kernel
theorem dX3_stepNumber_56 : decode cX3_stepNumber 56 = .ok (.putfield 62, 3) := by decide +kernel
theorem dX3_stepNumber_59 : decode cX3_stepNumber 59 = .ok (.aload_n 0, 1) := by decide +kernel
theorem dX3_stepNumber_60 : decode cX3_stepNumber 60 = .ok (.dup, 1) := by decide +kernel
theorem dX3_stepNumber_61 : decode cX3_stepNumber 61 = .ok (.getfield 53, 3) := by decide +kernel
theorem dX3_stepNumber_64 : decode cX3_stepNumber 64 = .ok (.iconst 1, 1) := by decide +kernel
theorem dX3_stepNumber_65 : decode cX3_stepNumber 65 = .ok (.iadd, 1) := by decide +kernel
theorem dX3_stepNumber_66 : decode cX3_stepNumber 66 = .ok (.putfield 53, 3) := by decide +kernel
theorem dX3_stepNumber_69 : decode cX3_stepNumber 69 = .ok (.goto (-64), 3) := by decide +kernel
theorem dX3_stepNumber_72 : decode cX3_stepNumber 72 = .ok (.aload_n 0, 1) := by decide +kernel
theorem dX3_stepNumber_73 : decode cX3_stepNumber 73 = .ok (.aload_n 0, 1) := by decide +kernel
theorem dX3_stepNumber_74 : decode cX3_stepNumber 74 = .ok (.getfield 53, 3) := by decide +kernel
theorem dX3_stepNumber_77 : decode cX3_stepNumber 77 = .ok (.aload_n 0, 1) := by decide +kernel
theorem dX3_stepNumber_78 : decode cX3_stepNumber 78 = .ok (.getfield 59, 3) := by decide +kernel
theorem dX3_stepNumber_81 : decode cX3_stepNumber 81 = .ok (.isub, 1) := by decide +kernel
theorem dX3_stepNumber_82 : decode cX3_stepNumber 82 = .ok (.iconst 2, 1) := by decide +kernel
theorem dX3_stepNumber_83 : decode cX3_stepNumber 83 = .ok (.if_icmp .gt 7, 3) := by decide +kernel
theorem dX3_stepNumber_86 : decode cX3_stepNumber 86 = .ok (.iconst 2, 1) := by decide +kernel
theorem dX3_stepNumber_87 : decode cX3_stepNumber 87 = .ok (.goto 4, 3) := by decide +kernel
theorem dX3_stepNumber_90 : decode cX3_stepNumber 90 = .ok (.iconst 4, 1) := by decide +kernel
theorem dX3_stepNumber_91 : decode cX3_stepNumber 91 = .ok (.putfield 56, 3) := by decide +kernel
theorem dX3_stepNumber_94 : decode cX3_stepNumber 94 = .ok (.return_, 1) := by decide +kernel
abbrev mX3_stepNumber : MI := (yX3_stepNumber, cX3_stepNumber, 1, none, noE)
theorem okX3_stepNumber : cok mX3_stepNumber 0 := ⟨tw505, tw7, by decide, by decide, by decide, by decide +kernel⟩
def fX3_stepNumber (M : Mem) (a0 : Int) : Option Mem :=
  if M.2.1 a0 = 3 then bM (mst M a0 11 0) fun M2 => iterC (fun (rec4 : Mem → Option Mem) (s5 : Mem) => if s5.2.1 a0 = 3 then jn (fun (t8 : Unit) => jn (fun (t10 : Int) => bM (mst s5 a0 9 t10) fun M11 => some M11) (fun (j9 : Int → Option Mem) => if 2 < w32 ((s5.1 a0 8) - (s5.1 a0 10)) then (j9 4) else (j9 2))) (fun (j7 : Unit → Option Mem) => if s5.1 a0 8 < s5.1 a0 7 then ((fX3_byteAt s5 a0 (s5.1 a0 8)).bind fun r15 => (fX3_isDigit s5 r15).bind fun r17 => if r17 = 0 then (j7 ()) else ((fX3_byteAt s5 a0 (s5.1 a0 8)).bind fun r20 => bM (mst s5 a0 11 (imin 999 (w32 ((w32 ((w32 (10 * (s5.1 a0 11))) + r20)) - 48)))) fun M22 => bM (mst M22 a0 8 (w32 ((M22.1 a0 8) + 1))) fun M24 => rec4 M24)) else (j7 ())) else none) BIG M2 else none
set_option maxRecDepth 100000 in
set_option maxHeartbeats 4000000 in
theorem kX3_stepNumber (d : Nat) (hd : 1 ≤ d) (M : Mem) (a0 : Int) : Ct mX3_stepNumber d 0 0 [pA a0] M dV (fX3_stepNumber M a0) := by
  obtain ⟨d, rfl⟩ : ∃ k, d = k + 1 := ⟨d - 1, by omega⟩
  refine Ct.of 0 (fun _ _ _ => trivial) (by decide +kernel) rfl ?_
  unfold fX3_stepNumber
  refine v_aload_n dX3_stepNumber_0 rfl ?_
  refine v_iconst dX3_stepNumber_1 (by decide) ?_
  refine v_if (fun h1 => ?_)
  refine v_put (x := 0) 3 11 rfl inX3 (by decide) tw271 (Or.inl rfl) rfl dX3_stepNumber_2 h1 rfl id ?_
  refine v_bM (fun M2 e3 => ?_)
  refine v_loop (fun (s5 : Mem) => [some (pA a0)]) (fun (s5 : Mem) => s5) (s0 := M2) ?_
  intro rec4 hrec4 s5
  refine v_aload_n dX3_stepNumber_5 rfl ?_
  refine v_if (fun h6 => ?_)
  refine v_get (v := pI (s5.1 a0 8)) 3 8 rfl inX3 (by decide) tw268 dX3_stepNumber_6 h6 rfl ?_
  refine v_aload_n dX3_stepNumber_9 rfl ?_
  refine v_get (v := pI (s5.1 a0 7)) 3 7 rfl inX3 (by decide) tw267 dX3_stepNumber_10 h6 rfl ?_
  refine v_join (fun (t8 : Unit) => [some (pA a0)]) (fun (t8 : Unit) => []) (fun (t8 : Unit) => s5) 72 (fun t8 => ?_) (fun j7 hj7 => ?_)
  · refine v_aload_n dX3_stepNumber_72 rfl ?_
    refine v_aload_n dX3_stepNumber_73 rfl ?_
    refine v_get (v := pI (s5.1 a0 8)) 3 8 rfl inX3 (by decide) tw268 dX3_stepNumber_74 h6 rfl ?_
    refine v_aload_n dX3_stepNumber_77 rfl ?_
    refine v_get (v := pI (s5.1 a0 10)) 3 10 rfl inX3 (by decide) tw270 dX3_stepNumber_78 h6 rfl ?_
    refine v_isub dX3_stepNumber_81 ?_
    refine v_iconst dX3_stepNumber_82 (by decide) ?_
    refine v_join (fun (t10 : Int) => [none]) (fun (t10 : Int) => [pI t10, pA a0]) (fun (t10 : Int) => s5) 91 (fun t10 => ?_) (fun j9 hj9 => ?_)
    · refine v_put (x := t10) 3 9 rfl inX3 (by decide) tw269 (Or.inl rfl) rfl dX3_stepNumber_91 h6 rfl id ?_
      refine v_bM (fun M11 e12 => ?_)
      exact v_return dX3_stepNumber_94 rfl rfl
    · refine v_icmp_gt (tgt := 90) dX3_stepNumber_83 (by decide) (fun c13 => ?_) (fun c13 => ?_)
      · refine v_iconst dX3_stepNumber_90 (by decide) ?_
        exact v_drop [none] (ls_n ls_e) (hj9 4)
      · refine v_iconst dX3_stepNumber_86 (by decide) ?_
        refine v_goto (tgt := 91) dX3_stepNumber_87 (by decide) ?_
        exact v_drop [none] (ls_n ls_e) (hj9 2)
  · refine v_icmp_ge (tgt := 72) dX3_stepNumber_13 (by decide) (fun c14 => ?_) (fun c14 => ?_)
    · refine v_aload_n dX3_stepNumber_16 rfl ?_
      refine v_aload_n dX3_stepNumber_17 rfl ?_
      refine v_get (v := pI (s5.1 a0 8)) 3 8 rfl inX3 (by decide) tw268 dX3_stepNumber_18 h6 rfl ?_
      refine v_cV (mi := mX3_stepNumber) (c0 := 0) (c1 := 0) (As := [pI (s5.1 a0 8)]) (st := []) (kX3_byteAt d (by omega) _ _ _) rfl h6 rfl okX3_byteAt (Or.inl tw489) tw491 tp2 rfl (Nat.le_of_ble_eq_true rfl) dX3_stepNumber_21 (fun r15 => [pI r15]) (fun r15 => s5) (fun _ => rfl) (fun _ => rfl) (fun r15 h16 => ?_) rfl
      refine v_cS (mi := mX3_stepNumber) (c0 := 0) (c1 := 0) (As := [pI r15]) (st := []) (kX3_isDigit d (by omega) _ _) okX3_isDigit (Or.inl tw499) tw500 rfl (Nat.le_of_ble_eq_true rfl) dX3_stepNumber_24 (fun r17 => [pI r17]) (fun r17 => s5) (fun _ => rfl) (fun _ => rfl) (fun r17 h18 => ?_) rfl
      refine v_if_eq (tgt := 72) dX3_stepNumber_27 (by decide) (fun c19 => ?_) (fun c19 => ?_)
      · exact hj7 ()
      · refine v_aload_n dX3_stepNumber_30 rfl ?_
        refine v_sipush dX3_stepNumber_31 (by decide) ?_
        refine v_bipush dX3_stepNumber_34 (by decide) ?_
        refine v_aload_n dX3_stepNumber_36 rfl ?_
        refine v_get (v := pI (s5.1 a0 11)) 3 11 rfl inX3 (by decide) tw271 dX3_stepNumber_37 h6 rfl ?_
        refine v_imul dX3_stepNumber_40 ?_
        refine v_aload_n dX3_stepNumber_41 rfl ?_
        refine v_aload_n dX3_stepNumber_42 rfl ?_
        refine v_get (v := pI (s5.1 a0 8)) 3 8 rfl inX3 (by decide) tw268 dX3_stepNumber_43 h6 rfl ?_
        refine v_cV (mi := mX3_stepNumber) (c0 := 0) (c1 := 0) (As := [pI (s5.1 a0 8)]) (st := [pI (w32 (10 * (s5.1 a0 11))), pI 999, pA a0]) (kX3_byteAt d (by omega) _ _ _) rfl h6 rfl okX3_byteAt (Or.inl tw489) tw491 tp2 rfl (Nat.le_of_ble_eq_true rfl) dX3_stepNumber_46 (fun r20 => [pI r20, pI (w32 (10 * (s5.1 a0 11))), pI 999, pA a0]) (fun r20 => s5) (fun _ => rfl) (fun _ => rfl) (fun r20 h21 => ?_) rfl
        refine v_iadd dX3_stepNumber_49 ?_
        refine v_bipush dX3_stepNumber_50 (by decide) ?_
        refine v_isub dX3_stepNumber_52 ?_
        refine v_mmin (mi := mX3_stepNumber) tw468 tw469 tw12 tw470 (Nat.le_of_ble_eq_true rfl) dX3_stepNumber_53 ?_
        refine v_put (x := imin 999 (w32 ((w32 ((w32 (10 * (s5.1 a0 11))) + r20)) - 48))) 3 11 rfl inX3 (by decide) tw271 (Or.inl rfl) rfl dX3_stepNumber_56 h6 rfl id ?_
        refine v_bM (fun M22 e23 => ?_)
        refine v_aload_n dX3_stepNumber_59 rfl ?_
        refine v_dup dX3_stepNumber_60 (by intro z hz; cases hz) ?_
        refine v_get (v := pI (M22.1 a0 8)) 3 8 rfl inX3 (by decide) tw268 dX3_stepNumber_61 (by rw [e23]; exact h6) rfl ?_
        refine v_iconst dX3_stepNumber_64 (by decide) ?_
        refine v_iadd dX3_stepNumber_65 ?_
        refine v_put (x := w32 ((M22.1 a0 8) + 1)) 3 8 rfl inX3 (by decide) tw268 (Or.inl rfl) rfl dX3_stepNumber_66 (by rw [e23]; exact h6) rfl id ?_
        refine v_bM (fun M24 e25 => ?_)
        refine v_goto (tgt := 5) dX3_stepNumber_69 (by decide) ?_
        exact hrec4 M24
    · exact hj7 ()
theorem dX3_step_0 : decode cX3_step 0 = .ok (.aload_n 0, 1) := by decide +kernel
theorem dX3_step_1 : decode cX3_step 1 = .ok (.getfield 53, 3) := by decide +kernel
theorem dX3_step_4 : decode cX3_step 4 = .ok (.aload_n 0, 1) := by decide +kernel
theorem dX3_step_5 : decode cX3_step 5 = .ok (.getfield 50, 3) := by decide +kernel
theorem dX3_step_8 : decode cX3_step 8 = .ok (.if_icmp .ge 30, 3) := by decide +kernel
theorem dX3_step_11 : decode cX3_step 11 = .ok (.aload_n 0, 1) := by decide +kernel
theorem dX3_step_12 : decode cX3_step 12 = .ok (.aload_n 0, 1) := by decide +kernel
theorem dX3_step_13 : decode cX3_step 13 = .ok (.getfield 53, 3) := by decide +kernel
theorem dX3_step_16 : decode cX3_step 16 = .ok (.invokevirtual 195, 3) := by decide +kernel
theorem dX3_step_19 : decode cX3_step 19 = .ok (.invokestatic 248, 3) := by decide +kernel
theorem dX3_step_22 : decode cX3_step 22 = .ok (.ifCond .eq 16, 3) := by decide +kernel
theorem dX3_step_25 : decode cX3_step 25 = .ok (.aload_n 0, 1) := by decide +kernel
theorem dX3_step_26 : decode cX3_step 26 = .ok (.dup, 1) := by decide +kernel
theorem dX3_step_27 : decode cX3_step 27 = .ok (.getfield 53, 3) := by decide +kernel
theorem dX3_step_30 : decode cX3_step 30 = .ok (.iconst 1, 1) := by decide +kernel
theorem dX3_step_31 : decode cX3_step 31 = .ok (.iadd, 1) := by decide +kernel
theorem dX3_step_32 : decode cX3_step 32 = .ok (.putfield 53, 3) := by decide +kernel
theorem dX3_step_35 : decode cX3_step 35 = .ok (.goto (-35), 3) := by decide +kernel
theorem dX3_step_38 : decode cX3_step 38 = .ok (.aload_n 0, 1) := by decide +kernel
theorem dX3_step_39 : decode cX3_step 39 = .ok (.aload_n 0, 1) := by decide +kernel
theorem dX3_step_40 : decode cX3_step 40 = .ok (.getfield 53, 3) := by decide +kernel
theorem dX3_step_43 : decode cX3_step 43 = .ok (.putfield 59, 3) := by decide +kernel
theorem dX3_step_46 : decode cX3_step 46 = .ok (.aload_n 0, 1) := by decide +kernel
theorem dX3_step_47 : decode cX3_step 47 = .ok (.aload_n 0, 1) := by decide +kernel
theorem dX3_step_48 : decode cX3_step 48 = .ok (.getfield 53, 3) := by decide +kernel
theorem dX3_step_51 : decode cX3_step 51 = .ok (.invokevirtual 195, 3) := by decide +kernel
theorem dX3_step_54 : decode cX3_step 54 = .ok (.istore_n 1, 1) := by decide +kernel
theorem dX3_step_55 : decode cX3_step 55 = .ok (.aload_n 0, 1) := by decide +kernel
theorem dX3_step_56 : decode cX3_step 56 = .ok (.getfield 53, 3) := by decide +kernel
theorem dX3_step_59 : decode cX3_step 59 = .ok (.aload_n 0, 1) := by decide +kernel
theorem dX3_step_60 : decode cX3_step 60 = .ok (.getfield 50, 3) := by decide +kernel
theorem dX3_step_63 : decode cX3_step 63 = .ok (.if_icmp .lt 11, 3) := by decide +kernel
theorem dX3_step_66 : decode cX3_step 66 = .ok (.aload_n 0, 1) := by decide +kernel
theorem dX3_step_67 : decode cX3_step 67 = .ok (.iconst 0, 1) := by decide +kernel
theorem dX3_step_68 : decode cX3_step 68 = .ok (.putfield 56, 3) := by decide +kernel
theorem dX3_step_71 : decode cX3_step 71 = .ok (.goto 96, 3) := by decide +kernel
theorem dX3_step_74 : decode cX3_step 74 = .ok (.iload_n 1, 1) := by decide +kernel
theorem dX3_step_75 : decode cX3_step 75 = .ok (.invokestatic 251, 3) := by decide +kernel
theorem dX3_step_78 : decode cX3_step 78 = .ok (.ifCond .eq 46, 3) := by decide +kernel
theorem dX3_step_81 : decode cX3_step 81 = .ok (.aload_n 0, 1) := by decide +kernel
theorem dX3_step_82 : decode cX3_step 82 = .ok (.iconst 1, 1) := by decide +kernel
theorem dX3_step_83 : decode cX3_step 83 = .ok (.putfield 56, 3) := by decide +kernel
theorem dX3_step_86 : decode cX3_step 86 = .ok (.aload_n 0, 1) := by decide +kernel
theorem dX3_step_87 : decode cX3_step 87 = .ok (.getfield 53, 3) := by decide +kernel
theorem dX3_step_90 : decode cX3_step 90 = .ok (.aload_n 0, 1) := by decide +kernel
theorem dX3_step_91 : decode cX3_step 91 = .ok (.getfield 50, 3) := by decide +kernel
theorem dX3_step_94 : decode cX3_step 94 = .ok (.if_icmp .ge 73, 3) := by decide +kernel
theorem dX3_step_97 : decode cX3_step 97 = .ok (.aload_n 0, 1) := by decide +kernel
theorem dX3_step_98 : decode cX3_step 98 = .ok (.aload_n 0, 1) := by decide +kernel
theorem dX3_step_99 : decode cX3_step 99 = .ok (.getfield 53, 3) := by decide +kernel
theorem dX3_step_102 : decode cX3_step 102 = .ok (.invokevirtual 195, 3) := by decide +kernel
theorem dX3_step_105 : decode cX3_step 105 = .ok (.invokestatic 251, 3) := by decide +kernel
theorem dX3_step_108 : decode cX3_step 108 = .ok (.ifCond .eq 59, 3) := by decide +kernel
theorem dX3_step_111 : decode cX3_step 111 = .ok (.aload_n 0, 1) := by decide +kernel
theorem dX3_step_112 : decode cX3_step 112 = .ok (.dup, 1) := by decide +kernel
theorem dX3_step_113 : decode cX3_step 113 = .ok (.getfield 53, 3) := by decide +kernel
theorem dX3_step_116 : decode cX3_step 116 = .ok (.iconst 1, 1) := by decide +kernel
theorem dX3_step_117 : decode cX3_step 117 = .ok (.iadd, 1) := by decide +kernel
theorem dX3_step_118 : decode cX3_step 118 = .ok (.putfield 53, 3) := by decide +kernel
theorem dX3_step_121 : decode cX3_step 121 = .ok (.goto (-35), 3) := by decide +kernel
theorem dX3_step_124 : decode cX3_step 124 = .ok (.iload_n 1, 1) := by decide +kernel
theorem dX3_step_125 : decode cX3_step 125 = .ok (.invokestatic 254, 3) := by decide +kernel
theorem dX3_step_128 : decode cX3_step 128 = .ok (.ifCond .eq 10, 3) := by decide +kernel
theorem dX3_step_131 : decode cX3_step 131 = .ok (.aload_n 0, 1) := by decide +kernel
theorem dX3_step_132 : decode cX3_step 132 = .ok (.invokevirtual 257, 3) := by decide +kernel
theorem dX3_step_135 : decode cX3_step 135 = .ok (.goto 32, 3) := by decide +kernel
theorem dX3_step_138 : decode cX3_step 138 = .ok (.iload_n 1, 1) := by decide +kernel
theorem dX3_step_139 : decode cX3_step 139 = .ok (.bipush 59, 2) := by decide +kernel
theorem dX3_step_141 : decode cX3_step 141 = .ok (.if_icmp .ne 21, 3) := by decide +kernel
theorem dX3_step_144 : decode cX3_step 144 = .ok (.aload_n 0, 1) := by decide +kernel
theorem dX3_step_145 : decode cX3_step 145 = .ok (.iconst 3, 1) := by decide +kernel
theorem dX3_step_146 : decode cX3_step 146 = .ok (.putfield 56, 3) := by decide +kernel
theorem dX3_step_149 : decode cX3_step 149 = .ok (.aload_n 0, 1) := by decide +kernel
theorem dX3_step_150 : decode cX3_step 150 = .ok (.dup, 1) := by decide +kernel
theorem dX3_step_151 : decode cX3_step 151 = .ok (.getfield 53, 3) := by decide +kernel
theorem dX3_step_154 : decode cX3_step 154 = .ok (.iconst 1, 1) := by decide +kernel
theorem dX3_step_155 : decode cX3_step 155 = .ok (.iadd, 1) := by decide +kernel
theorem dX3_step_156 : decode cX3_step 156 = .ok (.putfield 53, 3) := by decide +kernel
theorem dX3_step_159 : decode cX3_step 159 = .ok (.goto 8, 3) := by decide +kernel
theorem dX3_step_162 : decode cX3_step 162 = .ok (.aload_n 0, 1) := by decide +kernel
theorem dX3_step_163 : decode cX3_step 163 = .ok (.iconst 4, 1) := by decide +kernel
theorem dX3_step_164 : decode cX3_step 164 = .ok (.putfield 56, 3) := by decide +kernel
theorem dX3_step_167 : decode cX3_step 167 = .ok (.return_, 1) := by decide +kernel
abbrev mX3_step : MI := (yX3_step, cX3_step, 2, none, noE)
theorem okX3_step : cok mX3_step 0 := ⟨tw488, tw7, by decide, by decide, by decide, by decide +kernel⟩
def fX3_step (M : Mem) (a0 : Int) : Option Mem :=
  iterC (fun (rec1 : Mem → Option Mem) (s2 : Mem) => if s2.2.1 a0 = 3 then jn (fun (t5 : Unit) => bM (mst s2 a0 10 (s2.1 a0 8)) fun M6 => (fX3_byteAt M6 a0 (M6.1 a0 8)).bind fun r8 => if M6.1 a0 8 < M6.1 a0 7 then ((fX3_isLetter M6 r8).bind fun r11 => if r11 = 0 then ((fX3_isDigit M6 r8).bind fun r14 => if r14 = 0 then (if r8 = 59 then (bM (mst M6 a0 9 3) fun M18 => bM (mst M18 a0 8 (w32 ((M18.1 a0 8) + 1))) fun M20 => some M20) else (bM (mst M6 a0 9 4) fun M22 => some M22)) else ((fX3_stepNumber M6 a0).bind fun r24 => some r24)) else (bM (mst M6 a0 9 1) fun M26 => iterC (fun (rec28 : Mem → Option Mem) (s29 : Mem) => if s29.2.1 a0 = 3 then if s29.1 a0 8 < s29.1 a0 7 then ((fX3_byteAt s29 a0 (s29.1 a0 8)).bind fun r32 => (fX3_isLetter s29 r32).bind fun r34 => if r34 = 0 then (some s29) else (bM (mst s29 a0 8 (w32 ((s29.1 a0 8) + 1))) fun M37 => rec28 M37)) else (some s29) else none) BIG M26)) else (bM (mst M6 a0 9 0) fun M39 => some M39)) (fun (j4 : Unit → Option Mem) => if s2.1 a0 8 < s2.1 a0 7 then ((fX3_byteAt s2 a0 (s2.1 a0 8)).bind fun r42 => (fX3_isBlank s2 r42).bind fun r44 => if r44 = 0 then (j4 ()) else (bM (mst s2 a0 8 (w32 ((s2.1 a0 8) + 1))) fun M47 => rec1 M47)) else (j4 ())) else none) BIG M
set_option maxRecDepth 100000 in
set_option maxHeartbeats 4000000 in
theorem kX3_step (d : Nat) (hd : 2 ≤ d) (M : Mem) (a0 : Int) : Ct mX3_step d 0 0 [pA a0] M dV (fX3_step M a0) := by
  obtain ⟨d, rfl⟩ : ∃ k, d = k + 1 := ⟨d - 1, by omega⟩
  refine Ct.of 1 (fun _ _ _ => trivial) (by decide +kernel) rfl ?_
  unfold fX3_step
  refine v_loop (fun (s2 : Mem) => [some (pA a0), none]) (fun (s2 : Mem) => s2) (s0 := M) ?_
  intro rec1 hrec1 s2
  refine v_aload_n dX3_step_0 rfl ?_
  refine v_if (fun h3 => ?_)
  refine v_get (v := pI (s2.1 a0 8)) 3 8 rfl inX3 (by decide) tw268 dX3_step_1 h3 rfl ?_
  refine v_aload_n dX3_step_4 rfl ?_
  refine v_get (v := pI (s2.1 a0 7)) 3 7 rfl inX3 (by decide) tw267 dX3_step_5 h3 rfl ?_
  refine v_join (fun (t5 : Unit) => [some (pA a0), none]) (fun (t5 : Unit) => []) (fun (t5 : Unit) => s2) 38 (fun t5 => ?_) (fun j4 hj4 => ?_)
  · refine v_aload_n dX3_step_38 rfl ?_
    refine v_aload_n dX3_step_39 rfl ?_
    refine v_get (v := pI (s2.1 a0 8)) 3 8 rfl inX3 (by decide) tw268 dX3_step_40 h3 rfl ?_
    refine v_put (x := s2.1 a0 8) 3 10 rfl inX3 (by decide) tw270 (Or.inl rfl) rfl dX3_step_43 h3 rfl id ?_
    refine v_bM (fun M6 e7 => ?_)
    refine v_aload_n dX3_step_46 rfl ?_
    refine v_aload_n dX3_step_47 rfl ?_
    refine v_get (v := pI (M6.1 a0 8)) 3 8 rfl inX3 (by decide) tw268 dX3_step_48 (by rw [e7]; exact h3) rfl ?_
    refine v_cV (mi := mX3_step) (c0 := 0) (c1 := 0) (As := [pI (M6.1 a0 8)]) (st := []) (kX3_byteAt d (by omega) _ _ _) rfl (by rw [e7]; exact h3) rfl okX3_byteAt (Or.inl tw489) tw491 tp2 rfl (Nat.le_of_ble_eq_true rfl) dX3_step_51 (fun r8 => [pI r8]) (fun r8 => M6) (fun _ => rfl) (fun _ => rfl) (fun r8 h9 => ?_) rfl
    refine v_istore_n (ls' := [some (pA a0), some (pI r8)]) dX3_step_54 (by decide) rfl ?_
    refine v_aload_n dX3_step_55 rfl ?_
    refine v_get (v := pI (M6.1 a0 8)) 3 8 rfl inX3 (by decide) tw268 dX3_step_56 (by rw [e7]; exact h3) rfl ?_
    refine v_aload_n dX3_step_59 rfl ?_
    refine v_get (v := pI (M6.1 a0 7)) 3 7 rfl inX3 (by decide) tw267 dX3_step_60 (by rw [e7]; exact h3) rfl ?_
    refine v_icmp_lt (tgt := 74) dX3_step_63 (by decide) (fun c10 => ?_) (fun c10 => ?_)
    · refine v_iload_n dX3_step_74 rfl ?_
      refine v_cS (mi := mX3_step) (c0 := 0) (c1 := 0) (As := [pI r8]) (st := []) (kX3_isLetter d (by omega) _ _) okX3_isLetter (Or.inl tw496) tw497 rfl (Nat.le_of_ble_eq_true rfl) dX3_step_75 (fun r11 => [pI r11]) (fun r11 => M6) (fun _ => rfl) (fun _ => rfl) (fun r11 h12 => ?_) rfl
      refine v_if_eq (tgt := 124) dX3_step_78 (by decide) (fun c13 => ?_) (fun c13 => ?_)
      · refine v_iload_n dX3_step_124 rfl ?_
        refine v_cS (mi := mX3_step) (c0 := 0) (c1 := 0) (As := [pI r8]) (st := []) (kX3_isDigit d (by omega) _ _) okX3_isDigit (Or.inl tw499) tw500 rfl (Nat.le_of_ble_eq_true rfl) dX3_step_125 (fun r14 => [pI r14]) (fun r14 => M6) (fun _ => rfl) (fun _ => rfl) (fun r14 h15 => ?_) rfl
        refine v_if_eq (tgt := 138) dX3_step_128 (by decide) (fun c16 => ?_) (fun c16 => ?_)
        · refine v_iload_n dX3_step_138 rfl ?_
          refine v_bipush dX3_step_139 (by decide) ?_
          refine v_icmp_ne (tgt := 162) dX3_step_141 (by decide) (fun c17 => ?_) (fun c17 => ?_)
          · refine v_aload_n dX3_step_144 rfl ?_
            refine v_iconst dX3_step_145 (by decide) ?_
            refine v_put (x := 3) 3 9 rfl inX3 (by decide) tw269 (Or.inl rfl) rfl dX3_step_146 (by rw [e7]; exact h3) rfl id ?_
            refine v_bM (fun M18 e19 => ?_)
            refine v_aload_n dX3_step_149 rfl ?_
            refine v_dup dX3_step_150 (by intro z hz; cases hz) ?_
            refine v_get (v := pI (M18.1 a0 8)) 3 8 rfl inX3 (by decide) tw268 dX3_step_151 (by rw [e19, e7]; exact h3) rfl ?_
            refine v_iconst dX3_step_154 (by decide) ?_
            refine v_iadd dX3_step_155 ?_
            refine v_put (x := w32 ((M18.1 a0 8) + 1)) 3 8 rfl inX3 (by decide) tw268 (Or.inl rfl) rfl dX3_step_156 (by rw [e19, e7]; exact h3) rfl id ?_
            refine v_bM (fun M20 e21 => ?_)
            refine v_goto (tgt := 167) dX3_step_159 (by decide) ?_
            exact v_return dX3_step_167 rfl rfl
          · refine v_aload_n dX3_step_162 rfl ?_
            refine v_iconst dX3_step_163 (by decide) ?_
            refine v_put (x := 4) 3 9 rfl inX3 (by decide) tw269 (Or.inl rfl) rfl dX3_step_164 (by rw [e7]; exact h3) rfl id ?_
            refine v_bM (fun M22 e23 => ?_)
            exact v_return dX3_step_167 rfl rfl
        · refine v_aload_n dX3_step_131 rfl ?_
          refine v_cV (mi := mX3_step) (c0 := 0) (c1 := 0) (As := []) (st := []) (kX3_stepNumber d (by omega) _ _) rfl (by rw [e7]; exact h3) rfl okX3_stepNumber (Or.inl tw502) tw504 tp3 rfl (Nat.le_of_ble_eq_true rfl) dX3_step_132 (fun r24 => []) (fun r24 => r24) (fun _ => rfl) (fun _ => rfl) (fun r24 h25 => ?_) rfl
          refine v_goto (tgt := 167) dX3_step_135 (by decide) ?_
          exact v_return dX3_step_167 rfl rfl
      · refine v_aload_n dX3_step_81 rfl ?_
        refine v_iconst dX3_step_82 (by decide) ?_
        refine v_put (x := 1) 3 9 rfl inX3 (by decide) tw269 (Or.inl rfl) rfl dX3_step_83 (by rw [e7]; exact h3) rfl id ?_
        refine v_bM (fun M26 e27 => ?_)
        refine v_drop [some (pA a0), none] (ls_s (ls_n ls_e)) ?_
        refine v_loop (fun (s29 : Mem) => [some (pA a0), none]) (fun (s29 : Mem) => s29) (s0 := M26) ?_
        intro rec28 hrec28 s29
        refine v_aload_n dX3_step_86 rfl ?_
        refine v_if (fun h30 => ?_)
        refine v_get (v := pI (s29.1 a0 8)) 3 8 rfl inX3 (by decide) tw268 dX3_step_87 h30 rfl ?_
        refine v_aload_n dX3_step_90 rfl ?_
        refine v_get (v := pI (s29.1 a0 7)) 3 7 rfl inX3 (by decide) tw267 dX3_step_91 h30 rfl ?_
        refine v_icmp_ge (tgt := 167) dX3_step_94 (by decide) (fun c31 => ?_) (fun c31 => ?_)
        · refine v_aload_n dX3_step_97 rfl ?_
          refine v_aload_n dX3_step_98 rfl ?_
          refine v_get (v := pI (s29.1 a0 8)) 3 8 rfl inX3 (by decide) tw268 dX3_step_99 h30 rfl ?_
          refine v_cV (mi := mX3_step) (c0 := 0) (c1 := 0) (As := [pI (s29.1 a0 8)]) (st := []) (kX3_byteAt d (by omega) _ _ _) rfl h30 rfl okX3_byteAt (Or.inl tw489) tw491 tp2 rfl (Nat.le_of_ble_eq_true rfl) dX3_step_102 (fun r32 => [pI r32]) (fun r32 => s29) (fun _ => rfl) (fun _ => rfl) (fun r32 h33 => ?_) rfl
          refine v_cS (mi := mX3_step) (c0 := 0) (c1 := 0) (As := [pI r32]) (st := []) (kX3_isLetter d (by omega) _ _) okX3_isLetter (Or.inl tw496) tw497 rfl (Nat.le_of_ble_eq_true rfl) dX3_step_105 (fun r34 => [pI r34]) (fun r34 => s29) (fun _ => rfl) (fun _ => rfl) (fun r34 h35 => ?_) rfl
          refine v_if_eq (tgt := 167) dX3_step_108 (by decide) (fun c36 => ?_) (fun c36 => ?_)
          · exact v_return dX3_step_167 rfl rfl
          · refine v_aload_n dX3_step_111 rfl ?_
            refine v_dup dX3_step_112 (by intro z hz; cases hz) ?_
            refine v_get (v := pI (s29.1 a0 8)) 3 8 rfl inX3 (by decide) tw268 dX3_step_113 h30 rfl ?_
            refine v_iconst dX3_step_116 (by decide) ?_
            refine v_iadd dX3_step_117 ?_
            refine v_put (x := w32 ((s29.1 a0 8) + 1)) 3 8 rfl inX3 (by decide) tw268 (Or.inl rfl) rfl dX3_step_118 h30 rfl id ?_
            refine v_bM (fun M37 e38 => ?_)
            refine v_goto (tgt := 86) dX3_step_121 (by decide) ?_
            exact hrec28 M37
        · exact v_return dX3_step_167 rfl rfl
    · refine v_aload_n dX3_step_66 rfl ?_
      refine v_iconst dX3_step_67 (by decide) ?_
      refine v_put (x := 0) 3 9 rfl inX3 (by decide) tw269 (Or.inl rfl) rfl dX3_step_68 (by rw [e7]; exact h3) rfl id ?_
      refine v_bM (fun M39 e40 => ?_)
      refine v_goto (tgt := 167) dX3_step_71 (by decide) ?_
      exact v_return dX3_step_167 rfl rfl
  · refine v_icmp_ge (tgt := 38) dX3_step_8 (by decide) (fun c41 => ?_) (fun c41 => ?_)
    · refine v_aload_n dX3_step_11 rfl ?_
      refine v_aload_n dX3_step_12 rfl ?_
      refine v_get (v := pI (s2.1 a0 8)) 3 8 rfl inX3 (by decide) tw268 dX3_step_13 h3 rfl ?_
      refine v_cV (mi := mX3_step) (c0 := 0) (c1 := 0) (As := [pI (s2.1 a0 8)]) (st := []) (kX3_byteAt d (by omega) _ _ _) rfl h3 rfl okX3_byteAt (Or.inl tw489) tw491 tp2 rfl (Nat.le_of_ble_eq_true rfl) dX3_step_16 (fun r42 => [pI r42]) (fun r42 => s2) (fun _ => rfl) (fun _ => rfl) (fun r42 h43 => ?_) rfl
      refine v_cS (mi := mX3_step) (c0 := 0) (c1 := 0) (As := [pI r42]) (st := []) (kX3_isBlank d (by omega) _ _) okX3_isBlank (Or.inl tw493) tw494 rfl (Nat.le_of_ble_eq_true rfl) dX3_step_19 (fun r44 => [pI r44]) (fun r44 => s2) (fun _ => rfl) (fun _ => rfl) (fun r44 h45 => ?_) rfl
      refine v_if_eq (tgt := 38) dX3_step_22 (by decide) (fun c46 => ?_) (fun c46 => ?_)
      · exact hj4 ()
      · refine v_aload_n dX3_step_25 rfl ?_
        refine v_dup dX3_step_26 (by intro z hz; cases hz) ?_
        refine v_get (v := pI (s2.1 a0 8)) 3 8 rfl inX3 (by decide) tw268 dX3_step_27 h3 rfl ?_
        refine v_iconst dX3_step_30 (by decide) ?_
        refine v_iadd dX3_step_31 ?_
        refine v_put (x := w32 ((s2.1 a0 8) + 1)) 3 8 rfl inX3 (by decide) tw268 (Or.inl rfl) rfl dX3_step_32 h3 rfl id ?_
        refine v_bM (fun M47 e48 => ?_)
        refine v_goto (tgt := 0) dX3_step_35 (by decide) ?_
        exact hrec1 M47
    · exact hj4 ()
theorem dX3_wordOf_0 : decode cX3_wordOf 0 = .ok (.iload_n 0, 1) := by decide +kernel
theorem dX3_wordOf_1 : decode cX3_wordOf 1 = .ok (.tableswitch 141 0 17 #[87, 90, 93, 96, 99, 102, 105, 108, 111, 114, 117, 120, 123, 126, 129, 132, 135, 138], 87) := by decide +kernel
theorem dX3_wordOf_88 : decode cX3_wordOf 88 = .ok (.ldc 153, 2) := by decide +kernel
theorem dX3_wordOf_90 : decode cX3_wordOf 90 = .ok (.areturn, 1) := by decide +kernel
theorem dX3_wordOf_91 : decode cX3_wordOf 91 = .ok (.ldc 154, 2) := by decide +kernel
theorem dX3_wordOf_93 : decode cX3_wordOf 93 = .ok (.areturn, 1) := by decide +kernel
theorem dX3_wordOf_94 : decode cX3_wordOf 94 = .ok (.ldc 156, 2) := by decide +kernel
theorem dX3_wordOf_96 : decode cX3_wordOf 96 = .ok (.areturn, 1) := by decide +kernel
theorem dX3_wordOf_97 : decode cX3_wordOf 97 = .ok (.ldc 158, 2) := by decide +kernel
theorem dX3_wordOf_99 : decode cX3_wordOf 99 = .ok (.areturn, 1) := by decide +kernel
theorem dX3_wordOf_100 : decode cX3_wordOf 100 = .ok (.ldc 160, 2) := by decide +kernel
theorem dX3_wordOf_102 : decode cX3_wordOf 102 = .ok (.areturn, 1) := by decide +kernel
theorem dX3_wordOf_103 : decode cX3_wordOf 103 = .ok (.ldc 162, 2) := by decide +kernel
theorem dX3_wordOf_105 : decode cX3_wordOf 105 = .ok (.areturn, 1) := by decide +kernel
theorem dX3_wordOf_106 : decode cX3_wordOf 106 = .ok (.ldc 164, 2) := by decide +kernel
theorem dX3_wordOf_108 : decode cX3_wordOf 108 = .ok (.areturn, 1) := by decide +kernel
theorem dX3_wordOf_109 : decode cX3_wordOf 109 = .ok (.ldc 166, 2) := by decide +kernel
theorem dX3_wordOf_111 : decode cX3_wordOf 111 = .ok (.areturn, 1) := by decide +kernel
theorem dX3_wordOf_112 : decode cX3_wordOf 112 = .ok (.ldc 168, 2) := by decide +kernel
theorem dX3_wordOf_114 : decode cX3_wordOf 114 = .ok (.areturn, 1) := by decide +kernel
theorem dX3_wordOf_115 : decode cX3_wordOf 115 = .ok (.ldc 170, 2) := by decide +kernel
theorem dX3_wordOf_117 : decode cX3_wordOf 117 = .ok (.areturn, 1) := by decide +kernel
theorem dX3_wordOf_118 : decode cX3_wordOf 118 = .ok (.ldc 172, 2) := by decide +kernel
theorem dX3_wordOf_120 : decode cX3_wordOf 120 = .ok (.areturn, 1) := by decide +kernel
theorem dX3_wordOf_121 : decode cX3_wordOf 121 = .ok (.ldc 174, 2) := by decide +kernel
theorem dX3_wordOf_123 : decode cX3_wordOf 123 = .ok (.areturn, 1) := by decide +kernel
theorem dX3_wordOf_124 : decode cX3_wordOf 124 = .ok (.ldc 176, 2) := by decide +kernel
theorem dX3_wordOf_126 : decode cX3_wordOf 126 = .ok (.areturn, 1) := by decide +kernel
theorem dX3_wordOf_127 : decode cX3_wordOf 127 = .ok (.ldc 178, 2) := by decide +kernel
theorem dX3_wordOf_129 : decode cX3_wordOf 129 = .ok (.areturn, 1) := by decide +kernel
theorem dX3_wordOf_130 : decode cX3_wordOf 130 = .ok (.ldc 180, 2) := by decide +kernel
theorem dX3_wordOf_132 : decode cX3_wordOf 132 = .ok (.areturn, 1) := by decide +kernel
theorem dX3_wordOf_133 : decode cX3_wordOf 133 = .ok (.ldc 182, 2) := by decide +kernel
theorem dX3_wordOf_135 : decode cX3_wordOf 135 = .ok (.areturn, 1) := by decide +kernel
theorem dX3_wordOf_136 : decode cX3_wordOf 136 = .ok (.ldc 184, 2) := by decide +kernel
theorem dX3_wordOf_138 : decode cX3_wordOf 138 = .ok (.areturn, 1) := by decide +kernel
theorem dX3_wordOf_139 : decode cX3_wordOf 139 = .ok (.ldc 186, 2) := by decide +kernel
theorem dX3_wordOf_141 : decode cX3_wordOf 141 = .ok (.areturn, 1) := by decide +kernel
theorem dX3_wordOf_142 : decode cX3_wordOf 142 = .ok (.ldc 188, 2) := by decide +kernel
theorem dX3_wordOf_144 : decode cX3_wordOf 144 = .ok (.areturn, 1) := by decide +kernel
abbrev mX3_wordOf : MI := (yX3_wordOf, cX3_wordOf, 1, (some (.object "java/lang/String")), noE)
theorem okX3_wordOf : cok mX3_wordOf 1 := ⟨tw518, tw7, by decide, by decide, by decide, by decide +kernel⟩
def fX3_wordOf (M : Mem) (a0 : Int) : Option Int :=
  if a0 = 0 then (some (-6)) else if a0 = 1 then (some (-7)) else if a0 = 2 then (some (-8)) else if a0 = 3 then (some (-9)) else if a0 = 4 then (some (-10)) else if a0 = 5 then (some (-11)) else if a0 = 6 then (some (-12)) else if a0 = 7 then (some (-13)) else if a0 = 8 then (some (-14)) else if a0 = 9 then (some (-15)) else if a0 = 10 then (some (-16)) else if a0 = 11 then (some (-17)) else if a0 = 12 then (some (-18)) else if a0 = 13 then (some (-19)) else if a0 = 14 then (some (-20)) else if a0 = 15 then (some (-21)) else if a0 = 16 then (some (-22)) else if a0 = 17 then (some (-23)) else some (-24)
set_option maxRecDepth 100000 in
set_option maxHeartbeats 4000000 in
theorem kX3_wordOf (d : Nat) (hd : 0 ≤ d) (M : Mem) (a0 : Int) : Ct mX3_wordOf d 0 0 [pI a0] M (dA M) (fX3_wordOf M a0) := by
  refine Ct.of 0 (fun _ _ _ => trivial) (by decide +kernel) rfl ?_
  unfold fX3_wordOf
  refine v_iload_n dX3_wordOf_0 rfl ?_
  refine v_ite (fun h1 => ?_) (fun h1 => ?_)
  · refine v_tabIn (off := 87) (tgt := 88) dX3_wordOf_1 h1 (by decide) ?_
    refine v_ldcS (mi := mX3_wordOf) 0 (by decide) rfl rfl rfl dX3_wordOf_88 ?_
    exact v_areturn dX3_wordOf_90 rfl (Or.inl ⟨_, rfl⟩) rfl
  · refine v_ite (fun h2 => ?_) (fun h2 => ?_)
    · refine v_tabIn (off := 90) (tgt := 91) dX3_wordOf_1 h2 (by decide) ?_
      refine v_ldcS (mi := mX3_wordOf) 1 (by decide) rfl rfl rfl dX3_wordOf_91 ?_
      exact v_areturn dX3_wordOf_93 rfl (Or.inl ⟨_, rfl⟩) rfl
    · refine v_ite (fun h3 => ?_) (fun h3 => ?_)
      · refine v_tabIn (off := 93) (tgt := 94) dX3_wordOf_1 h3 (by decide) ?_
        refine v_ldcS (mi := mX3_wordOf) 2 (by decide) rfl rfl rfl dX3_wordOf_94 ?_
        exact v_areturn dX3_wordOf_96 rfl (Or.inl ⟨_, rfl⟩) rfl
      · refine v_ite (fun h4 => ?_) (fun h4 => ?_)
        · refine v_tabIn (off := 96) (tgt := 97) dX3_wordOf_1 h4 (by decide) ?_
          refine v_ldcS (mi := mX3_wordOf) 3 (by decide) rfl rfl rfl dX3_wordOf_97 ?_
          exact v_areturn dX3_wordOf_99 rfl (Or.inl ⟨_, rfl⟩) rfl
        · refine v_ite (fun h5 => ?_) (fun h5 => ?_)
          · refine v_tabIn (off := 99) (tgt := 100) dX3_wordOf_1 h5 (by decide) ?_
            refine v_ldcS (mi := mX3_wordOf) 4 (by decide) rfl rfl rfl dX3_wordOf_100 ?_
            exact v_areturn dX3_wordOf_102 rfl (Or.inl ⟨_, rfl⟩) rfl
          · refine v_ite (fun h6 => ?_) (fun h6 => ?_)
            · refine v_tabIn (off := 102) (tgt := 103) dX3_wordOf_1 h6 (by decide) ?_
              refine v_ldcS (mi := mX3_wordOf) 5 (by decide) rfl rfl rfl dX3_wordOf_103 ?_
              exact v_areturn dX3_wordOf_105 rfl (Or.inl ⟨_, rfl⟩) rfl
            · refine v_ite (fun h7 => ?_) (fun h7 => ?_)
              · refine v_tabIn (off := 105) (tgt := 106) dX3_wordOf_1 h7 (by decide) ?_
                refine v_ldcS (mi := mX3_wordOf) 6 (by decide) rfl rfl rfl dX3_wordOf_106 ?_
                exact v_areturn dX3_wordOf_108 rfl (Or.inl ⟨_, rfl⟩) rfl
              · refine v_ite (fun h8 => ?_) (fun h8 => ?_)
                · refine v_tabIn (off := 108) (tgt := 109) dX3_wordOf_1 h8 (by decide) ?_
                  refine v_ldcS (mi := mX3_wordOf) 7 (by decide) rfl rfl rfl dX3_wordOf_109 ?_
                  exact v_areturn dX3_wordOf_111 rfl (Or.inl ⟨_, rfl⟩) rfl
                · refine v_ite (fun h9 => ?_) (fun h9 => ?_)
                  · refine v_tabIn (off := 111) (tgt := 112) dX3_wordOf_1 h9 (by decide) ?_
                    refine v_ldcS (mi := mX3_wordOf) 8 (by decide) rfl rfl rfl dX3_wordOf_112 ?_
                    exact v_areturn dX3_wordOf_114 rfl (Or.inl ⟨_, rfl⟩) rfl
                  · refine v_ite (fun h10 => ?_) (fun h10 => ?_)
                    · refine v_tabIn (off := 114) (tgt := 115) dX3_wordOf_1 h10 (by decide) ?_
                      refine v_ldcS (mi := mX3_wordOf) 9 (by decide) rfl rfl rfl dX3_wordOf_115 ?_
                      exact v_areturn dX3_wordOf_117 rfl (Or.inl ⟨_, rfl⟩) rfl
                    · refine v_ite (fun h11 => ?_) (fun h11 => ?_)
                      · refine v_tabIn (off := 117) (tgt := 118) dX3_wordOf_1 h11 (by decide) ?_
                        refine v_ldcS (mi := mX3_wordOf) 10 (by decide) rfl rfl rfl dX3_wordOf_118 ?_
                        exact v_areturn dX3_wordOf_120 rfl (Or.inl ⟨_, rfl⟩) rfl
                      · refine v_ite (fun h12 => ?_) (fun h12 => ?_)
                        · refine v_tabIn (off := 120) (tgt := 121) dX3_wordOf_1 h12 (by decide) ?_
                          refine v_ldcS (mi := mX3_wordOf) 11 (by decide) rfl rfl rfl dX3_wordOf_121 ?_
                          exact v_areturn dX3_wordOf_123 rfl (Or.inl ⟨_, rfl⟩) rfl
                        · refine v_ite (fun h13 => ?_) (fun h13 => ?_)
                          · refine v_tabIn (off := 123) (tgt := 124) dX3_wordOf_1 h13 (by decide) ?_
                            refine v_ldcS (mi := mX3_wordOf) 12 (by decide) rfl rfl rfl dX3_wordOf_124 ?_
                            exact v_areturn dX3_wordOf_126 rfl (Or.inl ⟨_, rfl⟩) rfl
                          · refine v_ite (fun h14 => ?_) (fun h14 => ?_)
                            · refine v_tabIn (off := 126) (tgt := 127) dX3_wordOf_1 h14 (by decide) ?_
                              refine v_ldcS (mi := mX3_wordOf) 13 (by decide) rfl rfl rfl dX3_wordOf_127 ?_
                              exact v_areturn dX3_wordOf_129 rfl (Or.inl ⟨_, rfl⟩) rfl
                            · refine v_ite (fun h15 => ?_) (fun h15 => ?_)
                              · refine v_tabIn (off := 129) (tgt := 130) dX3_wordOf_1 h15 (by decide) ?_
                                refine v_ldcS (mi := mX3_wordOf) 14 (by decide) rfl rfl rfl dX3_wordOf_130 ?_
                                exact v_areturn dX3_wordOf_132 rfl (Or.inl ⟨_, rfl⟩) rfl
                              · refine v_ite (fun h16 => ?_) (fun h16 => ?_)
                                · refine v_tabIn (off := 132) (tgt := 133) dX3_wordOf_1 h16 (by decide) ?_
                                  refine v_ldcS (mi := mX3_wordOf) 15 (by decide) rfl rfl rfl dX3_wordOf_133 ?_
                                  exact v_areturn dX3_wordOf_135 rfl (Or.inl ⟨_, rfl⟩) rfl
                                · refine v_ite (fun h17 => ?_) (fun h17 => ?_)
                                  · refine v_tabIn (off := 135) (tgt := 136) dX3_wordOf_1 h17 (by decide) ?_
                                    refine v_ldcS (mi := mX3_wordOf) 16 (by decide) rfl rfl rfl dX3_wordOf_136 ?_
                                    exact v_areturn dX3_wordOf_138 rfl (Or.inl ⟨_, rfl⟩) rfl
                                  · refine v_ite (fun h18 => ?_) (fun h18 => ?_)
                                    · refine v_tabIn (off := 138) (tgt := 139) dX3_wordOf_1 h18 (by decide) ?_
                                      refine v_ldcS (mi := mX3_wordOf) 17 (by decide) rfl rfl rfl dX3_wordOf_139 ?_
                                      exact v_areturn dX3_wordOf_141 rfl (Or.inl ⟨_, rfl⟩) rfl
                                    · refine v_tabOut (tgt := 142) dX3_wordOf_1 (by omega) (by decide) ?_
                                      refine v_ldcS (mi := mX3_wordOf) 18 (by decide) rfl rfl rfl dX3_wordOf_142 ?_
                                      exact v_areturn dX3_wordOf_144 rfl (Or.inl ⟨_, rfl⟩) rfl
theorem dX3_isWord_0 : decode cX3_isWord 0 = .ok (.aload_n 0, 1) := by decide +kernel
theorem dX3_isWord_1 : decode cX3_isWord 1 = .ok (.getfield 53, 3) := by decide +kernel
theorem dX3_isWord_4 : decode cX3_isWord 4 = .ok (.aload_n 0, 1) := by decide +kernel
theorem dX3_isWord_5 : decode cX3_isWord 5 = .ok (.getfield 59, 3) := by decide +kernel
theorem dX3_isWord_8 : decode cX3_isWord 8 = .ok (.isub, 1) := by decide +kernel
theorem dX3_isWord_9 : decode cX3_isWord 9 = .ok (.aload_n 1, 1) := by decide +kernel
theorem dX3_isWord_10 : decode cX3_isWord 10 = .ok (.invokevirtual 190, 3) := by decide +kernel
theorem dX3_isWord_13 : decode cX3_isWord 13 = .ok (.if_icmp .eq 5, 3) := by decide +kernel
theorem dX3_isWord_16 : decode cX3_isWord 16 = .ok (.iconst 0, 1) := by decide +kernel
theorem dX3_isWord_17 : decode cX3_isWord 17 = .ok (.ireturn, 1) := by decide +kernel
theorem dX3_isWord_18 : decode cX3_isWord 18 = .ok (.iconst 0, 1) := by decide +kernel
theorem dX3_isWord_19 : decode cX3_isWord 19 = .ok (.istore_n 2, 1) := by decide +kernel
theorem dX3_isWord_20 : decode cX3_isWord 20 = .ok (.iload_n 2, 1) := by decide +kernel
theorem dX3_isWord_21 : decode cX3_isWord 21 = .ok (.aload_n 1, 1) := by decide +kernel
theorem dX3_isWord_22 : decode cX3_isWord 22 = .ok (.invokevirtual 190, 3) := by decide +kernel
theorem dX3_isWord_25 : decode cX3_isWord 25 = .ok (.if_icmp .ge 29, 3) := by decide +kernel
theorem dX3_isWord_28 : decode cX3_isWord 28 = .ok (.aload_n 0, 1) := by decide +kernel
theorem dX3_isWord_29 : decode cX3_isWord 29 = .ok (.aload_n 0, 1) := by decide +kernel
theorem dX3_isWord_30 : decode cX3_isWord 30 = .ok (.getfield 59, 3) := by decide +kernel
theorem dX3_isWord_33 : decode cX3_isWord 33 = .ok (.iload_n 2, 1) := by decide +kernel
theorem dX3_isWord_34 : decode cX3_isWord 34 = .ok (.iadd, 1) := by decide +kernel
theorem dX3_isWord_35 : decode cX3_isWord 35 = .ok (.invokevirtual 195, 3) := by decide +kernel
theorem dX3_isWord_38 : decode cX3_isWord 38 = .ok (.aload_n 1, 1) := by decide +kernel
theorem dX3_isWord_39 : decode cX3_isWord 39 = .ok (.iload_n 2, 1) := by decide +kernel
theorem dX3_isWord_40 : decode cX3_isWord 40 = .ok (.invokevirtual 198, 3) := by decide +kernel
theorem dX3_isWord_43 : decode cX3_isWord 43 = .ok (.if_icmp .eq 5, 3) := by decide +kernel
theorem dX3_isWord_46 : decode cX3_isWord 46 = .ok (.iconst 0, 1) := by decide +kernel
theorem dX3_isWord_47 : decode cX3_isWord 47 = .ok (.ireturn, 1) := by decide +kernel
theorem dX3_isWord_48 : decode cX3_isWord 48 = .ok (.iinc 2 1, 3) := by decide +kernel
theorem dX3_isWord_51 : decode cX3_isWord 51 = .ok (.goto (-31), 3) := by decide +kernel
theorem dX3_isWord_54 : decode cX3_isWord 54 = .ok (.iconst 1, 1) := by decide +kernel
theorem dX3_isWord_55 : decode cX3_isWord 55 = .ok (.ireturn, 1) := by decide +kernel
abbrev mX3_isWord : MI := (yX3_isWord, cX3_isWord, 3, (some .boolean), noE)
theorem okX3_isWord : cok mX3_isWord 1 := ⟨tw541, tw7, by decide, by decide, by decide, by decide +kernel⟩
def fX3_isWord (M : Mem) (a0 a1 : Int) : Option Int :=
  if M.2.1 a0 = 3 then (fS_len a1).bind fun r2 => if w32 ((M.1 a0 8) - (M.1 a0 10)) = r2 then (iterC (fun (rec5 : Int → Option Int) (s6 : Int) => (fS_len a1).bind fun r7 => if s6 < r7 then ((fX3_byteAt M a0 (w32 ((M.1 a0 10) + s6))).bind fun r10 => (fS_chr a1 s6).bind fun r12 => if r10 = r12 then (rec5 (w32 (s6 + 1))) else (some 0)) else (some 1)) BIG 0) else (some 0) else none
set_option maxRecDepth 100000 in
set_option maxHeartbeats 4000000 in
theorem kX3_isWord (d : Nat) (hd : 6 ≤ d) (M : Mem) (a0 a1 : Int) : Ct mX3_isWord d 0 0 [pA a0, pA a1] M (dI M) (fX3_isWord M a0 a1) := by
  obtain ⟨d, rfl⟩ : ∃ k, d = k + 1 := ⟨d - 1, by omega⟩
  refine Ct.of 1 (fun _ _ _ => trivial) (by decide +kernel) rfl ?_
  unfold fX3_isWord
  refine v_aload_n dX3_isWord_0 rfl ?_
  refine v_if (fun h1 => ?_)
  refine v_get (v := pI (M.1 a0 8)) 3 8 rfl inX3 (by decide) tw268 dX3_isWord_1 h1 rfl ?_
  refine v_aload_n dX3_isWord_4 rfl ?_
  refine v_get (v := pI (M.1 a0 10)) 3 10 rfl inX3 (by decide) tw270 dX3_isWord_5 h1 rfl ?_
  refine v_isub dX3_isWord_8 ?_
  refine v_aload_n dX3_isWord_9 rfl ?_
  refine v_slen (mi := mX3_isWord) (by omega) tw542 (Nat.le_of_ble_eq_true rfl) dX3_isWord_10 (fun r2 h3 => ?_)
  refine v_icmp_eq (tgt := 18) dX3_isWord_13 (by decide) (fun c4 => ?_) (fun c4 => ?_)
  · refine v_iconst dX3_isWord_18 (by decide) ?_
    refine v_istore_n (ls' := [some (pA a0), some (pA a1), some (pI 0)]) dX3_isWord_19 (by decide) rfl ?_
    refine v_loop (fun (s6 : Int) => [some (pA a0), some (pA a1), some (pI s6)]) (fun (s6 : Int) => M) (s0 := 0) ?_
    intro rec5 hrec5 s6
    refine v_iload_n dX3_isWord_20 rfl ?_
    refine v_aload_n dX3_isWord_21 rfl ?_
    refine v_slen (mi := mX3_isWord) (by omega) tw542 (Nat.le_of_ble_eq_true rfl) dX3_isWord_22 (fun r7 h8 => ?_)
    refine v_icmp_ge (tgt := 54) dX3_isWord_25 (by decide) (fun c9 => ?_) (fun c9 => ?_)
    · refine v_aload_n dX3_isWord_28 rfl ?_
      refine v_aload_n dX3_isWord_29 rfl ?_
      refine v_get (v := pI (M.1 a0 10)) 3 10 rfl inX3 (by decide) tw270 dX3_isWord_30 h1 rfl ?_
      refine v_iload_n dX3_isWord_33 rfl ?_
      refine v_iadd dX3_isWord_34 ?_
      refine v_cV (mi := mX3_isWord) (c0 := 0) (c1 := 0) (As := [pI (w32 ((M.1 a0 10) + s6))]) (st := []) (kX3_byteAt d (by omega) _ _ _) rfl h1 rfl okX3_byteAt (Or.inl tw489) tw491 tp2 rfl (Nat.le_of_ble_eq_true rfl) dX3_isWord_35 (fun r10 => [pI r10]) (fun r10 => M) (fun _ => rfl) (fun _ => rfl) (fun r10 h11 => ?_) rfl
      refine v_aload_n dX3_isWord_38 rfl ?_
      refine v_iload_n dX3_isWord_39 rfl ?_
      refine v_schr (mi := mX3_isWord) (by omega) tw552 (Nat.le_of_ble_eq_true rfl) dX3_isWord_40 (fun r12 h13 => ?_)
      refine v_icmp_eq (tgt := 48) dX3_isWord_43 (by decide) (fun c14 => ?_) (fun c14 => ?_)
      · refine v_iinc (ls' := [some (pA a0), some (pA a1), some (pI (w32 (s6 + 1)))]) dX3_isWord_48 (by decide) rfl rfl ?_
        refine v_goto (tgt := 20) dX3_isWord_51 (by decide) ?_
        exact hrec5 (w32 (s6 + 1))
      · refine v_iconst dX3_isWord_46 (by decide) ?_
        exact v_breturn dX3_isWord_47 rfl (by decide) rfl
    · refine v_iconst dX3_isWord_54 (by decide) ?_
      exact v_breturn dX3_isWord_55 rfl (by decide) rfl
  · refine v_iconst dX3_isWord_16 (by decide) ?_
    exact v_breturn dX3_isWord_17 rfl (by decide) rfl
theorem dX3_lineOf_0 : decode cX3_lineOf 0 = .ok (.iload_n 1, 1) := by decide +kernel
theorem dX3_lineOf_1 : decode cX3_lineOf 1 = .ok (.ifCond .lt 8, 3) := by decide +kernel
theorem dX3_lineOf_4 : decode cX3_lineOf 4 = .ok (.iload_n 1, 1) := by decide +kernel
theorem dX3_lineOf_5 : decode cX3_lineOf 5 = .ok (.iconst 4, 1) := by decide +kernel
theorem dX3_lineOf_6 : decode cX3_lineOf 6 = .ok (.if_icmp .lt 5, 3) := by decide +kernel
theorem dX3_lineOf_9 : decode cX3_lineOf 9 = .ok (.iconst (-1), 1) := by decide +kernel
theorem dX3_lineOf_10 : decode cX3_lineOf 10 = .ok (.ireturn, 1) := by decide +kernel
theorem dX3_lineOf_11 : decode cX3_lineOf 11 = .ok (.getstatic 142, 3) := by decide +kernel
theorem dX3_lineOf_14 : decode cX3_lineOf 14 = .ok (.iload_n 1, 1) := by decide +kernel
theorem dX3_lineOf_15 : decode cX3_lineOf 15 = .ok (.iaload, 1) := by decide +kernel
theorem dX3_lineOf_16 : decode cX3_lineOf 16 = .ok (.istore_n 2, 1) := by decide +kernel
theorem dX3_lineOf_17 : decode cX3_lineOf 17 = .ok (.iload_n 2, 1) := by decide +kernel
theorem dX3_lineOf_18 : decode cX3_lineOf 18 = .ok (.getstatic 142, 3) := by decide +kernel
theorem dX3_lineOf_21 : decode cX3_lineOf 21 = .ok (.iload_n 1, 1) := by decide +kernel
theorem dX3_lineOf_22 : decode cX3_lineOf 22 = .ok (.iconst 1, 1) := by decide +kernel
theorem dX3_lineOf_23 : decode cX3_lineOf 23 = .ok (.iadd, 1) := by decide +kernel
theorem dX3_lineOf_24 : decode cX3_lineOf 24 = .ok (.iaload, 1) := by decide +kernel
theorem dX3_lineOf_25 : decode cX3_lineOf 25 = .ok (.if_icmp .ge 22, 3) := by decide +kernel
theorem dX3_lineOf_28 : decode cX3_lineOf 28 = .ok (.aload_n 0, 1) := by decide +kernel
theorem dX3_lineOf_29 : decode cX3_lineOf 29 = .ok (.iload_n 2, 1) := by decide +kernel
theorem dX3_lineOf_30 : decode cX3_lineOf 30 = .ok (.invokestatic 145, 3) := by decide +kernel
theorem dX3_lineOf_33 : decode cX3_lineOf 33 = .ok (.invokevirtual 149, 3) := by decide +kernel
theorem dX3_lineOf_36 : decode cX3_lineOf 36 = .ok (.ifCond .eq 5, 3) := by decide +kernel
theorem dX3_lineOf_39 : decode cX3_lineOf 39 = .ok (.iload_n 2, 1) := by decide +kernel
theorem dX3_lineOf_40 : decode cX3_lineOf 40 = .ok (.ireturn, 1) := by decide +kernel
theorem dX3_lineOf_41 : decode cX3_lineOf 41 = .ok (.iinc 2 1, 3) := by decide +kernel
theorem dX3_lineOf_44 : decode cX3_lineOf 44 = .ok (.goto (-27), 3) := by decide +kernel
theorem dX3_lineOf_47 : decode cX3_lineOf 47 = .ok (.iconst (-1), 1) := by decide +kernel
theorem dX3_lineOf_48 : decode cX3_lineOf 48 = .ok (.ireturn, 1) := by decide +kernel
abbrev mX3_lineOf : MI := (yX3_lineOf, cX3_lineOf, 3, (some .int), noE)
theorem okX3_lineOf : cok mX3_lineOf 1 := ⟨tw513, tw7, by decide, by decide, by decide, by decide +kernel⟩
def fX3_lineOf (M : Mem) (a0 a1 : Int) : Option Int :=
  if a1 < 0 then (some (-1)) else (if a1 < 4 then (if (0 : Int) ≤ a1 ∧ a1 < 5 then iterC (fun (rec4 : Int → Option Int) (s5 : Int) => if (0 : Int) ≤ (w32 (a1 + 1)) ∧ (w32 (a1 + 1)) < 5 then if s5 < (sTab 0).getD (w32 (a1 + 1)).toNat 0 then ((fX3_wordOf M s5).bind fun r8 => if M.2.1 a0 = 3 then (fX3_isWord M a0 r8).bind fun r10 => if r10 = 0 then (rec4 (w32 (s5 + 1))) else (some s5) else none) else (some (-1)) else none) BIG ((sTab 0).getD a1.toNat 0) else none) else (some (-1)))
set_option maxRecDepth 100000 in
set_option maxHeartbeats 4000000 in
theorem kX3_lineOf (d : Nat) (hd : 7 ≤ d) (M : Mem) (a0 a1 : Int) : Ct mX3_lineOf d 0 0 [pA a0, pI a1] M (dI M) (fX3_lineOf M a0 a1) := by
  obtain ⟨d, rfl⟩ : ∃ k, d = k + 1 := ⟨d - 1, by omega⟩
  refine Ct.of 1 (fun _ _ _ => trivial) (by decide +kernel) rfl ?_
  unfold fX3_lineOf
  refine v_iload_n dX3_lineOf_0 rfl ?_
  refine v_if_lt (tgt := 9) dX3_lineOf_1 (by decide) (fun c1 => ?_) (fun c1 => ?_)
  · refine v_iconst dX3_lineOf_9 (by decide) ?_
    exact v_ireturn dX3_lineOf_10 rfl rfl
  · refine v_iload_n dX3_lineOf_4 rfl ?_
    refine v_iconst dX3_lineOf_5 (by decide) ?_
    refine v_icmp_lt (tgt := 11) dX3_lineOf_6 (by decide) (fun c2 => ?_) (fun c2 => ?_)
    · refine v_gets (mi := mX3_lineOf) 0 (by decide) tw514 dX3_lineOf_11 rfl ?_
      refine v_iload_n dX3_lineOf_14 rfl ?_
      refine v_if (fun h3 => ?_)
      refine v_ciald (mi := mX3_lineOf) 0 (by decide) rfl rfl h3 dX3_lineOf_15 ?_
      refine v_istore_n (ls' := [some (pA a0), some (pI a1), some (pI ((sTab 0).getD a1.toNat 0))]) dX3_lineOf_16 (by decide) rfl ?_
      refine v_loop (fun (s5 : Int) => [some (pA a0), some (pI a1), some (pI s5)]) (fun (s5 : Int) => M) (s0 := (sTab 0).getD a1.toNat 0) ?_
      intro rec4 hrec4 s5
      refine v_iload_n dX3_lineOf_17 rfl ?_
      refine v_gets (mi := mX3_lineOf) 0 (by decide) tw514 dX3_lineOf_18 rfl ?_
      refine v_iload_n dX3_lineOf_21 rfl ?_
      refine v_iconst dX3_lineOf_22 (by decide) ?_
      refine v_iadd dX3_lineOf_23 ?_
      refine v_if (fun h6 => ?_)
      refine v_ciald (mi := mX3_lineOf) 0 (by decide) rfl rfl h6 dX3_lineOf_24 ?_
      refine v_icmp_ge (tgt := 47) dX3_lineOf_25 (by decide) (fun c7 => ?_) (fun c7 => ?_)
      · refine v_aload_n dX3_lineOf_28 rfl ?_
        refine v_iload_n dX3_lineOf_29 rfl ?_
        refine v_cS (mi := mX3_lineOf) (c0 := 0) (c1 := 0) (As := [pI s5]) (st := [pA a0]) (kX3_wordOf d (by omega) _ _) okX3_wordOf (Or.inl tw516) tw517 rfl (Nat.le_of_ble_eq_true rfl) dX3_lineOf_30 (fun r8 => [pA r8, pA a0]) (fun r8 => M) (fun _ => rfl) (fun _ => rfl) (fun r8 h9 => ?_) rfl
        refine v_if (fun h12 => ?_)
        refine v_cV (mi := mX3_lineOf) (c0 := 0) (c1 := 0) (As := [pA r8]) (st := []) (kX3_isWord d (by omega) _ _ _) rfl h12 rfl okX3_isWord (Or.inl tw538) tw540 tp6 rfl (Nat.le_of_ble_eq_true rfl) dX3_lineOf_33 (fun r10 => [pI r10]) (fun r10 => M) (fun _ => rfl) (fun _ => rfl) (fun r10 h11 => ?_) rfl
        refine v_if_eq (tgt := 41) dX3_lineOf_36 (by decide) (fun c13 => ?_) (fun c13 => ?_)
        · refine v_iinc (ls' := [some (pA a0), some (pI a1), some (pI (w32 (s5 + 1)))]) dX3_lineOf_41 (by decide) rfl rfl ?_
          refine v_goto (tgt := 17) dX3_lineOf_44 (by decide) ?_
          exact hrec4 (w32 (s5 + 1))
        · refine v_iload_n dX3_lineOf_39 rfl ?_
          exact v_ireturn dX3_lineOf_40 rfl rfl
      · refine v_iconst dX3_lineOf_47 (by decide) ?_
        exact v_ireturn dX3_lineOf_48 rfl rfl
    · refine v_iconst dX3_lineOf_9 (by decide) ?_
      exact v_ireturn dX3_lineOf_10 rfl rfl
theorem dX3_breakOff_0 : decode cX3_breakOff 0 = .ok (.aload_n 0, 1) := by decide +kernel
theorem dX3_breakOff_1 : decode cX3_breakOff 1 = .ok (.iconst 1, 1) := by decide +kernel
theorem dX3_breakOff_2 : decode cX3_breakOff 2 = .ok (.putfield 69, 3) := by decide +kernel
theorem dX3_breakOff_5 : decode cX3_breakOff 5 = .ok (.aload_n 0, 1) := by decide +kernel
theorem dX3_breakOff_6 : decode cX3_breakOff 6 = .ok (.iconst 1, 1) := by decide +kernel
theorem dX3_breakOff_7 : decode cX3_breakOff 7 = .ok (.putfield 9, 3) := by decide +kernel
theorem dX3_breakOff_10 : decode cX3_breakOff 10 = .ok (.aload_n 0, 1) := by decide +kernel
theorem dX3_breakOff_11 : decode cX3_breakOff 11 = .ok (.aload_n 0, 1) := by decide +kernel
theorem dX3_breakOff_12 : decode cX3_breakOff 12 = .ok (.getfield 59, 3) := by decide +kernel
theorem dX3_breakOff_15 : decode cX3_breakOff 15 = .ok (.putfield 15, 3) := by decide +kernel
theorem dX3_breakOff_18 : decode cX3_breakOff 18 = .ok (.return_, 1) := by decide +kernel
abbrev mX3_breakOff : MI := (yX3_breakOff, cX3_breakOff, 1, none, noE)
theorem okX3_breakOff : cok mX3_breakOff 0 := ⟨tw593, tw7, by decide, by decide, by decide, by decide +kernel⟩
def fX3_breakOff (M : Mem) (a0 : Int) : Option Mem :=
  if M.2.1 a0 = 3 then bM (mst M a0 13 1) fun M2 => bM (mst M2 a0 0 1) fun M4 => bM (mst M4 a0 1 (M4.1 a0 10)) fun M6 => some M6 else none
set_option maxRecDepth 100000 in
set_option maxHeartbeats 4000000 in
theorem kX3_breakOff (d : Nat) (hd : 0 ≤ d) (M : Mem) (a0 : Int) : Ct mX3_breakOff d 0 0 [pA a0] M dV (fX3_breakOff M a0) := by
  refine Ct.of 0 (fun _ _ _ => trivial) (by decide +kernel) rfl ?_
  unfold fX3_breakOff
  refine v_aload_n dX3_breakOff_0 rfl ?_
  refine v_iconst dX3_breakOff_1 (by decide) ?_
  refine v_if (fun h1 => ?_)
  refine v_put (x := 1) 3 13 rfl inX3 (by decide) tw273 (Or.inl rfl) rfl dX3_breakOff_2 h1 rfl (fun _ => by first | exact Or.inl rfl | exact Or.inr rfl) ?_
  refine v_bM (fun M2 e3 => ?_)
  refine v_aload_n dX3_breakOff_5 rfl ?_
  refine v_iconst dX3_breakOff_6 (by decide) ?_
  refine v_put (x := 1) 3 0 rfl inX3 (by decide) tw254 (Or.inl rfl) rfl dX3_breakOff_7 (by rw [e3]; exact h1) rfl id ?_
  refine v_bM (fun M4 e5 => ?_)
  refine v_aload_n dX3_breakOff_10 rfl ?_
  refine v_aload_n dX3_breakOff_11 rfl ?_
  refine v_get (v := pI (M4.1 a0 10)) 3 10 rfl inX3 (by decide) tw270 dX3_breakOff_12 (by rw [e5, e3]; exact h1) rfl ?_
  refine v_put (x := M4.1 a0 10) 3 1 rfl inX3 (by decide) tw256 (Or.inl rfl) rfl dX3_breakOff_15 (by rw [e5, e3]; exact h1) rfl id ?_
  refine v_bM (fun M6 e7 => ?_)
  exact v_return dX3_breakOff_18 rfl rfl
