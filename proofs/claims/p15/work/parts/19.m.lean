theorem chX11_gives_0 : (cX11_gives.data.toList.drop 0).take 16 = [42, 27, 28, 29, 182, 1, 92, 154, 0, 5, 3, 172, 42, 180, 0, 47] := by decide +kernel
theorem chX11_gives_1 : (cX11_gives.data.toList.drop 16).take 16 = [8, 27, 104, 29, 96, 92, 46, 4, 100, 79, 42, 180, 0, 44, 8, 28] := by decide +kernel
theorem chX11_gives_2 : (cX11_gives.data.toList.drop 32).take 16 = [104, 29, 96, 92, 46, 4, 96, 79, 42, 180, 0, 53, 27, 28, 29, 184] := by decide +kernel
theorem chX11_gives_3 : (cX11_gives.data.toList.drop 48).take 16 = [1, 88, 92, 46, 4, 96, 79, 42, 180, 0, 65, 27, 92, 46, 42, 42] := by decide +kernel
theorem chX11_gives_4 : (cX11_gives.data.toList.drop 64).take 16 = [180, 1, 76, 182, 1, 61, 153, 0, 7, 5, 167, 0, 4, 4, 96, 79] := by decide +kernel
theorem chX11_gives_5 : (cX11_gives.data.toList.drop 80).take 16 = [42, 180, 0, 59, 27, 92, 46, 42, 16, 62, 28, 96, 182, 1, 21, 96] := by decide +kernel
theorem chX11_gives_6 : (cX11_gives.data.toList.drop 96).take 16 = [79, 4, 172] := by decide +kernel
theorem dX11_gives_0 : decode cX11_gives 0 = .ok (.aload_n 0, 1) := oq_42 (byt chX11_gives_0 0 rfl)
theorem dX11_gives_1 : decode cX11_gives 1 = .ok (.iload_n 1, 1) := oq_27 (byt chX11_gives_0 1 rfl)
theorem dX11_gives_2 : decode cX11_gives 2 = .ok (.iload_n 2, 1) := oq_28 (byt chX11_gives_0 2 rfl)
theorem dX11_gives_3 : decode cX11_gives 3 = .ok (.iload_n 3, 1) := oq_29 (byt chX11_gives_0 3 rfl)
theorem dX11_gives_4 : decode cX11_gives 4 = .ok (.invokevirtual 348, 3) := oq_182 (byt chX11_gives_0 4 rfl) (byt chX11_gives_0 5 rfl) (byt chX11_gives_0 6 rfl) rfl
theorem dX11_gives_7 : decode cX11_gives 7 = .ok (.ifCond .ne 5, 3) := oq_154 (byt chX11_gives_0 7 rfl) (byt chX11_gives_0 8 rfl) (byt chX11_gives_0 9 rfl) (by decide +kernel)
theorem dX11_gives_10 : decode cX11_gives 10 = .ok (.iconst 0, 1) := oq_3 (byt chX11_gives_0 10 rfl)
theorem dX11_gives_11 : decode cX11_gives 11 = .ok (.ireturn, 1) := oq_172 (byt chX11_gives_0 11 rfl)
theorem dX11_gives_12 : decode cX11_gives 12 = .ok (.aload_n 0, 1) := oq_42 (byt chX11_gives_0 12 rfl)
theorem dX11_gives_13 : decode cX11_gives 13 = .ok (.getfield 47, 3) := oq_180 (byt chX11_gives_0 13 rfl) (byt chX11_gives_0 14 rfl) (byt chX11_gives_0 15 rfl) rfl
theorem dX11_gives_16 : decode cX11_gives 16 = .ok (.iconst 5, 1) := oq_8 (byt chX11_gives_1 0 rfl)
theorem dX11_gives_17 : decode cX11_gives 17 = .ok (.iload_n 1, 1) := oq_27 (byt chX11_gives_1 1 rfl)
theorem dX11_gives_18 : decode cX11_gives 18 = .ok (.imul, 1) := oq_104 (byt chX11_gives_1 2 rfl)
theorem dX11_gives_19 : decode cX11_gives 19 = .ok (.iload_n 3, 1) := oq_29 (byt chX11_gives_1 3 rfl)
theorem dX11_gives_20 : decode cX11_gives 20 = .ok (.iadd, 1) := oq_96 (byt chX11_gives_1 4 rfl)
theorem dX11_gives_21 : decode cX11_gives 21 = .ok (.dup2, 1) := oq_92 (byt chX11_gives_1 5 rfl)
theorem dX11_gives_22 : decode cX11_gives 22 = .ok (.iaload, 1) := oq_46 (byt chX11_gives_1 6 rfl)
theorem dX11_gives_23 : decode cX11_gives 23 = .ok (.iconst 1, 1) := oq_4 (byt chX11_gives_1 7 rfl)
theorem dX11_gives_24 : decode cX11_gives 24 = .ok (.isub, 1) := oq_100 (byt chX11_gives_1 8 rfl)
theorem dX11_gives_25 : decode cX11_gives 25 = .ok (.iastore, 1) := oq_79 (byt chX11_gives_1 9 rfl)
theorem dX11_gives_26 : decode cX11_gives 26 = .ok (.aload_n 0, 1) := oq_42 (byt chX11_gives_1 10 rfl)
theorem dX11_gives_27 : decode cX11_gives 27 = .ok (.getfield 44, 3) := oq_180 (byt chX11_gives_1 11 rfl) (byt chX11_gives_1 12 rfl) (byt chX11_gives_1 13 rfl) rfl
theorem dX11_gives_30 : decode cX11_gives 30 = .ok (.iconst 5, 1) := oq_8 (byt chX11_gives_1 14 rfl)
theorem dX11_gives_31 : decode cX11_gives 31 = .ok (.iload_n 2, 1) := oq_28 (byt chX11_gives_1 15 rfl)
theorem dX11_gives_32 : decode cX11_gives 32 = .ok (.imul, 1) := oq_104 (byt chX11_gives_2 0 rfl)
theorem dX11_gives_33 : decode cX11_gives 33 = .ok (.iload_n 3, 1) := oq_29 (byt chX11_gives_2 1 rfl)
theorem dX11_gives_34 : decode cX11_gives 34 = .ok (.iadd, 1) := oq_96 (byt chX11_gives_2 2 rfl)
theorem dX11_gives_35 : decode cX11_gives 35 = .ok (.dup2, 1) := oq_92 (byt chX11_gives_2 3 rfl)
theorem dX11_gives_36 : decode cX11_gives 36 = .ok (.iaload, 1) := oq_46 (byt chX11_gives_2 4 rfl)
theorem dX11_gives_37 : decode cX11_gives 37 = .ok (.iconst 1, 1) := oq_4 (byt chX11_gives_2 5 rfl)
theorem dX11_gives_38 : decode cX11_gives 38 = .ok (.iadd, 1) := oq_96 (byt chX11_gives_2 6 rfl)
theorem dX11_gives_39 : decode cX11_gives 39 = .ok (.iastore, 1) := oq_79 (byt chX11_gives_2 7 rfl)
theorem dX11_gives_40 : decode cX11_gives 40 = .ok (.aload_n 0, 1) := oq_42 (byt chX11_gives_2 8 rfl)
theorem dX11_gives_41 : decode cX11_gives 41 = .ok (.getfield 53, 3) := oq_180 (byt chX11_gives_2 9 rfl) (byt chX11_gives_2 10 rfl) (byt chX11_gives_2 11 rfl) rfl
theorem dX11_gives_44 : decode cX11_gives 44 = .ok (.iload_n 1, 1) := oq_27 (byt chX11_gives_2 12 rfl)
theorem dX11_gives_45 : decode cX11_gives 45 = .ok (.iload_n 2, 1) := oq_28 (byt chX11_gives_2 13 rfl)
theorem dX11_gives_46 : decode cX11_gives 46 = .ok (.iload_n 3, 1) := oq_29 (byt chX11_gives_2 14 rfl)
theorem dX11_gives_47 : decode cX11_gives 47 = .ok (.invokestatic 344, 3) := oq_184 (byt chX11_gives_2 15 rfl) (byt chX11_gives_3 0 rfl) (byt chX11_gives_3 1 rfl) rfl
theorem dX11_gives_50 : decode cX11_gives 50 = .ok (.dup2, 1) := oq_92 (byt chX11_gives_3 2 rfl)
theorem dX11_gives_51 : decode cX11_gives 51 = .ok (.iaload, 1) := oq_46 (byt chX11_gives_3 3 rfl)
theorem dX11_gives_52 : decode cX11_gives 52 = .ok (.iconst 1, 1) := oq_4 (byt chX11_gives_3 4 rfl)
theorem dX11_gives_53 : decode cX11_gives 53 = .ok (.iadd, 1) := oq_96 (byt chX11_gives_3 5 rfl)
theorem dX11_gives_54 : decode cX11_gives 54 = .ok (.iastore, 1) := oq_79 (byt chX11_gives_3 6 rfl)
theorem dX11_gives_55 : decode cX11_gives 55 = .ok (.aload_n 0, 1) := oq_42 (byt chX11_gives_3 7 rfl)
theorem dX11_gives_56 : decode cX11_gives 56 = .ok (.getfield 65, 3) := oq_180 (byt chX11_gives_3 8 rfl) (byt chX11_gives_3 9 rfl) (byt chX11_gives_3 10 rfl) rfl
theorem dX11_gives_59 : decode cX11_gives 59 = .ok (.iload_n 1, 1) := oq_27 (byt chX11_gives_3 11 rfl)
theorem dX11_gives_60 : decode cX11_gives 60 = .ok (.dup2, 1) := oq_92 (byt chX11_gives_3 12 rfl)
theorem dX11_gives_61 : decode cX11_gives 61 = .ok (.iaload, 1) := oq_46 (byt chX11_gives_3 13 rfl)
theorem dX11_gives_62 : decode cX11_gives 62 = .ok (.aload_n 0, 1) := oq_42 (byt chX11_gives_3 14 rfl)
theorem dX11_gives_63 : decode cX11_gives 63 = .ok (.aload_n 0, 1) := oq_42 (byt chX11_gives_3 15 rfl)
theorem dX11_gives_64 : decode cX11_gives 64 = .ok (.getfield 332, 3) := oq_180 (byt chX11_gives_4 0 rfl) (byt chX11_gives_4 1 rfl) (byt chX11_gives_4 2 rfl) rfl
theorem dX11_gives_67 : decode cX11_gives 67 = .ok (.invokevirtual 317, 3) := oq_182 (byt chX11_gives_4 3 rfl) (byt chX11_gives_4 4 rfl) (byt chX11_gives_4 5 rfl) rfl
theorem dX11_gives_70 : decode cX11_gives 70 = .ok (.ifCond .eq 7, 3) := oq_153 (byt chX11_gives_4 6 rfl) (byt chX11_gives_4 7 rfl) (byt chX11_gives_4 8 rfl) (by decide +kernel)
theorem dX11_gives_73 : decode cX11_gives 73 = .ok (.iconst 2, 1) := oq_5 (byt chX11_gives_4 9 rfl)
theorem dX11_gives_74 : decode cX11_gives 74 = .ok (.goto 4, 3) := oq_167 (byt chX11_gives_4 10 rfl) (byt chX11_gives_4 11 rfl) (byt chX11_gives_4 12 rfl) (by decide +kernel)
theorem dX11_gives_77 : decode cX11_gives 77 = .ok (.iconst 1, 1) := oq_4 (byt chX11_gives_4 13 rfl)
theorem dX11_gives_78 : decode cX11_gives 78 = .ok (.iadd, 1) := oq_96 (byt chX11_gives_4 14 rfl)
theorem dX11_gives_79 : decode cX11_gives 79 = .ok (.iastore, 1) := oq_79 (byt chX11_gives_4 15 rfl)
theorem dX11_gives_80 : decode cX11_gives 80 = .ok (.aload_n 0, 1) := oq_42 (byt chX11_gives_5 0 rfl)
theorem dX11_gives_81 : decode cX11_gives 81 = .ok (.getfield 59, 3) := oq_180 (byt chX11_gives_5 1 rfl) (byt chX11_gives_5 2 rfl) (byt chX11_gives_5 3 rfl) rfl
theorem dX11_gives_84 : decode cX11_gives 84 = .ok (.iload_n 1, 1) := oq_27 (byt chX11_gives_5 4 rfl)
theorem dX11_gives_85 : decode cX11_gives 85 = .ok (.dup2, 1) := oq_92 (byt chX11_gives_5 5 rfl)
theorem dX11_gives_86 : decode cX11_gives 86 = .ok (.iaload, 1) := oq_46 (byt chX11_gives_5 6 rfl)
theorem dX11_gives_87 : decode cX11_gives 87 = .ok (.aload_n 0, 1) := oq_42 (byt chX11_gives_5 7 rfl)
theorem dX11_gives_88 : decode cX11_gives 88 = .ok (.bipush 62, 2) := oq_16 (byt chX11_gives_5 8 rfl) (byt chX11_gives_5 9 rfl) rfl
theorem dX11_gives_90 : decode cX11_gives 90 = .ok (.iload_n 2, 1) := oq_28 (byt chX11_gives_5 10 rfl)
theorem dX11_gives_91 : decode cX11_gives 91 = .ok (.iadd, 1) := oq_96 (byt chX11_gives_5 11 rfl)
theorem dX11_gives_92 : decode cX11_gives 92 = .ok (.invokevirtual 277, 3) := oq_182 (byt chX11_gives_5 12 rfl) (byt chX11_gives_5 13 rfl) (byt chX11_gives_5 14 rfl) rfl
theorem dX11_gives_95 : decode cX11_gives 95 = .ok (.iadd, 1) := oq_96 (byt chX11_gives_5 15 rfl)
theorem dX11_gives_96 : decode cX11_gives 96 = .ok (.iastore, 1) := oq_79 (byt chX11_gives_6 0 rfl)
theorem dX11_gives_97 : decode cX11_gives 97 = .ok (.iconst 1, 1) := oq_4 (byt chX11_gives_6 1 rfl)
theorem dX11_gives_98 : decode cX11_gives 98 = .ok (.ireturn, 1) := oq_172 (byt chX11_gives_6 2 rfl)
abbrev mX11_gives : MI := (yX11_gives, cX11_gives, 4, (some .boolean), noE)
theorem okX11_gives : cok mX11_gives 3 := ⟨tw1600, tw11, by decide, by decide, by decide, by decide +kernel⟩
def fX11_gives (M : Mem) (a0 a1 a2 a3 : Int) : Option (Int × Mem) :=
  if M.2.1 a0 = 10 then (fX11_mayGive M a0 a1 a2 a3).bind fun r1 => if r1 = 0 then (some (0, M)) else (if M.2.1 (M.1 a0 30) = 12 ∧ (0 : Int) ≤ (w32 ((w32 (5 * a1)) + a3)) ∧ (w32 ((w32 (5 * a1)) + a3)) < M.2.2.1 (M.1 a0 30) then if M.2.1 (M.1 a0 30) = 12 ∧ (0 : Int) ≤ (w32 ((w32 (5 * a1)) + a3)) ∧ (w32 ((w32 (5 * a1)) + a3)) < M.2.2.1 (M.1 a0 30) then bM (mst M (M.1 a0 30) (w32 ((w32 (5 * a1)) + a3)) (w32 ((M.1 (M.1 a0 30) (w32 ((w32 (5 * a1)) + a3))) - 1))) fun M7 => if M7.2.1 (M7.1 a0 29) = 12 ∧ (0 : Int) ≤ (w32 ((w32 (5 * a2)) + a3)) ∧ (w32 ((w32 (5 * a2)) + a3)) < M7.2.2.1 (M7.1 a0 29) then if M7.2.1 (M7.1 a0 29) = 12 ∧ (0 : Int) ≤ (w32 ((w32 (5 * a2)) + a3)) ∧ (w32 ((w32 (5 * a2)) + a3)) < M7.2.2.1 (M7.1 a0 29) then bM (mst M7 (M7.1 a0 29) (w32 ((w32 (5 * a2)) + a3)) (w32 ((M7.1 (M7.1 a0 29) (w32 ((w32 (5 * a2)) + a3))) + 1))) fun M11 => (fX11_place M11 a1 a2 a3).bind fun r13 => if M11.2.1 (M11.1 a0 32) = 12 ∧ (0 : Int) ≤ r13 ∧ r13 < M11.2.2.1 (M11.1 a0 32) then if M11.2.1 (M11.1 a0 32) = 12 ∧ (0 : Int) ≤ r13 ∧ r13 < M11.2.2.1 (M11.1 a0 32) then bM (mst M11 (M11.1 a0 32) r13 (w32 ((M11.1 (M11.1 a0 32) r13) + 1))) fun M17 => if M17.2.1 (M17.1 a0 36) = 12 ∧ (0 : Int) ≤ a1 ∧ a1 < M17.2.2.1 (M17.1 a0 36) then (fX11_isDouble M17 a0 (M17.1 a0 40)).bind fun r20 => jn (fun (t23 : Int) => if M17.2.1 (M17.1 a0 36) = 12 ∧ (0 : Int) ≤ a1 ∧ a1 < M17.2.2.1 (M17.1 a0 36) then bM (mst M17 (M17.1 a0 36) a1 (w32 ((M17.1 (M17.1 a0 36) a1) + t23))) fun M25 => if M25.2.1 (M25.1 a0 34) = 12 ∧ (0 : Int) ≤ a1 ∧ a1 < M25.2.2.1 (M25.1 a0 34) then (fX11_of M25 a0 (w32 (62 + a2))).bind fun r28 => if M25.2.1 (M25.1 a0 34) = 12 ∧ (0 : Int) ≤ a1 ∧ a1 < M25.2.2.1 (M25.1 a0 34) then bM (mst M25 (M25.1 a0 34) a1 (w32 ((M25.1 (M25.1 a0 34) a1) + r28))) fun M31 => some (1, M31) else none else none else none) (fun (j22 : Int → Option (Int × Mem)) => if r20 = 0 then (j22 1) else (j22 2)) else none else none else none else none else none else none else none) else none
set_option maxRecDepth 100000 in
set_option maxHeartbeats 4000000 in
theorem kX11_gives (d : Nat) (hd : 4 ≤ d) (M : Mem) (a0 a1 a2 a3 : Int) : Ct mX11_gives d 0 0 [pA a0, pI a1, pI a2, pI a3] M dIM (fX11_gives M a0 a1 a2 a3) := by
  obtain ⟨d, rfl⟩ : ∃ k, d = k + 1 := ⟨d - 1, by omega⟩
  refine Ct.of 0 (fun _ _ _ => trivial) (by decide +kernel) rfl ?_
  unfold fX11_gives
  refine v_aload_n dX11_gives_0 rfl ?_
  refine v_iload_n dX11_gives_1 rfl ?_
  refine v_iload_n dX11_gives_2 rfl ?_
  refine v_iload_n dX11_gives_3 rfl ?_
  refine v_if (fun h3 => ?_)
  refine v_cV (mi := mX11_gives) (c0 := 0) (c1 := 0) (As := [pI a1, pI a2, pI a3]) (st := []) (kX11_mayGive d (by omega) _ _ _ _ _) rfl h3 rfl okX11_mayGive (Or.inl tw1601) tw1603 tp73 rfl (Nat.le_of_ble_eq_true rfl) dX11_gives_4 (fun r1 => [pI r1]) (fun r1 => M) (fun _ => rfl) (fun _ => rfl) (fun r1 h2 => ?_) rfl
  refine v_if_ne (tgt := 12) dX11_gives_7 (by decide) (fun c4 => ?_) (fun c4 => ?_)
  · refine v_iconst dX11_gives_10 (by decide) ?_
    exact v_breturn dX11_gives_11 rfl (by decide) rfl
  · refine v_aload_n dX11_gives_12 rfl ?_
    refine v_get (v := pA (M.1 a0 30)) 10 30 rfl inX11 (by decide) tw1223 dX11_gives_13 h3 rfl ?_
    refine v_iconst dX11_gives_16 (by decide) ?_
    refine v_iload_n dX11_gives_17 rfl ?_
    refine v_imul dX11_gives_18 ?_
    refine v_iload_n dX11_gives_19 rfl ?_
    refine v_iadd dX11_gives_20 ?_
    refine v_dup2 dX11_gives_21 (by intro z hz; cases hz) (by intro z hz; cases hz) ?_
    refine v_if (fun h5 => ?_)
    refine v_iaload h5 dX11_gives_22 ?_
    refine v_iconst dX11_gives_23 (by decide) ?_
    refine v_isub dX11_gives_24 ?_
    refine v_if (fun h6 => ?_)
    refine v_iastore h6 dX11_gives_25 ?_
    refine v_bM (fun M7 e8 => ?_)
    refine v_aload_n dX11_gives_26 rfl ?_
    refine v_get (v := pA (M7.1 a0 29)) 10 29 rfl inX11 (by decide) tw1222 dX11_gives_27 (by rw [e8]; exact h3) rfl ?_
    refine v_iconst dX11_gives_30 (by decide) ?_
    refine v_iload_n dX11_gives_31 rfl ?_
    refine v_imul dX11_gives_32 ?_
    refine v_iload_n dX11_gives_33 rfl ?_
    refine v_iadd dX11_gives_34 ?_
    refine v_dup2 dX11_gives_35 (by intro z hz; cases hz) (by intro z hz; cases hz) ?_
    refine v_if (fun h9 => ?_)
    refine v_iaload h9 dX11_gives_36 ?_
    refine v_iconst dX11_gives_37 (by decide) ?_
    refine v_iadd dX11_gives_38 ?_
    refine v_if (fun h10 => ?_)
    refine v_iastore h10 dX11_gives_39 ?_
    refine v_bM (fun M11 e12 => ?_)
    refine v_aload_n dX11_gives_40 rfl ?_
    refine v_get (v := pA (M11.1 a0 32)) 10 32 rfl inX11 (by decide) tw1225 dX11_gives_41 (by rw [e12, e8]; exact h3) rfl ?_
    refine v_iload_n dX11_gives_44 rfl ?_
    refine v_iload_n dX11_gives_45 rfl ?_
    refine v_iload_n dX11_gives_46 rfl ?_
    refine v_cS (mi := mX11_gives) (c0 := 0) (c1 := 0) (As := [pI a1, pI a2, pI a3]) (st := [pA (M11.1 a0 32)]) (kX11_place d (by omega) _ _ _ _) okX11_place (Or.inl tw1594) tw1595 rfl (Nat.le_of_ble_eq_true rfl) dX11_gives_47 (fun r13 => [pI r13, pA (M11.1 a0 32)]) (fun r13 => M11) (fun _ => rfl) (fun _ => rfl) (fun r13 h14 => ?_) rfl
    refine v_dup2 dX11_gives_50 (by intro z hz; cases hz) (by intro z hz; cases hz) ?_
    refine v_if (fun h15 => ?_)
    refine v_iaload h15 dX11_gives_51 ?_
    refine v_iconst dX11_gives_52 (by decide) ?_
    refine v_iadd dX11_gives_53 ?_
    refine v_if (fun h16 => ?_)
    refine v_iastore h16 dX11_gives_54 ?_
    refine v_bM (fun M17 e18 => ?_)
    refine v_aload_n dX11_gives_55 rfl ?_
    refine v_get (v := pA (M17.1 a0 36)) 10 36 rfl inX11 (by decide) tw1229 dX11_gives_56 (by rw [e18, e12, e8]; exact h3) rfl ?_
    refine v_iload_n dX11_gives_59 rfl ?_
    refine v_dup2 dX11_gives_60 (by intro z hz; cases hz) (by intro z hz; cases hz) ?_
    refine v_if (fun h19 => ?_)
    refine v_iaload h19 dX11_gives_61 ?_
    refine v_aload_n dX11_gives_62 rfl ?_
    refine v_aload_n dX11_gives_63 rfl ?_
    refine v_get (v := pI (M17.1 a0 40)) 10 40 rfl inX11 (by decide) tw1233 dX11_gives_64 (by rw [e18, e12, e8]; exact h3) rfl ?_
    refine v_cV (mi := mX11_gives) (c0 := 0) (c1 := 0) (As := [pI (M17.1 a0 40)]) (st := [pI (M17.1 (M17.1 a0 36) a1), pI a1, pA (M17.1 a0 36)]) (kX11_isDouble d (by omega) _ _ _) rfl (by rw [e18, e12, e8]; exact h3) rfl okX11_isDouble (Or.inl tw1543) tw1545 tp62 rfl (Nat.le_of_ble_eq_true rfl) dX11_gives_67 (fun r20 => [pI r20, pI (M17.1 (M17.1 a0 36) a1), pI a1, pA (M17.1 a0 36)]) (fun r20 => M17) (fun _ => rfl) (fun _ => rfl) (fun r20 h21 => ?_) rfl
    refine v_join (fun (t23 : Int) => [some (pA a0), some (pI a1), some (pI a2), none]) (fun (t23 : Int) => [pI t23, pI (M17.1 (M17.1 a0 36) a1), pI a1, pA (M17.1 a0 36)]) (fun (t23 : Int) => M17) 78 (fun t23 => ?_) (fun j22 hj22 => ?_)
    · refine v_iadd dX11_gives_78 ?_
      refine v_if (fun h24 => ?_)
      refine v_iastore h24 dX11_gives_79 ?_
      refine v_bM (fun M25 e26 => ?_)
      refine v_aload_n dX11_gives_80 rfl ?_
      refine v_get (v := pA (M25.1 a0 34)) 10 34 rfl inX11 (by decide) tw1227 dX11_gives_81 (by rw [e26, e18, e12, e8]; exact h3) rfl ?_
      refine v_iload_n dX11_gives_84 rfl ?_
      refine v_dup2 dX11_gives_85 (by intro z hz; cases hz) (by intro z hz; cases hz) ?_
      refine v_if (fun h27 => ?_)
      refine v_iaload h27 dX11_gives_86 ?_
      refine v_aload_n dX11_gives_87 rfl ?_
      refine v_bipush dX11_gives_88 (by decide) ?_
      refine v_iload_n dX11_gives_90 rfl ?_
      refine v_iadd dX11_gives_91 ?_
      refine v_cV (mi := mX11_gives) (c0 := 0) (c1 := 0) (As := [pI (w32 (62 + a2))]) (st := [pI (M25.1 (M25.1 a0 34) a1), pI a1, pA (M25.1 a0 34)]) (kX11_of d (by omega) _ _ _) rfl (by rw [e26, e18, e12, e8]; exact h3) rfl okX11_of (Or.inl tw1504) tw1506 tp55 rfl (Nat.le_of_ble_eq_true rfl) dX11_gives_92 (fun r28 => [pI r28, pI (M25.1 (M25.1 a0 34) a1), pI a1, pA (M25.1 a0 34)]) (fun r28 => M25) (fun _ => rfl) (fun _ => rfl) (fun r28 h29 => ?_) rfl
      refine v_iadd dX11_gives_95 ?_
      refine v_if (fun h30 => ?_)
      refine v_iastore h30 dX11_gives_96 ?_
      refine v_bM (fun M31 e32 => ?_)
      refine v_iconst dX11_gives_97 (by decide) ?_
      exact v_breturn dX11_gives_98 rfl (by decide) rfl
    · refine v_if_eq (tgt := 77) dX11_gives_70 (by decide) (fun c33 => ?_) (fun c33 => ?_)
      · refine v_iconst dX11_gives_77 (by decide) ?_
        exact v_drop [some (pA a0), some (pI a1), some (pI a2), none] (ls_s (ls_s (ls_s (ls_n ls_e)))) (hj22 1)
      · refine v_iconst dX11_gives_73 (by decide) ?_
        refine v_goto (tgt := 78) dX11_gives_74 (by decide) ?_
        exact v_drop [some (pA a0), some (pI a1), some (pI a2), none] (ls_s (ls_s (ls_s (ls_n ls_e)))) (hj22 2)
theorem chX11_sets_0 : (cX11_sets.data.toList.drop 0).take 16 = [42, 27, 182, 1, 85, 153, 0, 54, 42, 28, 182, 1, 85, 153, 0, 46] := by decide +kernel
theorem chX11_sets_1 : (cX11_sets.data.toList.drop 16).take 16 = [42, 16, 88, 27, 96, 182, 1, 21, 28, 159, 0, 34, 42, 16, 88, 28] := by decide +kernel
theorem chX11_sets_2 : (cX11_sets.data.toList.drop 32).take 16 = [96, 182, 1, 21, 27, 159, 0, 22, 42, 27, 182, 1, 95, 29, 161, 0] := by decide +kernel
theorem chX11_sets_3 : (cX11_sets.data.toList.drop 48).take 16 = [13, 42, 28, 182, 1, 95, 116, 29, 162, 0, 5, 3, 172, 42, 180, 0] := by decide +kernel
theorem chX11_sets_4 : (cX11_sets.data.toList.drop 64).take 16 = [65, 27, 92, 46, 29, 96, 79, 42, 180, 0, 65, 28, 92, 46, 29, 100] := by decide +kernel
theorem chX11_sets_5 : (cX11_sets.data.toList.drop 80).take 16 = [79, 4, 172] := by decide +kernel
theorem dX11_sets_0 : decode cX11_sets 0 = .ok (.aload_n 0, 1) := oq_42 (byt chX11_sets_0 0 rfl)
theorem dX11_sets_1 : decode cX11_sets 1 = .ok (.iload_n 1, 1) := oq_27 (byt chX11_sets_0 1 rfl)
theorem dX11_sets_2 : decode cX11_sets 2 = .ok (.invokevirtual 341, 3) := oq_182 (byt chX11_sets_0 2 rfl) (byt chX11_sets_0 3 rfl) (byt chX11_sets_0 4 rfl) rfl
theorem dX11_sets_5 : decode cX11_sets 5 = .ok (.ifCond .eq 54, 3) := oq_153 (byt chX11_sets_0 5 rfl) (byt chX11_sets_0 6 rfl) (byt chX11_sets_0 7 rfl) (by decide +kernel)
theorem dX11_sets_8 : decode cX11_sets 8 = .ok (.aload_n 0, 1) := oq_42 (byt chX11_sets_0 8 rfl)
theorem dX11_sets_9 : decode cX11_sets 9 = .ok (.iload_n 2, 1) := oq_28 (byt chX11_sets_0 9 rfl)
theorem dX11_sets_10 : decode cX11_sets 10 = .ok (.invokevirtual 341, 3) := oq_182 (byt chX11_sets_0 10 rfl) (byt chX11_sets_0 11 rfl) (byt chX11_sets_0 12 rfl) rfl
theorem dX11_sets_13 : decode cX11_sets 13 = .ok (.ifCond .eq 46, 3) := oq_153 (byt chX11_sets_0 13 rfl) (byt chX11_sets_0 14 rfl) (byt chX11_sets_0 15 rfl) (by decide +kernel)
theorem dX11_sets_16 : decode cX11_sets 16 = .ok (.aload_n 0, 1) := oq_42 (byt chX11_sets_1 0 rfl)
theorem dX11_sets_17 : decode cX11_sets 17 = .ok (.bipush 88, 2) := oq_16 (byt chX11_sets_1 1 rfl) (byt chX11_sets_1 2 rfl) rfl
theorem dX11_sets_19 : decode cX11_sets 19 = .ok (.iload_n 1, 1) := oq_27 (byt chX11_sets_1 3 rfl)
theorem dX11_sets_20 : decode cX11_sets 20 = .ok (.iadd, 1) := oq_96 (byt chX11_sets_1 4 rfl)
theorem dX11_sets_21 : decode cX11_sets 21 = .ok (.invokevirtual 277, 3) := oq_182 (byt chX11_sets_1 5 rfl) (byt chX11_sets_1 6 rfl) (byt chX11_sets_1 7 rfl) rfl
theorem dX11_sets_24 : decode cX11_sets 24 = .ok (.iload_n 2, 1) := oq_28 (byt chX11_sets_1 8 rfl)
theorem dX11_sets_25 : decode cX11_sets 25 = .ok (.if_icmp .eq 34, 3) := oq_159 (byt chX11_sets_1 9 rfl) (byt chX11_sets_1 10 rfl) (byt chX11_sets_1 11 rfl) (by decide +kernel)
theorem dX11_sets_28 : decode cX11_sets 28 = .ok (.aload_n 0, 1) := oq_42 (byt chX11_sets_1 12 rfl)
theorem dX11_sets_29 : decode cX11_sets 29 = .ok (.bipush 88, 2) := oq_16 (byt chX11_sets_1 13 rfl) (byt chX11_sets_1 14 rfl) rfl
theorem dX11_sets_31 : decode cX11_sets 31 = .ok (.iload_n 2, 1) := oq_28 (byt chX11_sets_1 15 rfl)
theorem dX11_sets_32 : decode cX11_sets 32 = .ok (.iadd, 1) := oq_96 (byt chX11_sets_2 0 rfl)
theorem dX11_sets_33 : decode cX11_sets 33 = .ok (.invokevirtual 277, 3) := oq_182 (byt chX11_sets_2 1 rfl) (byt chX11_sets_2 2 rfl) (byt chX11_sets_2 3 rfl) rfl
theorem dX11_sets_36 : decode cX11_sets 36 = .ok (.iload_n 1, 1) := oq_27 (byt chX11_sets_2 4 rfl)
theorem dX11_sets_37 : decode cX11_sets 37 = .ok (.if_icmp .eq 22, 3) := oq_159 (byt chX11_sets_2 5 rfl) (byt chX11_sets_2 6 rfl) (byt chX11_sets_2 7 rfl) (by decide +kernel)
theorem dX11_sets_40 : decode cX11_sets 40 = .ok (.aload_n 0, 1) := oq_42 (byt chX11_sets_2 8 rfl)
theorem dX11_sets_41 : decode cX11_sets 41 = .ok (.iload_n 1, 1) := oq_27 (byt chX11_sets_2 9 rfl)
theorem dX11_sets_42 : decode cX11_sets 42 = .ok (.invokevirtual 351, 3) := oq_182 (byt chX11_sets_2 10 rfl) (byt chX11_sets_2 11 rfl) (byt chX11_sets_2 12 rfl) rfl
theorem dX11_sets_45 : decode cX11_sets 45 = .ok (.iload_n 3, 1) := oq_29 (byt chX11_sets_2 13 rfl)
theorem dX11_sets_46 : decode cX11_sets 46 = .ok (.if_icmp .lt 13, 3) := oq_161 (byt chX11_sets_2 14 rfl) (byt chX11_sets_2 15 rfl) (byt chX11_sets_3 0 rfl) (by decide +kernel)
theorem dX11_sets_49 : decode cX11_sets 49 = .ok (.aload_n 0, 1) := oq_42 (byt chX11_sets_3 1 rfl)
theorem dX11_sets_50 : decode cX11_sets 50 = .ok (.iload_n 2, 1) := oq_28 (byt chX11_sets_3 2 rfl)
theorem dX11_sets_51 : decode cX11_sets 51 = .ok (.invokevirtual 351, 3) := oq_182 (byt chX11_sets_3 3 rfl) (byt chX11_sets_3 4 rfl) (byt chX11_sets_3 5 rfl) rfl
theorem dX11_sets_54 : decode cX11_sets 54 = .ok (.ineg, 1) := oq_116 (byt chX11_sets_3 6 rfl)
theorem dX11_sets_55 : decode cX11_sets 55 = .ok (.iload_n 3, 1) := oq_29 (byt chX11_sets_3 7 rfl)
theorem dX11_sets_56 : decode cX11_sets 56 = .ok (.if_icmp .ge 5, 3) := oq_162 (byt chX11_sets_3 8 rfl) (byt chX11_sets_3 9 rfl) (byt chX11_sets_3 10 rfl) (by decide +kernel)
theorem dX11_sets_59 : decode cX11_sets 59 = .ok (.iconst 0, 1) := oq_3 (byt chX11_sets_3 11 rfl)
theorem dX11_sets_60 : decode cX11_sets 60 = .ok (.ireturn, 1) := oq_172 (byt chX11_sets_3 12 rfl)
theorem dX11_sets_61 : decode cX11_sets 61 = .ok (.aload_n 0, 1) := oq_42 (byt chX11_sets_3 13 rfl)
theorem dX11_sets_62 : decode cX11_sets 62 = .ok (.getfield 65, 3) := oq_180 (byt chX11_sets_3 14 rfl) (byt chX11_sets_3 15 rfl) (byt chX11_sets_4 0 rfl) rfl
theorem dX11_sets_65 : decode cX11_sets 65 = .ok (.iload_n 1, 1) := oq_27 (byt chX11_sets_4 1 rfl)
theorem dX11_sets_66 : decode cX11_sets 66 = .ok (.dup2, 1) := oq_92 (byt chX11_sets_4 2 rfl)
theorem dX11_sets_67 : decode cX11_sets 67 = .ok (.iaload, 1) := oq_46 (byt chX11_sets_4 3 rfl)
theorem dX11_sets_68 : decode cX11_sets 68 = .ok (.iload_n 3, 1) := oq_29 (byt chX11_sets_4 4 rfl)
theorem dX11_sets_69 : decode cX11_sets 69 = .ok (.iadd, 1) := oq_96 (byt chX11_sets_4 5 rfl)
theorem dX11_sets_70 : decode cX11_sets 70 = .ok (.iastore, 1) := oq_79 (byt chX11_sets_4 6 rfl)
theorem dX11_sets_71 : decode cX11_sets 71 = .ok (.aload_n 0, 1) := oq_42 (byt chX11_sets_4 7 rfl)
theorem dX11_sets_72 : decode cX11_sets 72 = .ok (.getfield 65, 3) := oq_180 (byt chX11_sets_4 8 rfl) (byt chX11_sets_4 9 rfl) (byt chX11_sets_4 10 rfl) rfl
theorem dX11_sets_75 : decode cX11_sets 75 = .ok (.iload_n 2, 1) := oq_28 (byt chX11_sets_4 11 rfl)
theorem dX11_sets_76 : decode cX11_sets 76 = .ok (.dup2, 1) := oq_92 (byt chX11_sets_4 12 rfl)
theorem dX11_sets_77 : decode cX11_sets 77 = .ok (.iaload, 1) := oq_46 (byt chX11_sets_4 13 rfl)
theorem dX11_sets_78 : decode cX11_sets 78 = .ok (.iload_n 3, 1) := oq_29 (byt chX11_sets_4 14 rfl)
theorem dX11_sets_79 : decode cX11_sets 79 = .ok (.isub, 1) := oq_100 (byt chX11_sets_4 15 rfl)
theorem dX11_sets_80 : decode cX11_sets 80 = .ok (.iastore, 1) := oq_79 (byt chX11_sets_5 0 rfl)
theorem dX11_sets_81 : decode cX11_sets 81 = .ok (.iconst 1, 1) := oq_4 (byt chX11_sets_5 1 rfl)
theorem dX11_sets_82 : decode cX11_sets 82 = .ok (.ireturn, 1) := oq_172 (byt chX11_sets_5 2 rfl)
abbrev mX11_sets : MI := (yX11_sets, cX11_sets, 4, (some .boolean), noE)
theorem okX11_sets : cok mX11_sets 3 := ⟨tw1608, tw11, by decide, by decide, by decide, by decide +kernel⟩
def fX11_sets (M : Mem) (a0 a1 a2 a3 : Int) : Option (Int × Mem) :=
  if M.2.1 a0 = 10 then (fX11_isFree M a0 a1).bind fun r1 => if r1 = 0 then (some (0, M)) else ((fX11_isFree M a0 a2).bind fun r5 => if r5 = 0 then (some (0, M)) else ((fX11_of M a0 (w32 (88 + a1))).bind fun r8 => if r8 = a2 then (some (0, M)) else ((fX11_of M a0 (w32 (88 + a2))).bind fun r11 => if r11 = a1 then (some (0, M)) else ((fX11_owes M a0 a1).bind fun r14 => if r14 < a3 then (some (0, M)) else ((fX11_owes M a0 a2).bind fun r17 => if w32 (-r17) < a3 then (some (0, M)) else (if M.2.1 (M.1 a0 36) = 12 ∧ (0 : Int) ≤ a1 ∧ a1 < M.2.2.1 (M.1 a0 36) then if M.2.1 (M.1 a0 36) = 12 ∧ (0 : Int) ≤ a1 ∧ a1 < M.2.2.1 (M.1 a0 36) then bM (mst M (M.1 a0 36) a1 (w32 ((M.1 (M.1 a0 36) a1) + a3))) fun M22 => if M22.2.1 (M22.1 a0 36) = 12 ∧ (0 : Int) ≤ a2 ∧ a2 < M22.2.2.1 (M22.1 a0 36) then if M22.2.1 (M22.1 a0 36) = 12 ∧ (0 : Int) ≤ a2 ∧ a2 < M22.2.2.1 (M22.1 a0 36) then bM (mst M22 (M22.1 a0 36) a2 (w32 ((M22.1 (M22.1 a0 36) a2) - a3))) fun M26 => some (1, M26) else none else none else none else none)))))) else none
set_option maxRecDepth 100000 in
set_option maxHeartbeats 4000000 in
theorem kX11_sets (d : Nat) (hd : 3 ≤ d) (M : Mem) (a0 a1 a2 a3 : Int) : Ct mX11_sets d 0 0 [pA a0, pI a1, pI a2, pI a3] M dIM (fX11_sets M a0 a1 a2 a3) := by
  obtain ⟨d, rfl⟩ : ∃ k, d = k + 1 := ⟨d - 1, by omega⟩
  refine Ct.of 0 (fun _ _ _ => trivial) (by decide +kernel) rfl ?_
  unfold fX11_sets
  refine v_aload_n dX11_sets_0 rfl ?_
  refine v_iload_n dX11_sets_1 rfl ?_
  refine v_if (fun h3 => ?_)
  refine v_cV (mi := mX11_sets) (c0 := 0) (c1 := 0) (As := [pI a1]) (st := []) (kX11_isFree d (by omega) _ _ _) rfl h3 rfl okX11_isFree (Or.inl tw1590) tw1592 tp71 rfl (Nat.le_of_ble_eq_true rfl) dX11_sets_2 (fun r1 => [pI r1]) (fun r1 => M) (fun _ => rfl) (fun _ => rfl) (fun r1 h2 => ?_) rfl
  refine v_if_eq (tgt := 59) dX11_sets_5 (by decide) (fun c4 => ?_) (fun c4 => ?_)
  · refine v_iconst dX11_sets_59 (by decide) ?_
    exact v_breturn dX11_sets_60 rfl (by decide) rfl
  · refine v_aload_n dX11_sets_8 rfl ?_
    refine v_iload_n dX11_sets_9 rfl ?_
    refine v_cV (mi := mX11_sets) (c0 := 0) (c1 := 0) (As := [pI a2]) (st := []) (kX11_isFree d (by omega) _ _ _) rfl h3 rfl okX11_isFree (Or.inl tw1590) tw1592 tp71 rfl (Nat.le_of_ble_eq_true rfl) dX11_sets_10 (fun r5 => [pI r5]) (fun r5 => M) (fun _ => rfl) (fun _ => rfl) (fun r5 h6 => ?_) rfl
    refine v_if_eq (tgt := 59) dX11_sets_13 (by decide) (fun c7 => ?_) (fun c7 => ?_)
    · refine v_iconst dX11_sets_59 (by decide) ?_
      exact v_breturn dX11_sets_60 rfl (by decide) rfl
    · refine v_aload_n dX11_sets_16 rfl ?_
      refine v_bipush dX11_sets_17 (by decide) ?_
      refine v_iload_n dX11_sets_19 rfl ?_
      refine v_iadd dX11_sets_20 ?_
      refine v_cV (mi := mX11_sets) (c0 := 0) (c1 := 0) (As := [pI (w32 (88 + a1))]) (st := []) (kX11_of d (by omega) _ _ _) rfl h3 rfl okX11_of (Or.inl tw1504) tw1506 tp55 rfl (Nat.le_of_ble_eq_true rfl) dX11_sets_21 (fun r8 => [pI r8]) (fun r8 => M) (fun _ => rfl) (fun _ => rfl) (fun r8 h9 => ?_) rfl
      refine v_iload_n dX11_sets_24 rfl ?_
      refine v_icmp_eq (tgt := 59) dX11_sets_25 (by decide) (fun c10 => ?_) (fun c10 => ?_)
      · refine v_iconst dX11_sets_59 (by decide) ?_
        exact v_breturn dX11_sets_60 rfl (by decide) rfl
      · refine v_aload_n dX11_sets_28 rfl ?_
        refine v_bipush dX11_sets_29 (by decide) ?_
        refine v_iload_n dX11_sets_31 rfl ?_
        refine v_iadd dX11_sets_32 ?_
        refine v_cV (mi := mX11_sets) (c0 := 0) (c1 := 0) (As := [pI (w32 (88 + a2))]) (st := []) (kX11_of d (by omega) _ _ _) rfl h3 rfl okX11_of (Or.inl tw1504) tw1506 tp55 rfl (Nat.le_of_ble_eq_true rfl) dX11_sets_33 (fun r11 => [pI r11]) (fun r11 => M) (fun _ => rfl) (fun _ => rfl) (fun r11 h12 => ?_) rfl
        refine v_iload_n dX11_sets_36 rfl ?_
        refine v_icmp_eq (tgt := 59) dX11_sets_37 (by decide) (fun c13 => ?_) (fun c13 => ?_)
        · refine v_iconst dX11_sets_59 (by decide) ?_
          exact v_breturn dX11_sets_60 rfl (by decide) rfl
        · refine v_aload_n dX11_sets_40 rfl ?_
          refine v_iload_n dX11_sets_41 rfl ?_
          refine v_cV (mi := mX11_sets) (c0 := 0) (c1 := 0) (As := [pI a1]) (st := []) (kX11_owes d (by omega) _ _ _) rfl h3 rfl okX11_owes (Or.inl tw1609) tw1611 tp75 rfl (Nat.le_of_ble_eq_true rfl) dX11_sets_42 (fun r14 => [pI r14]) (fun r14 => M) (fun _ => rfl) (fun _ => rfl) (fun r14 h15 => ?_) rfl
          refine v_iload_n dX11_sets_45 rfl ?_
          refine v_icmp_lt (tgt := 59) dX11_sets_46 (by decide) (fun c16 => ?_) (fun c16 => ?_)
          · refine v_iconst dX11_sets_59 (by decide) ?_
            exact v_breturn dX11_sets_60 rfl (by decide) rfl
          · refine v_aload_n dX11_sets_49 rfl ?_
            refine v_iload_n dX11_sets_50 rfl ?_
            refine v_cV (mi := mX11_sets) (c0 := 0) (c1 := 0) (As := [pI a2]) (st := []) (kX11_owes d (by omega) _ _ _) rfl h3 rfl okX11_owes (Or.inl tw1609) tw1611 tp75 rfl (Nat.le_of_ble_eq_true rfl) dX11_sets_51 (fun r17 => [pI r17]) (fun r17 => M) (fun _ => rfl) (fun _ => rfl) (fun r17 h18 => ?_) rfl
            refine v_ineg dX11_sets_54 ?_
            refine v_iload_n dX11_sets_55 rfl ?_
            refine v_icmp_ge (tgt := 61) dX11_sets_56 (by decide) (fun c19 => ?_) (fun c19 => ?_)
            · refine v_iconst dX11_sets_59 (by decide) ?_
              exact v_breturn dX11_sets_60 rfl (by decide) rfl
            · refine v_aload_n dX11_sets_61 rfl ?_
              refine v_get (v := pA (M.1 a0 36)) 10 36 rfl inX11 (by decide) tw1229 dX11_sets_62 h3 rfl ?_
              refine v_iload_n dX11_sets_65 rfl ?_
              refine v_dup2 dX11_sets_66 (by intro z hz; cases hz) (by intro z hz; cases hz) ?_
              refine v_if (fun h20 => ?_)
              refine v_iaload h20 dX11_sets_67 ?_
              refine v_iload_n dX11_sets_68 rfl ?_
              refine v_iadd dX11_sets_69 ?_
              refine v_if (fun h21 => ?_)
              refine v_iastore h21 dX11_sets_70 ?_
              refine v_bM (fun M22 e23 => ?_)
              refine v_aload_n dX11_sets_71 rfl ?_
              refine v_get (v := pA (M22.1 a0 36)) 10 36 rfl inX11 (by decide) tw1229 dX11_sets_72 (by rw [e23]; exact h3) rfl ?_
              refine v_iload_n dX11_sets_75 rfl ?_
              refine v_dup2 dX11_sets_76 (by intro z hz; cases hz) (by intro z hz; cases hz) ?_
              refine v_if (fun h24 => ?_)
              refine v_iaload h24 dX11_sets_77 ?_
              refine v_iload_n dX11_sets_78 rfl ?_
              refine v_isub dX11_sets_79 ?_
              refine v_if (fun h25 => ?_)
              refine v_iastore h25 dX11_sets_80 ?_
              refine v_bM (fun M26 e27 => ?_)
              refine v_iconst dX11_sets_81 (by decide) ?_
              exact v_breturn dX11_sets_82 rfl (by decide) rfl
theorem chX11_ends_0 : (cX11_ends.data.toList.drop 0).take 16 = [3, 60, 27, 42, 180, 1, 28, 162, 0, 68, 42, 180, 0, 68, 27, 92] := by decide +kernel
theorem chX11_ends_1 : (cX11_ends.data.toList.drop 16).take 16 = [46, 42, 180, 0, 59, 27, 46, 96, 79, 42, 180, 0, 59, 27, 3, 79] := by decide +kernel
theorem chX11_ends_2 : (cX11_ends.data.toList.drop 32).take 16 = [42, 180, 0, 56, 27, 3, 79, 42, 89, 180, 1, 79, 42, 180, 0, 68] := by decide +kernel
theorem chX11_ends_3 : (cX11_ends.data.toList.drop 48).take 16 = [27, 46, 42, 4, 182, 1, 52, 161, 0, 9, 4, 27, 120, 167, 0, 4] := by decide +kernel
theorem chX11_ends_4 : (cX11_ends.data.toList.drop 64).take 16 = [3, 128, 181, 1, 79, 132, 1, 1, 167, 255, 186, 42, 89, 180, 1, 76] := by decide +kernel
theorem chX11_ends_5 : (cX11_ends.data.toList.drop 80).take 16 = [4, 96, 181, 1, 76, 177] := by decide +kernel
theorem dX11_ends_0 : decode cX11_ends 0 = .ok (.iconst 0, 1) := oq_3 (byt chX11_ends_0 0 rfl)
theorem dX11_ends_1 : decode cX11_ends 1 = .ok (.istore_n 1, 1) := oq_60 (byt chX11_ends_0 1 rfl)
theorem dX11_ends_2 : decode cX11_ends 2 = .ok (.iload_n 1, 1) := oq_27 (byt chX11_ends_0 2 rfl)
theorem dX11_ends_3 : decode cX11_ends 3 = .ok (.aload_n 0, 1) := oq_42 (byt chX11_ends_0 3 rfl)
theorem dX11_ends_4 : decode cX11_ends 4 = .ok (.getfield 284, 3) := oq_180 (byt chX11_ends_0 4 rfl) (byt chX11_ends_0 5 rfl) (byt chX11_ends_0 6 rfl) rfl
theorem dX11_ends_7 : decode cX11_ends 7 = .ok (.if_icmp .ge 68, 3) := oq_162 (byt chX11_ends_0 7 rfl) (byt chX11_ends_0 8 rfl) (byt chX11_ends_0 9 rfl) (by decide +kernel)
theorem dX11_ends_10 : decode cX11_ends 10 = .ok (.aload_n 0, 1) := oq_42 (byt chX11_ends_0 10 rfl)
theorem dX11_ends_11 : decode cX11_ends 11 = .ok (.getfield 68, 3) := oq_180 (byt chX11_ends_0 11 rfl) (byt chX11_ends_0 12 rfl) (byt chX11_ends_0 13 rfl) rfl
theorem dX11_ends_14 : decode cX11_ends 14 = .ok (.iload_n 1, 1) := oq_27 (byt chX11_ends_0 14 rfl)
theorem dX11_ends_15 : decode cX11_ends 15 = .ok (.dup2, 1) := oq_92 (byt chX11_ends_0 15 rfl)
theorem dX11_ends_16 : decode cX11_ends 16 = .ok (.iaload, 1) := oq_46 (byt chX11_ends_1 0 rfl)
theorem dX11_ends_17 : decode cX11_ends 17 = .ok (.aload_n 0, 1) := oq_42 (byt chX11_ends_1 1 rfl)
theorem dX11_ends_18 : decode cX11_ends 18 = .ok (.getfield 59, 3) := oq_180 (byt chX11_ends_1 2 rfl) (byt chX11_ends_1 3 rfl) (byt chX11_ends_1 4 rfl) rfl
theorem dX11_ends_21 : decode cX11_ends 21 = .ok (.iload_n 1, 1) := oq_27 (byt chX11_ends_1 5 rfl)
theorem dX11_ends_22 : decode cX11_ends 22 = .ok (.iaload, 1) := oq_46 (byt chX11_ends_1 6 rfl)
theorem dX11_ends_23 : decode cX11_ends 23 = .ok (.iadd, 1) := oq_96 (byt chX11_ends_1 7 rfl)
theorem dX11_ends_24 : decode cX11_ends 24 = .ok (.iastore, 1) := oq_79 (byt chX11_ends_1 8 rfl)
theorem dX11_ends_25 : decode cX11_ends 25 = .ok (.aload_n 0, 1) := oq_42 (byt chX11_ends_1 9 rfl)
theorem dX11_ends_26 : decode cX11_ends 26 = .ok (.getfield 59, 3) := oq_180 (byt chX11_ends_1 10 rfl) (byt chX11_ends_1 11 rfl) (byt chX11_ends_1 12 rfl) rfl
theorem dX11_ends_29 : decode cX11_ends 29 = .ok (.iload_n 1, 1) := oq_27 (byt chX11_ends_1 13 rfl)
theorem dX11_ends_30 : decode cX11_ends 30 = .ok (.iconst 0, 1) := oq_3 (byt chX11_ends_1 14 rfl)
theorem dX11_ends_31 : decode cX11_ends 31 = .ok (.iastore, 1) := oq_79 (byt chX11_ends_1 15 rfl)
theorem dX11_ends_32 : decode cX11_ends 32 = .ok (.aload_n 0, 1) := oq_42 (byt chX11_ends_2 0 rfl)
theorem dX11_ends_33 : decode cX11_ends 33 = .ok (.getfield 56, 3) := oq_180 (byt chX11_ends_2 1 rfl) (byt chX11_ends_2 2 rfl) (byt chX11_ends_2 3 rfl) rfl
theorem dX11_ends_36 : decode cX11_ends 36 = .ok (.iload_n 1, 1) := oq_27 (byt chX11_ends_2 4 rfl)
theorem dX11_ends_37 : decode cX11_ends 37 = .ok (.iconst 0, 1) := oq_3 (byt chX11_ends_2 5 rfl)
theorem dX11_ends_38 : decode cX11_ends 38 = .ok (.iastore, 1) := oq_79 (byt chX11_ends_2 6 rfl)
theorem dX11_ends_39 : decode cX11_ends 39 = .ok (.aload_n 0, 1) := oq_42 (byt chX11_ends_2 7 rfl)
theorem dX11_ends_40 : decode cX11_ends 40 = .ok (.dup, 1) := oq_89 (byt chX11_ends_2 8 rfl)
theorem dX11_ends_41 : decode cX11_ends 41 = .ok (.getfield 335, 3) := oq_180 (byt chX11_ends_2 9 rfl) (byt chX11_ends_2 10 rfl) (byt chX11_ends_2 11 rfl) rfl
theorem dX11_ends_44 : decode cX11_ends 44 = .ok (.aload_n 0, 1) := oq_42 (byt chX11_ends_2 12 rfl)
theorem dX11_ends_45 : decode cX11_ends 45 = .ok (.getfield 68, 3) := oq_180 (byt chX11_ends_2 13 rfl) (byt chX11_ends_2 14 rfl) (byt chX11_ends_2 15 rfl) rfl
theorem dX11_ends_48 : decode cX11_ends 48 = .ok (.iload_n 1, 1) := oq_27 (byt chX11_ends_3 0 rfl)
theorem dX11_ends_49 : decode cX11_ends 49 = .ok (.iaload, 1) := oq_46 (byt chX11_ends_3 1 rfl)
theorem dX11_ends_50 : decode cX11_ends 50 = .ok (.aload_n 0, 1) := oq_42 (byt chX11_ends_3 2 rfl)
theorem dX11_ends_51 : decode cX11_ends 51 = .ok (.iconst 1, 1) := oq_4 (byt chX11_ends_3 3 rfl)
theorem dX11_ends_52 : decode cX11_ends 52 = .ok (.invokevirtual 308, 3) := oq_182 (byt chX11_ends_3 4 rfl) (byt chX11_ends_3 5 rfl) (byt chX11_ends_3 6 rfl) rfl
theorem dX11_ends_55 : decode cX11_ends 55 = .ok (.if_icmp .lt 9, 3) := oq_161 (byt chX11_ends_3 7 rfl) (byt chX11_ends_3 8 rfl) (byt chX11_ends_3 9 rfl) (by decide +kernel)
theorem dX11_ends_58 : decode cX11_ends 58 = .ok (.iconst 1, 1) := oq_4 (byt chX11_ends_3 10 rfl)
theorem dX11_ends_59 : decode cX11_ends 59 = .ok (.iload_n 1, 1) := oq_27 (byt chX11_ends_3 11 rfl)
theorem dX11_ends_60 : decode cX11_ends 60 = .ok (.ishl, 1) := oq_120 (byt chX11_ends_3 12 rfl)
theorem dX11_ends_61 : decode cX11_ends 61 = .ok (.goto 4, 3) := oq_167 (byt chX11_ends_3 13 rfl) (byt chX11_ends_3 14 rfl) (byt chX11_ends_3 15 rfl) (by decide +kernel)
theorem dX11_ends_64 : decode cX11_ends 64 = .ok (.iconst 0, 1) := oq_3 (byt chX11_ends_4 0 rfl)
theorem dX11_ends_65 : decode cX11_ends 65 = .ok (.ior, 1) := oq_128 (byt chX11_ends_4 1 rfl)
theorem dX11_ends_66 : decode cX11_ends 66 = .ok (.putfield 335, 3) := oq_181 (byt chX11_ends_4 2 rfl) (byt chX11_ends_4 3 rfl) (byt chX11_ends_4 4 rfl) rfl
theorem dX11_ends_69 : decode cX11_ends 69 = .ok (.iinc 1 1, 3) := oq_132 (byt chX11_ends_4 5 rfl) (byt chX11_ends_4 6 rfl) (byt chX11_ends_4 7 rfl) rfl
theorem dX11_ends_72 : decode cX11_ends 72 = .ok (.goto (-70), 3) := oq_167 (byt chX11_ends_4 8 rfl) (byt chX11_ends_4 9 rfl) (byt chX11_ends_4 10 rfl) (by decide +kernel)
theorem dX11_ends_75 : decode cX11_ends 75 = .ok (.aload_n 0, 1) := oq_42 (byt chX11_ends_4 11 rfl)
theorem dX11_ends_76 : decode cX11_ends 76 = .ok (.dup, 1) := oq_89 (byt chX11_ends_4 12 rfl)
theorem dX11_ends_77 : decode cX11_ends 77 = .ok (.getfield 332, 3) := oq_180 (byt chX11_ends_4 13 rfl) (byt chX11_ends_4 14 rfl) (byt chX11_ends_4 15 rfl) rfl
theorem dX11_ends_80 : decode cX11_ends 80 = .ok (.iconst 1, 1) := oq_4 (byt chX11_ends_5 0 rfl)
theorem dX11_ends_81 : decode cX11_ends 81 = .ok (.iadd, 1) := oq_96 (byt chX11_ends_5 1 rfl)
theorem dX11_ends_82 : decode cX11_ends 82 = .ok (.putfield 332, 3) := oq_181 (byt chX11_ends_5 2 rfl) (byt chX11_ends_5 3 rfl) (byt chX11_ends_5 4 rfl) rfl
theorem dX11_ends_85 : decode cX11_ends 85 = .ok (.return_, 1) := oq_177 (byt chX11_ends_5 5 rfl)
abbrev mX11_ends : MI := (yX11_ends, cX11_ends, 2, none, noE)
theorem okX11_ends : cok mX11_ends 0 := ⟨tw1616, tw11, by decide, by decide, by decide, by decide +kernel⟩
def fX11_ends (M : Mem) (a0 : Int) : Option Mem :=
  iterC (fun (rec1 : (Int × Mem) → Option Mem) (s2 : Int × Mem) => if s2.2.2.1 a0 = 10 then if s2.1 < s2.2.1 a0 26 then (if s2.2.2.1 (s2.2.1 a0 37) = 12 ∧ (0 : Int) ≤ s2.1 ∧ s2.1 < s2.2.2.2.1 (s2.2.1 a0 37) then if s2.2.2.1 (s2.2.1 a0 34) = 12 ∧ (0 : Int) ≤ s2.1 ∧ s2.1 < s2.2.2.2.1 (s2.2.1 a0 34) then if s2.2.2.1 (s2.2.1 a0 37) = 12 ∧ (0 : Int) ≤ s2.1 ∧ s2.1 < s2.2.2.2.1 (s2.2.1 a0 37) then bM (mst s2.2 (s2.2.1 a0 37) s2.1 (w32 ((s2.2.1 (s2.2.1 a0 37) s2.1) + (s2.2.1 (s2.2.1 a0 34) s2.1)))) fun M8 => if M8.2.1 (M8.1 a0 34) = 12 ∧ (0 : Int) ≤ s2.1 ∧ s2.1 < M8.2.2.1 (M8.1 a0 34) then bM (mst M8 (M8.1 a0 34) s2.1 0) fun M11 => if M11.2.1 (M11.1 a0 33) = 12 ∧ (0 : Int) ≤ s2.1 ∧ s2.1 < M11.2.2.1 (M11.1 a0 33) then bM (mst M11 (M11.1 a0 33) s2.1 0) fun M14 => if M14.2.1 (M14.1 a0 37) = 12 ∧ (0 : Int) ≤ s2.1 ∧ s2.1 < M14.2.2.1 (M14.1 a0 37) then (fX11_lawOf M14 a0 1).bind fun r17 => jn (fun (t20 : Int) => bM (mst M14 a0 41 (bOr (M14.1 a0 41) t20)) fun M21 => rec1 (w32 (s2.1 + 1), M21)) (fun (j19 : Int → Option Mem) => if M14.1 (M14.1 a0 37) s2.1 < r17 then (j19 0) else (j19 (bShl 1 s2.1))) else none else none else none else none else none else none) else (bM (mst s2.2 a0 40 (w32 ((s2.2.1 a0 40) + 1))) fun M24 => some M24) else none) BIG (0, M)
set_option maxRecDepth 100000 in
set_option maxHeartbeats 4000000 in
theorem kX11_ends (d : Nat) (hd : 1 ≤ d) (M : Mem) (a0 : Int) : Ct mX11_ends d 0 0 [pA a0] M dV (fX11_ends M a0) := by
  obtain ⟨d, rfl⟩ : ∃ k, d = k + 1 := ⟨d - 1, by omega⟩
  refine Ct.of 1 (fun _ _ _ => trivial) (by decide +kernel) rfl ?_
  unfold fX11_ends
  refine v_iconst dX11_ends_0 (by decide) ?_
  refine v_istore_n (ls' := [some (pA a0), some (pI 0)]) dX11_ends_1 (by decide) rfl ?_
  refine v_loop (fun (s2 : Int × Mem) => [some (pA a0), some (pI s2.1)]) (fun (s2 : Int × Mem) => s2.2) (s0 := (0, M)) ?_
  intro rec1 hrec1 s2
  refine v_iload_n dX11_ends_2 rfl ?_
  refine v_aload_n dX11_ends_3 rfl ?_
  refine v_if (fun h3 => ?_)
  refine v_get (v := pI (s2.2.1 a0 26)) 10 26 rfl inX11 (by decide) tw1219 dX11_ends_4 h3 rfl ?_
  refine v_icmp_ge (tgt := 75) dX11_ends_7 (by decide) (fun c4 => ?_) (fun c4 => ?_)
  · refine v_aload_n dX11_ends_10 rfl ?_
    refine v_get (v := pA (s2.2.1 a0 37)) 10 37 rfl inX11 (by decide) tw1230 dX11_ends_11 h3 rfl ?_
    refine v_iload_n dX11_ends_14 rfl ?_
    refine v_dup2 dX11_ends_15 (by intro z hz; cases hz) (by intro z hz; cases hz) ?_
    refine v_if (fun h5 => ?_)
    refine v_iaload h5 dX11_ends_16 ?_
    refine v_aload_n dX11_ends_17 rfl ?_
    refine v_get (v := pA (s2.2.1 a0 34)) 10 34 rfl inX11 (by decide) tw1227 dX11_ends_18 h3 rfl ?_
    refine v_iload_n dX11_ends_21 rfl ?_
    refine v_if (fun h6 => ?_)
    refine v_iaload h6 dX11_ends_22 ?_
    refine v_iadd dX11_ends_23 ?_
    refine v_if (fun h7 => ?_)
    refine v_iastore h7 dX11_ends_24 ?_
    refine v_bM (fun M8 e9 => ?_)
    refine v_aload_n dX11_ends_25 rfl ?_
    refine v_get (v := pA (M8.1 a0 34)) 10 34 rfl inX11 (by decide) tw1227 dX11_ends_26 (by rw [e9]; exact h3) rfl ?_
    refine v_iload_n dX11_ends_29 rfl ?_
    refine v_iconst dX11_ends_30 (by decide) ?_
    refine v_if (fun h10 => ?_)
    refine v_iastore h10 dX11_ends_31 ?_
    refine v_bM (fun M11 e12 => ?_)
    refine v_aload_n dX11_ends_32 rfl ?_
    refine v_get (v := pA (M11.1 a0 33)) 10 33 rfl inX11 (by decide) tw1226 dX11_ends_33 (by rw [e12, e9]; exact h3) rfl ?_
    refine v_iload_n dX11_ends_36 rfl ?_
    refine v_iconst dX11_ends_37 (by decide) ?_
    refine v_if (fun h13 => ?_)
    refine v_iastore h13 dX11_ends_38 ?_
    refine v_bM (fun M14 e15 => ?_)
    refine v_aload_n dX11_ends_39 rfl ?_
    refine v_dup dX11_ends_40 (by intro z hz; cases hz) ?_
    refine v_get (v := pI (M14.1 a0 41)) 10 41 rfl inX11 (by decide) tw1234 dX11_ends_41 (by rw [e15, e12, e9]; exact h3) rfl ?_
    refine v_aload_n dX11_ends_44 rfl ?_
    refine v_get (v := pA (M14.1 a0 37)) 10 37 rfl inX11 (by decide) tw1230 dX11_ends_45 (by rw [e15, e12, e9]; exact h3) rfl ?_
    refine v_iload_n dX11_ends_48 rfl ?_
    refine v_if (fun h16 => ?_)
    refine v_iaload h16 dX11_ends_49 ?_
    refine v_aload_n dX11_ends_50 rfl ?_
    refine v_iconst dX11_ends_51 (by decide) ?_
    refine v_cV (mi := mX11_ends) (c0 := 0) (c1 := 0) (As := [pI 1]) (st := [pI (M14.1 (M14.1 a0 37) s2.1), pI (M14.1 a0 41), pA a0]) (kX11_lawOf d (by omega) _ _ _) rfl (by rw [e15, e12, e9]; exact h3) rfl okX11_lawOf (Or.inl tw1539) tw1541 tp61 rfl (Nat.le_of_ble_eq_true rfl) dX11_ends_52 (fun r17 => [pI r17, pI (M14.1 (M14.1 a0 37) s2.1), pI (M14.1 a0 41), pA a0]) (fun r17 => M14) (fun _ => rfl) (fun _ => rfl) (fun r17 h18 => ?_) rfl
    refine v_join (fun (t20 : Int) => [some (pA a0), some (pI s2.1)]) (fun (t20 : Int) => [pI t20, pI (M14.1 a0 41), pA a0]) (fun (t20 : Int) => M14) 65 (fun t20 => ?_) (fun j19 hj19 => ?_)
    · refine v_ior dX11_ends_65 ?_
      refine v_put (x := bOr (M14.1 a0 41) t20) 10 41 rfl inX11 (by decide) tw1234 (Or.inl rfl) rfl dX11_ends_66 (by rw [e15, e12, e9]; exact h3) rfl id ?_
      refine v_bM (fun M21 e22 => ?_)
      refine v_iinc (ls' := [some (pA a0), some (pI (w32 (s2.1 + 1)))]) dX11_ends_69 (by decide) rfl rfl ?_
      refine v_goto (tgt := 2) dX11_ends_72 (by decide) ?_
      exact hrec1 (w32 (s2.1 + 1), M21)
    · refine v_icmp_lt (tgt := 64) dX11_ends_55 (by decide) (fun c23 => ?_) (fun c23 => ?_)
      · refine v_iconst dX11_ends_64 (by decide) ?_
        exact hj19 0
      · refine v_iconst dX11_ends_58 (by decide) ?_
        refine v_iload_n dX11_ends_59 rfl ?_
        refine v_ishl dX11_ends_60 ?_
        refine v_goto (tgt := 65) dX11_ends_61 (by decide) ?_
        exact hj19 (bShl 1 s2.1)
  · refine v_aload_n dX11_ends_75 rfl ?_
    refine v_dup dX11_ends_76 (by intro z hz; cases hz) ?_
    refine v_get (v := pI (s2.2.1 a0 40)) 10 40 rfl inX11 (by decide) tw1233 dX11_ends_77 h3 rfl ?_
    refine v_iconst dX11_ends_80 (by decide) ?_
    refine v_iadd dX11_ends_81 ?_
    refine v_put (x := w32 ((s2.2.1 a0 40) + 1)) 10 40 rfl inX11 (by decide) tw1233 (Or.inl rfl) rfl dX11_ends_82 h3 rfl id ?_
    refine v_bM (fun M24 e25 => ?_)
    exact v_return dX11_ends_85 rfl rfl
theorem chX11_does_0 : (cX11_does.data.toList.drop 0).take 16 = [42, 27, 181, 1, 82, 42, 27, 4, 182, 1, 73, 61, 42, 27, 5, 182] := by decide +kernel
theorem chX11_does_1 : (cX11_does.data.toList.drop 16).take 16 = [1, 73, 62, 42, 27, 6, 182, 1, 73, 54, 4, 42, 27, 3, 182, 1] := by decide +kernel
theorem chX11_does_2 : (cX11_does.data.toList.drop 32).take 16 = [73, 170, 0, 0, 0, 0, 0, 54, 0, 0, 0, 0, 0, 0, 0, 2] := by decide +kernel
theorem chX11_does_3 : (cX11_does.data.toList.drop 48).take 16 = [0, 0, 0, 27, 0, 0, 0, 36, 0, 0, 0, 45, 42, 28, 29, 21] := by decide +kernel
theorem chX11_does_4 : (cX11_does.data.toList.drop 64).take 16 = [4, 182, 1, 98, 172, 42, 28, 29, 21, 4, 182, 1, 101, 172, 42, 28] := by decide +kernel
theorem chX11_does_5 : (cX11_does.data.toList.drop 80).take 16 = [29, 21, 4, 182, 1, 104, 172, 42, 182, 1, 107, 4, 172] := by decide +kernel
theorem dX11_does_0 : decode cX11_does 0 = .ok (.aload_n 0, 1) := oq_42 (byt chX11_does_0 0 rfl)
theorem dX11_does_1 : decode cX11_does 1 = .ok (.iload_n 1, 1) := oq_27 (byt chX11_does_0 1 rfl)
theorem dX11_does_2 : decode cX11_does 2 = .ok (.putfield 338, 3) := oq_181 (byt chX11_does_0 2 rfl) (byt chX11_does_0 3 rfl) (byt chX11_does_0 4 rfl) rfl
theorem dX11_does_5 : decode cX11_does 5 = .ok (.aload_n 0, 1) := oq_42 (byt chX11_does_0 5 rfl)
theorem dX11_does_6 : decode cX11_does 6 = .ok (.iload_n 1, 1) := oq_27 (byt chX11_does_0 6 rfl)
theorem dX11_does_7 : decode cX11_does 7 = .ok (.iconst 1, 1) := oq_4 (byt chX11_does_0 7 rfl)
theorem dX11_does_8 : decode cX11_does 8 = .ok (.invokevirtual 329, 3) := oq_182 (byt chX11_does_0 8 rfl) (byt chX11_does_0 9 rfl) (byt chX11_does_0 10 rfl) rfl
theorem dX11_does_11 : decode cX11_does 11 = .ok (.istore_n 2, 1) := oq_61 (byt chX11_does_0 11 rfl)
theorem dX11_does_12 : decode cX11_does 12 = .ok (.aload_n 0, 1) := oq_42 (byt chX11_does_0 12 rfl)
theorem dX11_does_13 : decode cX11_does 13 = .ok (.iload_n 1, 1) := oq_27 (byt chX11_does_0 13 rfl)
theorem dX11_does_14 : decode cX11_does 14 = .ok (.iconst 2, 1) := oq_5 (byt chX11_does_0 14 rfl)
theorem dX11_does_15 : decode cX11_does 15 = .ok (.invokevirtual 329, 3) := oq_182 (byt chX11_does_0 15 rfl) (byt chX11_does_1 0 rfl) (byt chX11_does_1 1 rfl) rfl
theorem dX11_does_18 : decode cX11_does 18 = .ok (.istore_n 3, 1) := oq_62 (byt chX11_does_1 2 rfl)
theorem dX11_does_19 : decode cX11_does 19 = .ok (.aload_n 0, 1) := oq_42 (byt chX11_does_1 3 rfl)
theorem dX11_does_20 : decode cX11_does 20 = .ok (.iload_n 1, 1) := oq_27 (byt chX11_does_1 4 rfl)
theorem dX11_does_21 : decode cX11_does 21 = .ok (.iconst 3, 1) := oq_6 (byt chX11_does_1 5 rfl)
theorem dX11_does_22 : decode cX11_does 22 = .ok (.invokevirtual 329, 3) := oq_182 (byt chX11_does_1 6 rfl) (byt chX11_does_1 7 rfl) (byt chX11_does_1 8 rfl) rfl
theorem dX11_does_25 : decode cX11_does 25 = .ok (.istore 4, 2) := oq_54 (byt chX11_does_1 9 rfl) (byt chX11_does_1 10 rfl) rfl
theorem dX11_does_27 : decode cX11_does 27 = .ok (.aload_n 0, 1) := oq_42 (byt chX11_does_1 11 rfl)
theorem dX11_does_28 : decode cX11_does 28 = .ok (.iload_n 1, 1) := oq_27 (byt chX11_does_1 12 rfl)
theorem dX11_does_29 : decode cX11_does 29 = .ok (.iconst 0, 1) := oq_3 (byt chX11_does_1 13 rfl)
theorem dX11_does_30 : decode cX11_does 30 = .ok (.invokevirtual 329, 3) := oq_182 (byt chX11_does_1 14 rfl) (byt chX11_does_1 15 rfl) (byt chX11_does_2 0 rfl) rfl
theorem dX11_does_33 : decode cX11_does 33 = .ok (.tableswitch 54 0 2 #[27, 36, 45], 27) := by decide +kernel
theorem dX11_does_60 : decode cX11_does 60 = .ok (.aload_n 0, 1) := oq_42 (byt chX11_does_3 12 rfl)
theorem dX11_does_61 : decode cX11_does 61 = .ok (.iload_n 2, 1) := oq_28 (byt chX11_does_3 13 rfl)
theorem dX11_does_62 : decode cX11_does 62 = .ok (.iload_n 3, 1) := oq_29 (byt chX11_does_3 14 rfl)
theorem dX11_does_63 : decode cX11_does 63 = .ok (.iload 4, 2) := oq_21 (byt chX11_does_3 15 rfl) (byt chX11_does_4 0 rfl) rfl
theorem dX11_does_65 : decode cX11_does 65 = .ok (.invokevirtual 354, 3) := oq_182 (byt chX11_does_4 1 rfl) (byt chX11_does_4 2 rfl) (byt chX11_does_4 3 rfl) rfl
theorem dX11_does_68 : decode cX11_does 68 = .ok (.ireturn, 1) := oq_172 (byt chX11_does_4 4 rfl)
theorem dX11_does_69 : decode cX11_does 69 = .ok (.aload_n 0, 1) := oq_42 (byt chX11_does_4 5 rfl)
theorem dX11_does_70 : decode cX11_does 70 = .ok (.iload_n 2, 1) := oq_28 (byt chX11_does_4 6 rfl)
theorem dX11_does_71 : decode cX11_does 71 = .ok (.iload_n 3, 1) := oq_29 (byt chX11_does_4 7 rfl)
theorem dX11_does_72 : decode cX11_does 72 = .ok (.iload 4, 2) := oq_21 (byt chX11_does_4 8 rfl) (byt chX11_does_4 9 rfl) rfl
theorem dX11_does_74 : decode cX11_does 74 = .ok (.invokevirtual 357, 3) := oq_182 (byt chX11_does_4 10 rfl) (byt chX11_does_4 11 rfl) (byt chX11_does_4 12 rfl) rfl
theorem dX11_does_77 : decode cX11_does 77 = .ok (.ireturn, 1) := oq_172 (byt chX11_does_4 13 rfl)
theorem dX11_does_78 : decode cX11_does 78 = .ok (.aload_n 0, 1) := oq_42 (byt chX11_does_4 14 rfl)
theorem dX11_does_79 : decode cX11_does 79 = .ok (.iload_n 2, 1) := oq_28 (byt chX11_does_4 15 rfl)
theorem dX11_does_80 : decode cX11_does 80 = .ok (.iload_n 3, 1) := oq_29 (byt chX11_does_5 0 rfl)
theorem dX11_does_81 : decode cX11_does 81 = .ok (.iload 4, 2) := oq_21 (byt chX11_does_5 1 rfl) (byt chX11_does_5 2 rfl) rfl
theorem dX11_does_83 : decode cX11_does 83 = .ok (.invokevirtual 360, 3) := oq_182 (byt chX11_does_5 3 rfl) (byt chX11_does_5 4 rfl) (byt chX11_does_5 5 rfl) rfl
theorem dX11_does_86 : decode cX11_does 86 = .ok (.ireturn, 1) := oq_172 (byt chX11_does_5 6 rfl)
theorem dX11_does_87 : decode cX11_does 87 = .ok (.aload_n 0, 1) := oq_42 (byt chX11_does_5 7 rfl)
theorem dX11_does_88 : decode cX11_does 88 = .ok (.invokevirtual 363, 3) := oq_182 (byt chX11_does_5 8 rfl) (byt chX11_does_5 9 rfl) (byt chX11_does_5 10 rfl) rfl
theorem dX11_does_91 : decode cX11_does 91 = .ok (.iconst 1, 1) := oq_4 (byt chX11_does_5 11 rfl)
theorem dX11_does_92 : decode cX11_does 92 = .ok (.ireturn, 1) := oq_172 (byt chX11_does_5 12 rfl)
abbrev mX11_does : MI := (yX11_does, cX11_does, 5, (some .boolean), noE)
theorem okX11_does : cok mX11_does 1 := ⟨tw1585, tw11, by decide, by decide, by decide, by decide +kernel⟩
def fX11_does (M : Mem) (a0 a1 : Int) : Option (Int × Mem) :=
  if M.2.1 a0 = 10 then bM (mst M a0 42 a1) fun M2 => (fX11_deedOf M2 a0 a1 1).bind fun r4 => (fX11_deedOf M2 a0 a1 2).bind fun r6 => (fX11_deedOf M2 a0 a1 3).bind fun r8 => (fX11_deedOf M2 a0 a1 0).bind fun r10 => if r10 = 0 then ((fX11_takes M2 a0 r4 r6 r8).bind fun r13 => if r13.1 = 0 ∨ r13.1 = 1 then some (r13.1, r13.2) else none) else if r10 = 1 then ((fX11_gives M2 a0 r4 r6 r8).bind fun r17 => if r17.1 = 0 ∨ r17.1 = 1 then some (r17.1, r17.2) else none) else if r10 = 2 then ((fX11_sets M2 a0 r4 r6 r8).bind fun r21 => if r21.1 = 0 ∨ r21.1 = 1 then some (r21.1, r21.2) else none) else (fX11_ends M2 a0).bind fun r24 => some (1, r24) else none
set_option maxRecDepth 100000 in
set_option maxHeartbeats 4000000 in
theorem kX11_does (d : Nat) (hd : 5 ≤ d) (M : Mem) (a0 a1 : Int) : Ct mX11_does d 0 0 [pA a0, pI a1] M dIM (fX11_does M a0 a1) := by
  obtain ⟨d, rfl⟩ : ∃ k, d = k + 1 := ⟨d - 1, by omega⟩
  refine Ct.of 3 (fun _ _ _ => trivial) (by decide +kernel) rfl ?_
  unfold fX11_does
  refine v_aload_n dX11_does_0 rfl ?_
  refine v_iload_n dX11_does_1 rfl ?_
  refine v_if (fun h1 => ?_)
  refine v_put (x := a1) 10 42 rfl inX11 (by decide) tw1235 (Or.inl rfl) rfl dX11_does_2 h1 rfl id ?_
  refine v_bM (fun M2 e3 => ?_)
  refine v_aload_n dX11_does_5 rfl ?_
  refine v_iload_n dX11_does_6 rfl ?_
  refine v_iconst dX11_does_7 (by decide) ?_
  refine v_cV (mi := mX11_does) (c0 := 0) (c1 := 0) (As := [pI a1, pI 1]) (st := []) (kX11_deedOf d (by omega) _ _ _ _) rfl (by rw [e3]; exact h1) rfl okX11_deedOf (Or.inl tw1562) tw1564 tp65 rfl (Nat.le_of_ble_eq_true rfl) dX11_does_8 (fun r4 => [pI r4]) (fun r4 => M2) (fun _ => rfl) (fun _ => rfl) (fun r4 h5 => ?_) rfl
  refine v_istore_n (ls' := [some (pA a0), some (pI a1), some (pI r4), none, none]) dX11_does_11 (by decide) rfl ?_
  refine v_aload_n dX11_does_12 rfl ?_
  refine v_iload_n dX11_does_13 rfl ?_
  refine v_iconst dX11_does_14 (by decide) ?_
  refine v_cV (mi := mX11_does) (c0 := 0) (c1 := 0) (As := [pI a1, pI 2]) (st := []) (kX11_deedOf d (by omega) _ _ _ _) rfl (by rw [e3]; exact h1) rfl okX11_deedOf (Or.inl tw1562) tw1564 tp65 rfl (Nat.le_of_ble_eq_true rfl) dX11_does_15 (fun r6 => [pI r6]) (fun r6 => M2) (fun _ => rfl) (fun _ => rfl) (fun r6 h7 => ?_) rfl
  refine v_istore_n (ls' := [some (pA a0), some (pI a1), some (pI r4), some (pI r6), none]) dX11_does_18 (by decide) rfl ?_
  refine v_aload_n dX11_does_19 rfl ?_
  refine v_iload_n dX11_does_20 rfl ?_
  refine v_iconst dX11_does_21 (by decide) ?_
  refine v_cV (mi := mX11_does) (c0 := 0) (c1 := 0) (As := [pI a1, pI 3]) (st := []) (kX11_deedOf d (by omega) _ _ _ _) rfl (by rw [e3]; exact h1) rfl okX11_deedOf (Or.inl tw1562) tw1564 tp65 rfl (Nat.le_of_ble_eq_true rfl) dX11_does_22 (fun r8 => [pI r8]) (fun r8 => M2) (fun _ => rfl) (fun _ => rfl) (fun r8 h9 => ?_) rfl
  refine v_istore (ls' := [some (pA a0), some (pI a1), some (pI r4), some (pI r6), some (pI r8)]) dX11_does_25 (by decide) rfl ?_
  refine v_aload_n dX11_does_27 rfl ?_
  refine v_iload_n dX11_does_28 rfl ?_
  refine v_iconst dX11_does_29 (by decide) ?_
  refine v_cV (mi := mX11_does) (c0 := 0) (c1 := 0) (As := [pI a1, pI 0]) (st := []) (kX11_deedOf d (by omega) _ _ _ _) rfl (by rw [e3]; exact h1) rfl okX11_deedOf (Or.inl tw1562) tw1564 tp65 rfl (Nat.le_of_ble_eq_true rfl) dX11_does_30 (fun r10 => [pI r10]) (fun r10 => M2) (fun _ => rfl) (fun _ => rfl) (fun r10 h11 => ?_) rfl
  refine v_ite (fun h12 => ?_) (fun h12 => ?_)
  · refine v_tabIn (off := 27) (tgt := 60) dX11_does_33 h12 (by decide) ?_
    refine v_aload_n dX11_does_60 rfl ?_
    refine v_iload_n dX11_does_61 rfl ?_
    refine v_iload_n dX11_does_62 rfl ?_
    refine v_iload dX11_does_63 rfl ?_
    refine v_cV (mi := mX11_does) (c0 := 0) (c1 := 0) (As := [pI r4, pI r6, pI r8]) (st := []) (kX11_takes d (by omega) _ _ _ _ _) rfl (by rw [e3]; exact h1) rfl okX11_takes (Or.inl tw1586) tw1588 tp70 rfl (Nat.le_of_ble_eq_true rfl) dX11_does_65 (fun r13 => [pI r13.1]) (fun r13 => r13.2) (fun _ => rfl) (fun _ => rfl) (fun r13 h14 => ?_) rfl
    refine v_if (fun h15 => ?_)
    exact v_breturn dX11_does_68 rfl h15 rfl
  · refine v_ite (fun h16 => ?_) (fun h16 => ?_)
    · refine v_tabIn (off := 36) (tgt := 69) dX11_does_33 h16 (by decide) ?_
      refine v_aload_n dX11_does_69 rfl ?_
      refine v_iload_n dX11_does_70 rfl ?_
      refine v_iload_n dX11_does_71 rfl ?_
      refine v_iload dX11_does_72 rfl ?_
      refine v_cV (mi := mX11_does) (c0 := 0) (c1 := 0) (As := [pI r4, pI r6, pI r8]) (st := []) (kX11_gives d (by omega) _ _ _ _ _) rfl (by rw [e3]; exact h1) rfl okX11_gives (Or.inl tw1597) tw1599 tp72 rfl (Nat.le_of_ble_eq_true rfl) dX11_does_74 (fun r17 => [pI r17.1]) (fun r17 => r17.2) (fun _ => rfl) (fun _ => rfl) (fun r17 h18 => ?_) rfl
      refine v_if (fun h19 => ?_)
      exact v_breturn dX11_does_77 rfl h19 rfl
    · refine v_ite (fun h20 => ?_) (fun h20 => ?_)
      · refine v_tabIn (off := 45) (tgt := 78) dX11_does_33 h20 (by decide) ?_
        refine v_aload_n dX11_does_78 rfl ?_
        refine v_iload_n dX11_does_79 rfl ?_
        refine v_iload_n dX11_does_80 rfl ?_
        refine v_iload dX11_does_81 rfl ?_
        refine v_cV (mi := mX11_does) (c0 := 0) (c1 := 0) (As := [pI r4, pI r6, pI r8]) (st := []) (kX11_sets d (by omega) _ _ _ _ _) rfl (by rw [e3]; exact h1) rfl okX11_sets (Or.inl tw1605) tw1607 tp74 rfl (Nat.le_of_ble_eq_true rfl) dX11_does_83 (fun r21 => [pI r21.1]) (fun r21 => r21.2) (fun _ => rfl) (fun _ => rfl) (fun r21 h22 => ?_) rfl
        refine v_if (fun h23 => ?_)
        exact v_breturn dX11_does_86 rfl h23 rfl
      · refine v_tabOut (tgt := 87) dX11_does_33 (by omega) (by decide) ?_
        refine v_aload_n dX11_does_87 rfl ?_
        refine v_cV (mi := mX11_does) (c0 := 0) (c1 := 0) (As := []) (st := []) (kX11_ends d (by omega) _ _) rfl (by rw [e3]; exact h1) rfl okX11_ends (Or.inl tw1613) tw1615 tp76 rfl (Nat.le_of_ble_eq_true rfl) dX11_does_88 (fun r24 => []) (fun r24 => r24) (fun _ => rfl) (fun _ => rfl) (fun r24 h25 => ?_) rfl
        refine v_iconst dX11_does_91 (by decide) ?_
        exact v_breturn dX11_does_92 rfl (by decide) rfl
theorem chX11_play_0 : (cX11_play.data.toList.drop 0).take 16 = [42, 182, 1, 110, 3, 61, 28, 27, 162, 0, 17, 42, 28, 182, 1, 113] := by decide +kernel
theorem chX11_play_1 : (cX11_play.data.toList.drop 16).take 16 = [153, 0, 9, 132, 2, 1, 167, 255, 240, 28, 172] := by decide +kernel
theorem dX11_play_0 : decode cX11_play 0 = .ok (.aload_n 0, 1) := oq_42 (byt chX11_play_0 0 rfl)
theorem dX11_play_1 : decode cX11_play 1 = .ok (.invokevirtual 366, 3) := oq_182 (byt chX11_play_0 1 rfl) (byt chX11_play_0 2 rfl) (byt chX11_play_0 3 rfl) rfl
theorem dX11_play_4 : decode cX11_play 4 = .ok (.iconst 0, 1) := oq_3 (byt chX11_play_0 4 rfl)
theorem dX11_play_5 : decode cX11_play 5 = .ok (.istore_n 2, 1) := oq_61 (byt chX11_play_0 5 rfl)
theorem dX11_play_6 : decode cX11_play 6 = .ok (.iload_n 2, 1) := oq_28 (byt chX11_play_0 6 rfl)
theorem dX11_play_7 : decode cX11_play 7 = .ok (.iload_n 1, 1) := oq_27 (byt chX11_play_0 7 rfl)
theorem dX11_play_8 : decode cX11_play 8 = .ok (.if_icmp .ge 17, 3) := oq_162 (byt chX11_play_0 8 rfl) (byt chX11_play_0 9 rfl) (byt chX11_play_0 10 rfl) (by decide +kernel)
theorem dX11_play_11 : decode cX11_play 11 = .ok (.aload_n 0, 1) := oq_42 (byt chX11_play_0 11 rfl)
theorem dX11_play_12 : decode cX11_play 12 = .ok (.iload_n 2, 1) := oq_28 (byt chX11_play_0 12 rfl)
theorem dX11_play_13 : decode cX11_play 13 = .ok (.invokevirtual 369, 3) := oq_182 (byt chX11_play_0 13 rfl) (byt chX11_play_0 14 rfl) (byt chX11_play_0 15 rfl) rfl
theorem dX11_play_16 : decode cX11_play 16 = .ok (.ifCond .eq 9, 3) := oq_153 (byt chX11_play_1 0 rfl) (byt chX11_play_1 1 rfl) (byt chX11_play_1 2 rfl) (by decide +kernel)
theorem dX11_play_19 : decode cX11_play 19 = .ok (.iinc 2 1, 3) := oq_132 (byt chX11_play_1 3 rfl) (byt chX11_play_1 4 rfl) (byt chX11_play_1 5 rfl) rfl
theorem dX11_play_22 : decode cX11_play 22 = .ok (.goto (-16), 3) := oq_167 (byt chX11_play_1 6 rfl) (byt chX11_play_1 7 rfl) (byt chX11_play_1 8 rfl) (by decide +kernel)
theorem dX11_play_25 : decode cX11_play 25 = .ok (.iload_n 2, 1) := oq_28 (byt chX11_play_1 9 rfl)
theorem dX11_play_26 : decode cX11_play 26 = .ok (.ireturn, 1) := oq_172 (byt chX11_play_1 10 rfl)
abbrev mX11_play : MI := (yX11_play, cX11_play, 3, (some .int), noE)
theorem okX11_play : cok mX11_play 1 := ⟨tw1577, tw11, by decide, by decide, by decide, by decide +kernel⟩
def fX11_play (M : Mem) (a0 a1 : Int) : Option (Int × Mem) :=
  if M.2.1 a0 = 10 then (fX11_begin M a0).bind fun r1 => iterC (fun (rec4 : (Int × Mem) → Option (Int × Mem)) (s5 : Int × Mem) => if s5.1 < a1 then (if s5.2.2.1 a0 = 10 then (fX11_does s5.2 a0 s5.1).bind fun r7 => if r7.1 = 0 then (some (s5.1, r7.2)) else (rec4 (w32 (s5.1 + 1), r7.2)) else none) else (some (s5.1, s5.2))) BIG (0, r1) else none
set_option maxRecDepth 100000 in
set_option maxHeartbeats 4000000 in
theorem kX11_play (d : Nat) (hd : 6 ≤ d) (M : Mem) (a0 a1 : Int) : Ct mX11_play d 0 0 [pA a0, pI a1] M dIM (fX11_play M a0 a1) := by
  obtain ⟨d, rfl⟩ : ∃ k, d = k + 1 := ⟨d - 1, by omega⟩
  refine Ct.of 1 (fun _ _ _ => trivial) (by decide +kernel) rfl ?_
  unfold fX11_play
  refine v_aload_n dX11_play_0 rfl ?_
  refine v_if (fun h3 => ?_)
  refine v_cV (mi := mX11_play) (c0 := 0) (c1 := 0) (As := []) (st := []) (kX11_begin d (by omega) _ _) rfl h3 rfl okX11_begin (Or.inl tw1578) tw1580 tp68 rfl (Nat.le_of_ble_eq_true rfl) dX11_play_1 (fun r1 => []) (fun r1 => r1) (fun _ => rfl) (fun _ => rfl) (fun r1 h2 => ?_) rfl
  refine v_iconst dX11_play_4 (by decide) ?_
  refine v_istore_n (ls' := [some (pA a0), some (pI a1), some (pI 0)]) dX11_play_5 (by decide) rfl ?_
  refine v_loop (fun (s5 : Int × Mem) => [some (pA a0), some (pI a1), some (pI s5.1)]) (fun (s5 : Int × Mem) => s5.2) (s0 := (0, r1)) ?_
  intro rec4 hrec4 s5
  refine v_iload_n dX11_play_6 rfl ?_
  refine v_iload_n dX11_play_7 rfl ?_
  refine v_icmp_ge (tgt := 25) dX11_play_8 (by decide) (fun c6 => ?_) (fun c6 => ?_)
  · refine v_aload_n dX11_play_11 rfl ?_
    refine v_iload_n dX11_play_12 rfl ?_
    refine v_if (fun h9 => ?_)
    refine v_cV (mi := mX11_play) (c0 := 0) (c1 := 0) (As := [pI s5.1]) (st := []) (kX11_does d (by omega) _ _ _) rfl h9 rfl okX11_does (Or.inl tw1582) tw1584 tp69 rfl (Nat.le_of_ble_eq_true rfl) dX11_play_13 (fun r7 => [pI r7.1]) (fun r7 => r7.2) (fun _ => rfl) (fun _ => rfl) (fun r7 h8 => ?_) rfl
    refine v_if_eq (tgt := 25) dX11_play_16 (by decide) (fun c10 => ?_) (fun c10 => ?_)
    · refine v_iload_n dX11_play_25 rfl ?_
      exact v_ireturn dX11_play_26 rfl rfl
    · refine v_iinc (ls' := [some (pA a0), some (pI a1), some (pI (w32 (s5.1 + 1)))]) dX11_play_19 (by decide) rfl rfl ?_
      refine v_goto (tgt := 6) dX11_play_22 (by decide) ?_
      exact hrec4 (w32 (s5.1 + 1), r7.2)
  · refine v_iload_n dX11_play_25 rfl ?_
    exact v_ireturn dX11_play_26 rfl rfl
theorem chX11_layAll_0 : (cX11_layAll.data.toList.drop 0).take 16 = [42, 28, 182, 1, 58, 153, 0, 23, 42, 29, 182, 1, 67, 153, 0, 15] := by decide +kernel
theorem chX11_layAll_1 : (cX11_layAll.data.toList.drop 16).take 16 = [42, 27, 182, 1, 31, 153, 0, 7, 4, 167, 0, 4, 3, 172] := by decide +kernel
theorem dX11_layAll_0 : decode cX11_layAll 0 = .ok (.aload_n 0, 1) := oq_42 (byt chX11_layAll_0 0 rfl)
theorem dX11_layAll_1 : decode cX11_layAll 1 = .ok (.iload_n 2, 1) := oq_28 (byt chX11_layAll_0 1 rfl)
theorem dX11_layAll_2 : decode cX11_layAll 2 = .ok (.invokevirtual 314, 3) := oq_182 (byt chX11_layAll_0 2 rfl) (byt chX11_layAll_0 3 rfl) (byt chX11_layAll_0 4 rfl) rfl
theorem dX11_layAll_5 : decode cX11_layAll 5 = .ok (.ifCond .eq 23, 3) := oq_153 (byt chX11_layAll_0 5 rfl) (byt chX11_layAll_0 6 rfl) (byt chX11_layAll_0 7 rfl) (by decide +kernel)
theorem dX11_layAll_8 : decode cX11_layAll 8 = .ok (.aload_n 0, 1) := oq_42 (byt chX11_layAll_0 8 rfl)
theorem dX11_layAll_9 : decode cX11_layAll 9 = .ok (.iload_n 3, 1) := oq_29 (byt chX11_layAll_0 9 rfl)
theorem dX11_layAll_10 : decode cX11_layAll 10 = .ok (.invokevirtual 323, 3) := oq_182 (byt chX11_layAll_0 10 rfl) (byt chX11_layAll_0 11 rfl) (byt chX11_layAll_0 12 rfl) rfl
theorem dX11_layAll_13 : decode cX11_layAll 13 = .ok (.ifCond .eq 15, 3) := oq_153 (byt chX11_layAll_0 13 rfl) (byt chX11_layAll_0 14 rfl) (byt chX11_layAll_0 15 rfl) (by decide +kernel)
theorem dX11_layAll_16 : decode cX11_layAll 16 = .ok (.aload_n 0, 1) := oq_42 (byt chX11_layAll_1 0 rfl)
theorem dX11_layAll_17 : decode cX11_layAll 17 = .ok (.iload_n 1, 1) := oq_27 (byt chX11_layAll_1 1 rfl)
theorem dX11_layAll_18 : decode cX11_layAll 18 = .ok (.invokevirtual 287, 3) := oq_182 (byt chX11_layAll_1 2 rfl) (byt chX11_layAll_1 3 rfl) (byt chX11_layAll_1 4 rfl) rfl
theorem dX11_layAll_21 : decode cX11_layAll 21 = .ok (.ifCond .eq 7, 3) := oq_153 (byt chX11_layAll_1 5 rfl) (byt chX11_layAll_1 6 rfl) (byt chX11_layAll_1 7 rfl) (by decide +kernel)
theorem dX11_layAll_24 : decode cX11_layAll 24 = .ok (.iconst 1, 1) := oq_4 (byt chX11_layAll_1 8 rfl)
theorem dX11_layAll_25 : decode cX11_layAll 25 = .ok (.goto 4, 3) := oq_167 (byt chX11_layAll_1 9 rfl) (byt chX11_layAll_1 10 rfl) (byt chX11_layAll_1 11 rfl) (by decide +kernel)
theorem dX11_layAll_28 : decode cX11_layAll 28 = .ok (.iconst 0, 1) := oq_3 (byt chX11_layAll_1 12 rfl)
theorem dX11_layAll_29 : decode cX11_layAll 29 = .ok (.ireturn, 1) := oq_172 (byt chX11_layAll_1 13 rfl)
abbrev mX11_layAll : MI := (yX11_layAll, cX11_layAll, 4, (some .boolean), noE)
theorem okX11_layAll : cok mX11_layAll 3 := ⟨tw1573, tw11, by decide, by decide, by decide, by decide +kernel⟩
def fX11_layAll (M : Mem) (a0 a1 a2 a3 : Int) : Option (Int × Mem) :=
  if M.2.1 a0 = 10 then (fX11_hasLaw M a0 a2).bind fun r1 => if r1.1 = 0 then (some (0, r1.2)) else (if r1.2.2.1 a0 = 10 then (fX11_hasNights r1.2 a0 a3).bind fun r5 => if r5.1 = 0 then (some (0, r5.2)) else (if r5.2.2.1 a0 = 10 then (fX11_hand r5.2 a0 a1).bind fun r9 => if r9.1 = 0 then (some (0, r9.2)) else (some (1, r9.2)) else none) else none) else none
set_option maxRecDepth 100000 in
set_option maxHeartbeats 4000000 in
theorem kX11_layAll (d : Nat) (hd : 3 ≤ d) (M : Mem) (a0 a1 a2 a3 : Int) : Ct mX11_layAll d 0 0 [pA a0, pI a1, pI a2, pI a3] M dIM (fX11_layAll M a0 a1 a2 a3) := by
  obtain ⟨d, rfl⟩ : ∃ k, d = k + 1 := ⟨d - 1, by omega⟩
  refine Ct.of 0 (fun _ _ _ => trivial) (by decide +kernel) rfl ?_
  unfold fX11_layAll
  refine v_aload_n dX11_layAll_0 rfl ?_
  refine v_iload_n dX11_layAll_1 rfl ?_
  refine v_if (fun h3 => ?_)
  refine v_cV (mi := mX11_layAll) (c0 := 0) (c1 := 0) (As := [pI a2]) (st := []) (kX11_hasLaw d (by omega) _ _ _) rfl h3 rfl okX11_hasLaw (Or.inl tw1535) tw1537 tp60 rfl (Nat.le_of_ble_eq_true rfl) dX11_layAll_2 (fun r1 => [pI r1.1]) (fun r1 => r1.2) (fun _ => rfl) (fun _ => rfl) (fun r1 h2 => ?_) rfl
  refine v_if_eq (tgt := 28) dX11_layAll_5 (by decide) (fun c4 => ?_) (fun c4 => ?_)
  · refine v_iconst dX11_layAll_28 (by decide) ?_
    exact v_breturn dX11_layAll_29 rfl (by decide) rfl
  · refine v_aload_n dX11_layAll_8 rfl ?_
    refine v_iload_n dX11_layAll_9 rfl ?_
    refine v_if (fun h7 => ?_)
    refine v_cV (mi := mX11_layAll) (c0 := 0) (c1 := 0) (As := [pI a3]) (st := []) (kX11_hasNights d (by omega) _ _ _) rfl h7 rfl okX11_hasNights (Or.inl tw1554) tw1556 tp63 rfl (Nat.le_of_ble_eq_true rfl) dX11_layAll_10 (fun r5 => [pI r5.1]) (fun r5 => r5.2) (fun _ => rfl) (fun _ => rfl) (fun r5 h6 => ?_) rfl
    refine v_if_eq (tgt := 28) dX11_layAll_13 (by decide) (fun c8 => ?_) (fun c8 => ?_)
    · refine v_iconst dX11_layAll_28 (by decide) ?_
      exact v_breturn dX11_layAll_29 rfl (by decide) rfl
    · refine v_aload_n dX11_layAll_16 rfl ?_
      refine v_iload_n dX11_layAll_17 rfl ?_
      refine v_if (fun h11 => ?_)
      refine v_cV (mi := mX11_layAll) (c0 := 0) (c1 := 0) (As := [pI a1]) (st := []) (kX11_hand d (by omega) _ _ _) rfl h11 rfl okX11_hand (Or.inl tw1500) tw1502 tp54 rfl (Nat.le_of_ble_eq_true rfl) dX11_layAll_18 (fun r9 => [pI r9.1]) (fun r9 => r9.2) (fun _ => rfl) (fun _ => rfl) (fun r9 h10 => ?_) rfl
      refine v_if_eq (tgt := 28) dX11_layAll_21 (by decide) (fun c12 => ?_) (fun c12 => ?_)
      · refine v_iconst dX11_layAll_28 (by decide) ?_
        exact v_breturn dX11_layAll_29 rfl (by decide) rfl
      · refine v_iconst dX11_layAll_24 (by decide) ?_
        refine v_goto (tgt := 29) dX11_layAll_25 (by decide) ?_
        exact v_breturn dX11_layAll_29 rfl (by decide) rfl
theorem chX11_layState_0 : (cX11_layState.data.toList.drop 0).take 16 = [42, 27, 28, 29, 182, 1, 116, 153, 0, 31, 21, 4, 3, 42, 182, 1] := by decide +kernel
theorem chX11_layState_1 : (cX11_layState.data.toList.drop 16).take 16 = [70, 184, 0, 98, 153, 0, 18, 42, 21, 4, 182, 1, 119, 21, 4, 160] := by decide +kernel
theorem chX11_layState_2 : (cX11_layState.data.toList.drop 32).take 16 = [0, 7, 4, 167, 0, 4, 3, 172] := by decide +kernel
theorem dX11_layState_0 : decode cX11_layState 0 = .ok (.aload_n 0, 1) := oq_42 (byt chX11_layState_0 0 rfl)
theorem dX11_layState_1 : decode cX11_layState 1 = .ok (.iload_n 1, 1) := oq_27 (byt chX11_layState_0 1 rfl)
theorem dX11_layState_2 : decode cX11_layState 2 = .ok (.iload_n 2, 1) := oq_28 (byt chX11_layState_0 2 rfl)
theorem dX11_layState_3 : decode cX11_layState 3 = .ok (.iload_n 3, 1) := oq_29 (byt chX11_layState_0 3 rfl)
theorem dX11_layState_4 : decode cX11_layState 4 = .ok (.invokevirtual 372, 3) := oq_182 (byt chX11_layState_0 4 rfl) (byt chX11_layState_0 5 rfl) (byt chX11_layState_0 6 rfl) rfl
theorem dX11_layState_7 : decode cX11_layState 7 = .ok (.ifCond .eq 31, 3) := oq_153 (byt chX11_layState_0 7 rfl) (byt chX11_layState_0 8 rfl) (byt chX11_layState_0 9 rfl) (by decide +kernel)
theorem dX11_layState_10 : decode cX11_layState 10 = .ok (.iload 4, 2) := oq_21 (byt chX11_layState_0 10 rfl) (byt chX11_layState_0 11 rfl) rfl
theorem dX11_layState_12 : decode cX11_layState 12 = .ok (.iconst 0, 1) := oq_3 (byt chX11_layState_0 12 rfl)
theorem dX11_layState_13 : decode cX11_layState 13 = .ok (.aload_n 0, 1) := oq_42 (byt chX11_layState_0 13 rfl)
theorem dX11_layState_14 : decode cX11_layState 14 = .ok (.invokevirtual 326, 3) := oq_182 (byt chX11_layState_0 14 rfl) (byt chX11_layState_0 15 rfl) (byt chX11_layState_1 0 rfl) rfl
theorem dX11_layState_17 : decode cX11_layState 17 = .ok (.invokestatic 98, 3) := oq_184 (byt chX11_layState_1 1 rfl) (byt chX11_layState_1 2 rfl) (byt chX11_layState_1 3 rfl) rfl
theorem dX11_layState_20 : decode cX11_layState 20 = .ok (.ifCond .eq 18, 3) := oq_153 (byt chX11_layState_1 4 rfl) (byt chX11_layState_1 5 rfl) (byt chX11_layState_1 6 rfl) (by decide +kernel)
theorem dX11_layState_23 : decode cX11_layState 23 = .ok (.aload_n 0, 1) := oq_42 (byt chX11_layState_1 7 rfl)
theorem dX11_layState_24 : decode cX11_layState 24 = .ok (.iload 4, 2) := oq_21 (byt chX11_layState_1 8 rfl) (byt chX11_layState_1 9 rfl) rfl
theorem dX11_layState_26 : decode cX11_layState 26 = .ok (.invokevirtual 375, 3) := oq_182 (byt chX11_layState_1 10 rfl) (byt chX11_layState_1 11 rfl) (byt chX11_layState_1 12 rfl) rfl
theorem dX11_layState_29 : decode cX11_layState 29 = .ok (.iload 4, 2) := oq_21 (byt chX11_layState_1 13 rfl) (byt chX11_layState_1 14 rfl) rfl
theorem dX11_layState_31 : decode cX11_layState 31 = .ok (.if_icmp .ne 7, 3) := oq_160 (byt chX11_layState_1 15 rfl) (byt chX11_layState_2 0 rfl) (byt chX11_layState_2 1 rfl) (by decide +kernel)
theorem dX11_layState_34 : decode cX11_layState 34 = .ok (.iconst 1, 1) := oq_4 (byt chX11_layState_2 2 rfl)
theorem dX11_layState_35 : decode cX11_layState 35 = .ok (.goto 4, 3) := oq_167 (byt chX11_layState_2 3 rfl) (byt chX11_layState_2 4 rfl) (byt chX11_layState_2 5 rfl) (by decide +kernel)
theorem dX11_layState_38 : decode cX11_layState 38 = .ok (.iconst 0, 1) := oq_3 (byt chX11_layState_2 6 rfl)
theorem dX11_layState_39 : decode cX11_layState 39 = .ok (.ireturn, 1) := oq_172 (byt chX11_layState_2 7 rfl)
abbrev mX11_layState : MI := (yX11_layState, cX11_layState, 5, (some .boolean), noE)
theorem okX11_layState : cok mX11_layState 4 := ⟨tw1624, tw11, by decide, by decide, by decide, by decide +kernel⟩
def fX11_layState (M : Mem) (a0 a1 a2 a3 a4 : Int) : Option (Int × Mem) :=
  if M.2.1 a0 = 10 then (fX11_layAll M a0 a1 a2 a3).bind fun r1 => if r1.1 = 0 then (some (0, r1.2)) else (if r1.2.2.1 a0 = 10 then (fX11_deeds r1.2 a0).bind fun r5 => (fX11_in r1.2 a4 0 r5).bind fun r8 => if r8 = 0 then (some (0, r1.2)) else ((fX11_play r1.2 a0 a4).bind fun r11 => if r11.1 = a4 then (some (1, r11.2)) else (some (0, r11.2))) else none) else none
set_option maxRecDepth 100000 in
set_option maxHeartbeats 4000000 in
theorem kX11_layState (d : Nat) (hd : 7 ≤ d) (M : Mem) (a0 a1 a2 a3 a4 : Int) : Ct mX11_layState d 0 0 [pA a0, pI a1, pI a2, pI a3, pI a4] M dIM (fX11_layState M a0 a1 a2 a3 a4) := by
  obtain ⟨d, rfl⟩ : ∃ k, d = k + 1 := ⟨d - 1, by omega⟩
  refine Ct.of 0 (fun _ _ _ => trivial) (by decide +kernel) rfl ?_
  unfold fX11_layState
  refine v_aload_n dX11_layState_0 rfl ?_
  refine v_iload_n dX11_layState_1 rfl ?_
  refine v_iload_n dX11_layState_2 rfl ?_
  refine v_iload_n dX11_layState_3 rfl ?_
  refine v_if (fun h3 => ?_)
  refine v_cV (mi := mX11_layState) (c0 := 0) (c1 := 0) (As := [pI a1, pI a2, pI a3]) (st := []) (kX11_layAll d (by omega) _ _ _ _ _) rfl h3 rfl okX11_layAll (Or.inl tw1570) tw1572 tp66 rfl (Nat.le_of_ble_eq_true rfl) dX11_layState_4 (fun r1 => [pI r1.1]) (fun r1 => r1.2) (fun _ => rfl) (fun _ => rfl) (fun r1 h2 => ?_) rfl
  refine v_if_eq (tgt := 38) dX11_layState_7 (by decide) (fun c4 => ?_) (fun c4 => ?_)
  · refine v_iconst dX11_layState_38 (by decide) ?_
    exact v_breturn dX11_layState_39 rfl (by decide) rfl
  · refine v_iload dX11_layState_10 rfl ?_
    refine v_iconst dX11_layState_12 (by decide) ?_
    refine v_aload_n dX11_layState_13 rfl ?_
    refine v_if (fun h7 => ?_)
    refine v_cV (mi := mX11_layState) (c0 := 0) (c1 := 0) (As := []) (st := [pI 0, pI a4]) (kX11_deeds d (by omega) _ _) rfl h7 rfl okX11_deeds (Or.inl tw1558) tw1560 tp64 rfl (Nat.le_of_ble_eq_true rfl) dX11_layState_14 (fun r5 => [pI r5, pI 0, pI a4]) (fun r5 => r1.2) (fun _ => rfl) (fun _ => rfl) (fun r5 h6 => ?_) rfl
    refine v_cS (mi := mX11_layState) (c0 := 0) (c1 := 0) (As := [pI a4, pI 0, pI r5]) (st := []) (kX11_in d (by omega) _ _ _ _) okX11_in (Or.inl tw1360) tw1361 rfl (Nat.le_of_ble_eq_true rfl) dX11_layState_17 (fun r8 => [pI r8]) (fun r8 => r1.2) (fun _ => rfl) (fun _ => rfl) (fun r8 h9 => ?_) rfl
    refine v_if_eq (tgt := 38) dX11_layState_20 (by decide) (fun c10 => ?_) (fun c10 => ?_)
    · refine v_iconst dX11_layState_38 (by decide) ?_
      exact v_breturn dX11_layState_39 rfl (by decide) rfl
    · refine v_aload_n dX11_layState_23 rfl ?_
      refine v_iload dX11_layState_24 rfl ?_
      refine v_cV (mi := mX11_layState) (c0 := 0) (c1 := 0) (As := [pI a4]) (st := []) (kX11_play d (by omega) _ _ _) rfl h7 rfl okX11_play (Or.inl tw1574) tw1576 tp67 rfl (Nat.le_of_ble_eq_true rfl) dX11_layState_26 (fun r11 => [pI r11.1]) (fun r11 => r11.2) (fun _ => rfl) (fun _ => rfl) (fun r11 h12 => ?_) rfl
      refine v_iload dX11_layState_29 rfl ?_
      refine v_icmp_ne (tgt := 38) dX11_layState_31 (by decide) (fun c13 => ?_) (fun c13 => ?_)
      · refine v_iconst dX11_layState_34 (by decide) ?_
        refine v_goto (tgt := 39) dX11_layState_35 (by decide) ?_
        exact v_breturn dX11_layState_39 rfl (by decide) rfl
      · refine v_iconst dX11_layState_38 (by decide) ?_
        exact v_breturn dX11_layState_39 rfl (by decide) rfl
theorem chX11_stop_0 : (cX11_stop.data.toList.drop 0).take 16 = [42, 3, 181, 0, 90, 42, 27, 28, 29, 182, 1, 116, 153, 0, 14, 42] := by decide +kernel
theorem chX11_stop_1 : (cX11_stop.data.toList.drop 16).take 16 = [42, 182, 1, 70, 182, 1, 119, 167, 0, 4, 2, 172] := by decide +kernel
theorem dX11_stop_0 : decode cX11_stop 0 = .ok (.aload_n 0, 1) := oq_42 (byt chX11_stop_0 0 rfl)
theorem dX11_stop_1 : decode cX11_stop 1 = .ok (.iconst 0, 1) := oq_3 (byt chX11_stop_0 1 rfl)
theorem dX11_stop_2 : decode cX11_stop 2 = .ok (.putfield 90, 3) := oq_181 (byt chX11_stop_0 2 rfl) (byt chX11_stop_0 3 rfl) (byt chX11_stop_0 4 rfl) rfl
theorem dX11_stop_5 : decode cX11_stop 5 = .ok (.aload_n 0, 1) := oq_42 (byt chX11_stop_0 5 rfl)
theorem dX11_stop_6 : decode cX11_stop 6 = .ok (.iload_n 1, 1) := oq_27 (byt chX11_stop_0 6 rfl)
theorem dX11_stop_7 : decode cX11_stop 7 = .ok (.iload_n 2, 1) := oq_28 (byt chX11_stop_0 7 rfl)
theorem dX11_stop_8 : decode cX11_stop 8 = .ok (.iload_n 3, 1) := oq_29 (byt chX11_stop_0 8 rfl)
theorem dX11_stop_9 : decode cX11_stop 9 = .ok (.invokevirtual 372, 3) := oq_182 (byt chX11_stop_0 9 rfl) (byt chX11_stop_0 10 rfl) (byt chX11_stop_0 11 rfl) rfl
theorem dX11_stop_12 : decode cX11_stop 12 = .ok (.ifCond .eq 14, 3) := oq_153 (byt chX11_stop_0 12 rfl) (byt chX11_stop_0 13 rfl) (byt chX11_stop_0 14 rfl) (by decide +kernel)
theorem dX11_stop_15 : decode cX11_stop 15 = .ok (.aload_n 0, 1) := oq_42 (byt chX11_stop_0 15 rfl)
theorem dX11_stop_16 : decode cX11_stop 16 = .ok (.aload_n 0, 1) := oq_42 (byt chX11_stop_1 0 rfl)
theorem dX11_stop_17 : decode cX11_stop 17 = .ok (.invokevirtual 326, 3) := oq_182 (byt chX11_stop_1 1 rfl) (byt chX11_stop_1 2 rfl) (byt chX11_stop_1 3 rfl) rfl
theorem dX11_stop_20 : decode cX11_stop 20 = .ok (.invokevirtual 375, 3) := oq_182 (byt chX11_stop_1 4 rfl) (byt chX11_stop_1 5 rfl) (byt chX11_stop_1 6 rfl) rfl
theorem dX11_stop_23 : decode cX11_stop 23 = .ok (.goto 4, 3) := oq_167 (byt chX11_stop_1 7 rfl) (byt chX11_stop_1 8 rfl) (byt chX11_stop_1 9 rfl) (by decide +kernel)
theorem dX11_stop_26 : decode cX11_stop 26 = .ok (.iconst (-1), 1) := oq_2 (byt chX11_stop_1 10 rfl)
theorem dX11_stop_27 : decode cX11_stop 27 = .ok (.ireturn, 1) := oq_172 (byt chX11_stop_1 11 rfl)
abbrev mX11_stop : MI := (yX11_stop, cX11_stop, 4, (some .int), noE)
theorem okX11_stop : cok mX11_stop 3 := ⟨tw1569, tw11, by decide, by decide, by decide, by decide +kernel⟩
def fX11_stop (M : Mem) (a0 a1 a2 a3 : Int) : Option (Int × Mem) :=
  if M.2.1 a0 = 10 then bM (mst M a0 0 0) fun M2 => (fX11_layAll M2 a0 a1 a2 a3).bind fun r4 => if r4.1 = 0 then (some ((-1), r4.2)) else (if r4.2.2.1 a0 = 10 then (fX11_deeds r4.2 a0).bind fun r7 => (fX11_play r4.2 a0 r7).bind fun r10 => some (r10.1, r10.2) else none) else none
set_option maxRecDepth 100000 in
set_option maxHeartbeats 4000000 in
theorem kX11_stop (d : Nat) (hd : 7 ≤ d) (M : Mem) (a0 a1 a2 a3 : Int) : Ct mX11_stop d 0 0 [pA a0, pI a1, pI a2, pI a3] M dIM (fX11_stop M a0 a1 a2 a3) := by
  obtain ⟨d, rfl⟩ : ∃ k, d = k + 1 := ⟨d - 1, by omega⟩
  refine Ct.of 0 (fun _ _ _ => trivial) (by decide +kernel) rfl ?_
  unfold fX11_stop
  refine v_aload_n dX11_stop_0 rfl ?_
  refine v_iconst dX11_stop_1 (by decide) ?_
  refine v_if (fun h1 => ?_)
  refine v_put (x := 0) 10 0 rfl inX11 (by decide) tw1193 (Or.inl rfl) rfl dX11_stop_2 h1 rfl id ?_
  refine v_bM (fun M2 e3 => ?_)
  refine v_aload_n dX11_stop_5 rfl ?_
  refine v_iload_n dX11_stop_6 rfl ?_
  refine v_iload_n dX11_stop_7 rfl ?_
  refine v_iload_n dX11_stop_8 rfl ?_
  refine v_cV (mi := mX11_stop) (c0 := 0) (c1 := 0) (As := [pI a1, pI a2, pI a3]) (st := []) (kX11_layAll d (by omega) _ _ _ _ _) rfl (by rw [e3]; exact h1) rfl okX11_layAll (Or.inl tw1570) tw1572 tp66 rfl (Nat.le_of_ble_eq_true rfl) dX11_stop_9 (fun r4 => [pI r4.1]) (fun r4 => r4.2) (fun _ => rfl) (fun _ => rfl) (fun r4 h5 => ?_) rfl
  refine v_if_eq (tgt := 26) dX11_stop_12 (by decide) (fun c6 => ?_) (fun c6 => ?_)
  · refine v_iconst dX11_stop_26 (by decide) ?_
    exact v_ireturn dX11_stop_27 rfl rfl
  · refine v_aload_n dX11_stop_15 rfl ?_
    refine v_aload_n dX11_stop_16 rfl ?_
    refine v_if (fun h9 => ?_)
    refine v_cV (mi := mX11_stop) (c0 := 0) (c1 := 0) (As := []) (st := [pA a0]) (kX11_deeds d (by omega) _ _) rfl h9 rfl okX11_deeds (Or.inl tw1558) tw1560 tp64 rfl (Nat.le_of_ble_eq_true rfl) dX11_stop_17 (fun r7 => [pI r7, pA a0]) (fun r7 => r4.2) (fun _ => rfl) (fun _ => rfl) (fun r7 h8 => ?_) rfl
    refine v_cV (mi := mX11_stop) (c0 := 0) (c1 := 0) (As := [pI r7]) (st := []) (kX11_play d (by omega) _ _ _) rfl h9 rfl okX11_play (Or.inl tw1574) tw1576 tp67 rfl (Nat.le_of_ble_eq_true rfl) dX11_stop_20 (fun r10 => [pI r10.1]) (fun r10 => r10.2) (fun _ => rfl) (fun _ => rfl) (fun r10 h11 => ?_) rfl
    refine v_goto (tgt := 27) dX11_stop_23 (by decide) ?_
    exact v_ireturn dX11_stop_27 rfl rfl
theorem chX11_want_0 : (cX11_want.data.toList.drop 0).take 16 = [3, 60, 3, 61, 28, 42, 180, 1, 25, 8, 104, 162, 0, 31, 27, 3] := by decide +kernel
theorem chX11_want_1 : (cX11_want.data.toList.drop 16).take 16 = [42, 16, 32, 28, 96, 182, 1, 21, 42, 180, 0, 44, 28, 46, 100, 184] := by decide +kernel
theorem chX11_want_2 : (cX11_want.data.toList.drop 32).take 16 = [0, 163, 96, 60, 132, 2, 1, 167, 255, 221, 27, 172] := by decide +kernel
theorem dX11_want_0 : decode cX11_want 0 = .ok (.iconst 0, 1) := oq_3 (byt chX11_want_0 0 rfl)
theorem dX11_want_1 : decode cX11_want 1 = .ok (.istore_n 1, 1) := oq_60 (byt chX11_want_0 1 rfl)
theorem dX11_want_2 : decode cX11_want 2 = .ok (.iconst 0, 1) := oq_3 (byt chX11_want_0 2 rfl)
theorem dX11_want_3 : decode cX11_want 3 = .ok (.istore_n 2, 1) := oq_61 (byt chX11_want_0 3 rfl)
theorem dX11_want_4 : decode cX11_want 4 = .ok (.iload_n 2, 1) := oq_28 (byt chX11_want_0 4 rfl)
theorem dX11_want_5 : decode cX11_want 5 = .ok (.aload_n 0, 1) := oq_42 (byt chX11_want_0 5 rfl)
theorem dX11_want_6 : decode cX11_want 6 = .ok (.getfield 281, 3) := oq_180 (byt chX11_want_0 6 rfl) (byt chX11_want_0 7 rfl) (byt chX11_want_0 8 rfl) rfl
theorem dX11_want_9 : decode cX11_want 9 = .ok (.iconst 5, 1) := oq_8 (byt chX11_want_0 9 rfl)
theorem dX11_want_10 : decode cX11_want 10 = .ok (.imul, 1) := oq_104 (byt chX11_want_0 10 rfl)
theorem dX11_want_11 : decode cX11_want 11 = .ok (.if_icmp .ge 31, 3) := oq_162 (byt chX11_want_0 11 rfl) (byt chX11_want_0 12 rfl) (byt chX11_want_0 13 rfl) (by decide +kernel)
theorem dX11_want_14 : decode cX11_want 14 = .ok (.iload_n 1, 1) := oq_27 (byt chX11_want_0 14 rfl)
theorem dX11_want_15 : decode cX11_want 15 = .ok (.iconst 0, 1) := oq_3 (byt chX11_want_0 15 rfl)
theorem dX11_want_16 : decode cX11_want 16 = .ok (.aload_n 0, 1) := oq_42 (byt chX11_want_1 0 rfl)
theorem dX11_want_17 : decode cX11_want 17 = .ok (.bipush 32, 2) := oq_16 (byt chX11_want_1 1 rfl) (byt chX11_want_1 2 rfl) rfl
theorem dX11_want_19 : decode cX11_want 19 = .ok (.iload_n 2, 1) := oq_28 (byt chX11_want_1 3 rfl)
theorem dX11_want_20 : decode cX11_want 20 = .ok (.iadd, 1) := oq_96 (byt chX11_want_1 4 rfl)
theorem dX11_want_21 : decode cX11_want 21 = .ok (.invokevirtual 277, 3) := oq_182 (byt chX11_want_1 5 rfl) (byt chX11_want_1 6 rfl) (byt chX11_want_1 7 rfl) rfl
theorem dX11_want_24 : decode cX11_want 24 = .ok (.aload_n 0, 1) := oq_42 (byt chX11_want_1 8 rfl)
theorem dX11_want_25 : decode cX11_want 25 = .ok (.getfield 44, 3) := oq_180 (byt chX11_want_1 9 rfl) (byt chX11_want_1 10 rfl) (byt chX11_want_1 11 rfl) rfl
theorem dX11_want_28 : decode cX11_want 28 = .ok (.iload_n 2, 1) := oq_28 (byt chX11_want_1 12 rfl)
theorem dX11_want_29 : decode cX11_want 29 = .ok (.iaload, 1) := oq_46 (byt chX11_want_1 13 rfl)
theorem dX11_want_30 : decode cX11_want 30 = .ok (.isub, 1) := oq_100 (byt chX11_want_1 14 rfl)
theorem dX11_want_31 : decode cX11_want 31 = .ok (.invokestatic 163, 3) := oq_184 (byt chX11_want_1 15 rfl) (byt chX11_want_2 0 rfl) (byt chX11_want_2 1 rfl) rfl
theorem dX11_want_34 : decode cX11_want 34 = .ok (.iadd, 1) := oq_96 (byt chX11_want_2 2 rfl)
theorem dX11_want_35 : decode cX11_want 35 = .ok (.istore_n 1, 1) := oq_60 (byt chX11_want_2 3 rfl)
theorem dX11_want_36 : decode cX11_want 36 = .ok (.iinc 2 1, 3) := oq_132 (byt chX11_want_2 4 rfl) (byt chX11_want_2 5 rfl) (byt chX11_want_2 6 rfl) rfl
theorem dX11_want_39 : decode cX11_want 39 = .ok (.goto (-35), 3) := oq_167 (byt chX11_want_2 7 rfl) (byt chX11_want_2 8 rfl) (byt chX11_want_2 9 rfl) (by decide +kernel)
theorem dX11_want_42 : decode cX11_want 42 = .ok (.iload_n 1, 1) := oq_27 (byt chX11_want_2 10 rfl)
theorem dX11_want_43 : decode cX11_want 43 = .ok (.ireturn, 1) := oq_172 (byt chX11_want_2 11 rfl)
abbrev mX11_want : MI := (yX11_want, cX11_want, 3, (some .int), noE)
theorem okX11_want : cok mX11_want 0 := ⟨tw1640, tw11, by decide, by decide, by decide, by decide +kernel⟩
def fX11_want (M : Mem) (a0 : Int) : Option Int :=
  iterC (fun (rec1 : (Int × Int) → Option Int) (s2 : Int × Int) => if M.2.1 a0 = 10 then if s2.2 < w32 ((M.1 a0 25) * 5) then ((fX11_of M a0 (w32 (32 + s2.2))).bind fun r5 => if M.2.1 (M.1 a0 29) = 12 ∧ (0 : Int) ≤ s2.2 ∧ s2.2 < M.2.2.1 (M.1 a0 29) then (fX11_greater M 0 (w32 (r5 - (M.1 (M.1 a0 29) s2.2)))).bind fun r8 => rec1 (w32 (s2.1 + r8), w32 (s2.2 + 1)) else none) else (some s2.1) else none) BIG (0, 0)
set_option maxRecDepth 100000 in
set_option maxHeartbeats 4000000 in
theorem kX11_want (d : Nat) (hd : 1 ≤ d) (M : Mem) (a0 : Int) : Ct mX11_want d 0 0 [pA a0] M (dI M) (fX11_want M a0) := by
  obtain ⟨d, rfl⟩ : ∃ k, d = k + 1 := ⟨d - 1, by omega⟩
  refine Ct.of 2 (fun _ _ _ => trivial) (by decide +kernel) rfl ?_
  unfold fX11_want
  refine v_iconst dX11_want_0 (by decide) ?_
  refine v_istore_n (ls' := [some (pA a0), some (pI 0), none]) dX11_want_1 (by decide) rfl ?_
  refine v_iconst dX11_want_2 (by decide) ?_
  refine v_istore_n (ls' := [some (pA a0), some (pI 0), some (pI 0)]) dX11_want_3 (by decide) rfl ?_
  refine v_loop (fun (s2 : Int × Int) => [some (pA a0), some (pI s2.1), some (pI s2.2)]) (fun (s2 : Int × Int) => M) (s0 := (0, 0)) ?_
  intro rec1 hrec1 s2
  refine v_iload_n dX11_want_4 rfl ?_
  refine v_aload_n dX11_want_5 rfl ?_
  refine v_if (fun h3 => ?_)
  refine v_get (v := pI (M.1 a0 25)) 10 25 rfl inX11 (by decide) tw1218 dX11_want_6 h3 rfl ?_
  refine v_iconst dX11_want_9 (by decide) ?_
  refine v_imul dX11_want_10 ?_
  refine v_icmp_ge (tgt := 42) dX11_want_11 (by decide) (fun c4 => ?_) (fun c4 => ?_)
  · refine v_iload_n dX11_want_14 rfl ?_
    refine v_iconst dX11_want_15 (by decide) ?_
    refine v_aload_n dX11_want_16 rfl ?_
    refine v_bipush dX11_want_17 (by decide) ?_
    refine v_iload_n dX11_want_19 rfl ?_
    refine v_iadd dX11_want_20 ?_
    refine v_cV (mi := mX11_want) (c0 := 0) (c1 := 0) (As := [pI (w32 (32 + s2.2))]) (st := [pI 0, pI s2.1]) (kX11_of d (by omega) _ _ _) rfl h3 rfl okX11_of (Or.inl tw1504) tw1506 tp55 rfl (Nat.le_of_ble_eq_true rfl) dX11_want_21 (fun r5 => [pI r5, pI 0, pI s2.1]) (fun r5 => M) (fun _ => rfl) (fun _ => rfl) (fun r5 h6 => ?_) rfl
    refine v_aload_n dX11_want_24 rfl ?_
    refine v_get (v := pA (M.1 a0 29)) 10 29 rfl inX11 (by decide) tw1222 dX11_want_25 h3 rfl ?_
    refine v_iload_n dX11_want_28 rfl ?_
    refine v_if (fun h7 => ?_)
    refine v_iaload h7 dX11_want_29 ?_
    refine v_isub dX11_want_30 ?_
    refine v_cS (mi := mX11_want) (c0 := 0) (c1 := 0) (As := [pI 0, pI (w32 (r5 - (M.1 (M.1 a0 29) s2.2)))]) (st := [pI s2.1]) (kX11_greater d (by omega) _ _ _) okX11_greater (Or.inl tw1440) tw1441 rfl (Nat.le_of_ble_eq_true rfl) dX11_want_31 (fun r8 => [pI r8, pI s2.1]) (fun r8 => M) (fun _ => rfl) (fun _ => rfl) (fun r8 h9 => ?_) rfl
    refine v_iadd dX11_want_34 ?_
    refine v_istore_n (ls' := [some (pA a0), some (pI (w32 (s2.1 + r8))), some (pI s2.2)]) dX11_want_35 (by decide) rfl ?_
    refine v_iinc (ls' := [some (pA a0), some (pI (w32 (s2.1 + r8))), some (pI (w32 (s2.2 + 1)))]) dX11_want_36 (by decide) rfl rfl ?_
    refine v_goto (tgt := 4) dX11_want_39 (by decide) ?_
    exact hrec1 (w32 (s2.1 + r8), w32 (s2.2 + 1))
  · refine v_iload_n dX11_want_42 rfl ?_
    exact v_ireturn dX11_want_43 rfl rfl
theorem chX11_pious_0 : (cX11_pious.data.toList.drop 0).take 16 = [2, 60, 3, 61, 28, 42, 180, 1, 28, 162, 0, 33, 27, 2, 159, 0] := by decide +kernel
theorem chX11_pious_1 : (cX11_pious.data.toList.drop 16).take 16 = [16, 42, 28, 182, 1, 95, 42, 27, 182, 1, 95, 162, 0, 7, 28, 167] := by decide +kernel
theorem chX11_pious_2 : (cX11_pious.data.toList.drop 32).take 16 = [0, 4, 27, 60, 132, 2, 1, 167, 255, 221, 27, 172] := by decide +kernel
theorem dX11_pious_0 : decode cX11_pious 0 = .ok (.iconst (-1), 1) := oq_2 (byt chX11_pious_0 0 rfl)
theorem dX11_pious_1 : decode cX11_pious 1 = .ok (.istore_n 1, 1) := oq_60 (byt chX11_pious_0 1 rfl)
theorem dX11_pious_2 : decode cX11_pious 2 = .ok (.iconst 0, 1) := oq_3 (byt chX11_pious_0 2 rfl)
theorem dX11_pious_3 : decode cX11_pious 3 = .ok (.istore_n 2, 1) := oq_61 (byt chX11_pious_0 3 rfl)
theorem dX11_pious_4 : decode cX11_pious 4 = .ok (.iload_n 2, 1) := oq_28 (byt chX11_pious_0 4 rfl)
theorem dX11_pious_5 : decode cX11_pious 5 = .ok (.aload_n 0, 1) := oq_42 (byt chX11_pious_0 5 rfl)
theorem dX11_pious_6 : decode cX11_pious 6 = .ok (.getfield 284, 3) := oq_180 (byt chX11_pious_0 6 rfl) (byt chX11_pious_0 7 rfl) (byt chX11_pious_0 8 rfl) rfl
theorem dX11_pious_9 : decode cX11_pious 9 = .ok (.if_icmp .ge 33, 3) := oq_162 (byt chX11_pious_0 9 rfl) (byt chX11_pious_0 10 rfl) (byt chX11_pious_0 11 rfl) (by decide +kernel)
theorem dX11_pious_12 : decode cX11_pious 12 = .ok (.iload_n 1, 1) := oq_27 (byt chX11_pious_0 12 rfl)
theorem dX11_pious_13 : decode cX11_pious 13 = .ok (.iconst (-1), 1) := oq_2 (byt chX11_pious_0 13 rfl)
theorem dX11_pious_14 : decode cX11_pious 14 = .ok (.if_icmp .eq 16, 3) := oq_159 (byt chX11_pious_0 14 rfl) (byt chX11_pious_0 15 rfl) (byt chX11_pious_1 0 rfl) (by decide +kernel)
theorem dX11_pious_17 : decode cX11_pious 17 = .ok (.aload_n 0, 1) := oq_42 (byt chX11_pious_1 1 rfl)
theorem dX11_pious_18 : decode cX11_pious 18 = .ok (.iload_n 2, 1) := oq_28 (byt chX11_pious_1 2 rfl)
theorem dX11_pious_19 : decode cX11_pious 19 = .ok (.invokevirtual 351, 3) := oq_182 (byt chX11_pious_1 3 rfl) (byt chX11_pious_1 4 rfl) (byt chX11_pious_1 5 rfl) rfl
theorem dX11_pious_22 : decode cX11_pious 22 = .ok (.aload_n 0, 1) := oq_42 (byt chX11_pious_1 6 rfl)
theorem dX11_pious_23 : decode cX11_pious 23 = .ok (.iload_n 1, 1) := oq_27 (byt chX11_pious_1 7 rfl)
theorem dX11_pious_24 : decode cX11_pious 24 = .ok (.invokevirtual 351, 3) := oq_182 (byt chX11_pious_1 8 rfl) (byt chX11_pious_1 9 rfl) (byt chX11_pious_1 10 rfl) rfl
theorem dX11_pious_27 : decode cX11_pious 27 = .ok (.if_icmp .ge 7, 3) := oq_162 (byt chX11_pious_1 11 rfl) (byt chX11_pious_1 12 rfl) (byt chX11_pious_1 13 rfl) (by decide +kernel)
theorem dX11_pious_30 : decode cX11_pious 30 = .ok (.iload_n 2, 1) := oq_28 (byt chX11_pious_1 14 rfl)
theorem dX11_pious_31 : decode cX11_pious 31 = .ok (.goto 4, 3) := oq_167 (byt chX11_pious_1 15 rfl) (byt chX11_pious_2 0 rfl) (byt chX11_pious_2 1 rfl) (by decide +kernel)
theorem dX11_pious_34 : decode cX11_pious 34 = .ok (.iload_n 1, 1) := oq_27 (byt chX11_pious_2 2 rfl)
theorem dX11_pious_35 : decode cX11_pious 35 = .ok (.istore_n 1, 1) := oq_60 (byt chX11_pious_2 3 rfl)
theorem dX11_pious_36 : decode cX11_pious 36 = .ok (.iinc 2 1, 3) := oq_132 (byt chX11_pious_2 4 rfl) (byt chX11_pious_2 5 rfl) (byt chX11_pious_2 6 rfl) rfl
theorem dX11_pious_39 : decode cX11_pious 39 = .ok (.goto (-35), 3) := oq_167 (byt chX11_pious_2 7 rfl) (byt chX11_pious_2 8 rfl) (byt chX11_pious_2 9 rfl) (by decide +kernel)
theorem dX11_pious_42 : decode cX11_pious 42 = .ok (.iload_n 1, 1) := oq_27 (byt chX11_pious_2 10 rfl)
theorem dX11_pious_43 : decode cX11_pious 43 = .ok (.ireturn, 1) := oq_172 (byt chX11_pious_2 11 rfl)
abbrev mX11_pious : MI := (yX11_pious, cX11_pious, 3, (some .int), noE)
theorem okX11_pious : cok mX11_pious 0 := ⟨tw1644, tw11, by decide, by decide, by decide, by decide +kernel⟩
def fX11_pious (M : Mem) (a0 : Int) : Option Int :=
  iterC (fun (rec1 : (Int × Int) → Option Int) (s2 : Int × Int) => if M.2.1 a0 = 10 then if s2.2 < M.1 a0 26 then (if s2.1 = (-1) then (rec1 (s2.2, w32 (s2.2 + 1))) else ((fX11_owes M a0 s2.2).bind fun r6 => (fX11_owes M a0 s2.1).bind fun r8 => if r6 < r8 then (rec1 (s2.2, w32 (s2.2 + 1))) else (rec1 (s2.1, w32 (s2.2 + 1))))) else (some s2.1) else none) BIG ((-1), 0)
set_option maxRecDepth 100000 in
set_option maxHeartbeats 4000000 in
theorem kX11_pious (d : Nat) (hd : 2 ≤ d) (M : Mem) (a0 : Int) : Ct mX11_pious d 0 0 [pA a0] M (dI M) (fX11_pious M a0) := by
  obtain ⟨d, rfl⟩ : ∃ k, d = k + 1 := ⟨d - 1, by omega⟩
  refine Ct.of 2 (fun _ _ _ => trivial) (by decide +kernel) rfl ?_
  unfold fX11_pious
  refine v_iconst dX11_pious_0 (by decide) ?_
  refine v_istore_n (ls' := [some (pA a0), some (pI (-1)), none]) dX11_pious_1 (by decide) rfl ?_
  refine v_iconst dX11_pious_2 (by decide) ?_
  refine v_istore_n (ls' := [some (pA a0), some (pI (-1)), some (pI 0)]) dX11_pious_3 (by decide) rfl ?_
  refine v_loop (fun (s2 : Int × Int) => [some (pA a0), some (pI s2.1), some (pI s2.2)]) (fun (s2 : Int × Int) => M) (s0 := ((-1), 0)) ?_
  intro rec1 hrec1 s2
  refine v_iload_n dX11_pious_4 rfl ?_
  refine v_aload_n dX11_pious_5 rfl ?_
  refine v_if (fun h3 => ?_)
  refine v_get (v := pI (M.1 a0 26)) 10 26 rfl inX11 (by decide) tw1219 dX11_pious_6 h3 rfl ?_
  refine v_icmp_ge (tgt := 42) dX11_pious_9 (by decide) (fun c4 => ?_) (fun c4 => ?_)
  · refine v_iload_n dX11_pious_12 rfl ?_
    refine v_iconst dX11_pious_13 (by decide) ?_
    refine v_icmp_eq (tgt := 30) dX11_pious_14 (by decide) (fun c5 => ?_) (fun c5 => ?_)
    · refine v_iload_n dX11_pious_30 rfl ?_
      refine v_goto (tgt := 35) dX11_pious_31 (by decide) ?_
      refine v_istore_n (ls' := [some (pA a0), some (pI s2.2), some (pI s2.2)]) dX11_pious_35 (by decide) rfl ?_
      refine v_iinc (ls' := [some (pA a0), some (pI s2.2), some (pI (w32 (s2.2 + 1)))]) dX11_pious_36 (by decide) rfl rfl ?_
      refine v_goto (tgt := 4) dX11_pious_39 (by decide) ?_
      exact hrec1 (s2.2, w32 (s2.2 + 1))
    · refine v_aload_n dX11_pious_17 rfl ?_
      refine v_iload_n dX11_pious_18 rfl ?_
      refine v_cV (mi := mX11_pious) (c0 := 0) (c1 := 0) (As := [pI s2.2]) (st := []) (kX11_owes d (by omega) _ _ _) rfl h3 rfl okX11_owes (Or.inl tw1609) tw1611 tp75 rfl (Nat.le_of_ble_eq_true rfl) dX11_pious_19 (fun r6 => [pI r6]) (fun r6 => M) (fun _ => rfl) (fun _ => rfl) (fun r6 h7 => ?_) rfl
      refine v_aload_n dX11_pious_22 rfl ?_
      refine v_iload_n dX11_pious_23 rfl ?_
      refine v_cV (mi := mX11_pious) (c0 := 0) (c1 := 0) (As := [pI s2.1]) (st := [pI r6]) (kX11_owes d (by omega) _ _ _) rfl h3 rfl okX11_owes (Or.inl tw1609) tw1611 tp75 rfl (Nat.le_of_ble_eq_true rfl) dX11_pious_24 (fun r8 => [pI r8, pI r6]) (fun r8 => M) (fun _ => rfl) (fun _ => rfl) (fun r8 h9 => ?_) rfl
      refine v_icmp_ge (tgt := 34) dX11_pious_27 (by decide) (fun c10 => ?_) (fun c10 => ?_)
      · refine v_iload_n dX11_pious_30 rfl ?_
        refine v_goto (tgt := 35) dX11_pious_31 (by decide) ?_
        refine v_istore_n (ls' := [some (pA a0), some (pI s2.2), some (pI s2.2)]) dX11_pious_35 (by decide) rfl ?_
        refine v_iinc (ls' := [some (pA a0), some (pI s2.2), some (pI (w32 (s2.2 + 1)))]) dX11_pious_36 (by decide) rfl rfl ?_
        refine v_goto (tgt := 4) dX11_pious_39 (by decide) ?_
        exact hrec1 (s2.2, w32 (s2.2 + 1))
      · refine v_iload_n dX11_pious_34 rfl ?_
        refine v_istore_n (ls' := [some (pA a0), some (pI s2.1), some (pI s2.2)]) dX11_pious_35 (by decide) rfl ?_
        refine v_iinc (ls' := [some (pA a0), some (pI s2.1), some (pI (w32 (s2.2 + 1)))]) dX11_pious_36 (by decide) rfl rfl ?_
        refine v_goto (tgt := 4) dX11_pious_39 (by decide) ?_
        exact hrec1 (s2.1, w32 (s2.2 + 1))
  · refine v_iload_n dX11_pious_42 rfl ?_
    exact v_ireturn dX11_pious_43 rfl rfl
theorem chX11_queued_0 : (cX11_queued.data.toList.drop 0).take 16 = [3, 61, 28, 42, 180, 1, 28, 162, 0, 77, 3, 62, 3, 54, 4, 21] := by decide +kernel
theorem chX11_queued_1 : (cX11_queued.data.toList.drop 16).take 16 = [4, 42, 180, 1, 28, 162, 0, 42, 29, 42, 21, 4, 182, 1, 122, 158] := by decide +kernel
theorem chX11_queued_2 : (cX11_queued.data.toList.drop 32).take 16 = [0, 23, 42, 180, 0, 71, 21, 4, 46, 42, 180, 0, 71, 28, 46, 162] := by decide +kernel
theorem chX11_queued_3 : (cX11_queued.data.toList.drop 48).take 16 = [0, 7, 4, 167, 0, 4, 3, 96, 62, 132, 4, 1, 167, 255, 211, 42] := by decide +kernel
theorem chX11_queued_4 : (cX11_queued.data.toList.drop 64).take 16 = [28, 182, 1, 122, 158, 0, 10, 29, 27, 160, 0, 5, 28, 172, 132, 2] := by decide +kernel
theorem chX11_queued_5 : (cX11_queued.data.toList.drop 80).take 16 = [1, 167, 255, 177, 2, 172] := by decide +kernel
theorem dX11_queued_0 : decode cX11_queued 0 = .ok (.iconst 0, 1) := oq_3 (byt chX11_queued_0 0 rfl)
theorem dX11_queued_1 : decode cX11_queued 1 = .ok (.istore_n 2, 1) := oq_61 (byt chX11_queued_0 1 rfl)
theorem dX11_queued_2 : decode cX11_queued 2 = .ok (.iload_n 2, 1) := oq_28 (byt chX11_queued_0 2 rfl)
theorem dX11_queued_3 : decode cX11_queued 3 = .ok (.aload_n 0, 1) := oq_42 (byt chX11_queued_0 3 rfl)
theorem dX11_queued_4 : decode cX11_queued 4 = .ok (.getfield 284, 3) := oq_180 (byt chX11_queued_0 4 rfl) (byt chX11_queued_0 5 rfl) (byt chX11_queued_0 6 rfl) rfl
theorem dX11_queued_7 : decode cX11_queued 7 = .ok (.if_icmp .ge 77, 3) := oq_162 (byt chX11_queued_0 7 rfl) (byt chX11_queued_0 8 rfl) (byt chX11_queued_0 9 rfl) (by decide +kernel)
theorem dX11_queued_10 : decode cX11_queued 10 = .ok (.iconst 0, 1) := oq_3 (byt chX11_queued_0 10 rfl)
theorem dX11_queued_11 : decode cX11_queued 11 = .ok (.istore_n 3, 1) := oq_62 (byt chX11_queued_0 11 rfl)
theorem dX11_queued_12 : decode cX11_queued 12 = .ok (.iconst 0, 1) := oq_3 (byt chX11_queued_0 12 rfl)
theorem dX11_queued_13 : decode cX11_queued 13 = .ok (.istore 4, 2) := oq_54 (byt chX11_queued_0 13 rfl) (byt chX11_queued_0 14 rfl) rfl
theorem dX11_queued_15 : decode cX11_queued 15 = .ok (.iload 4, 2) := oq_21 (byt chX11_queued_0 15 rfl) (byt chX11_queued_1 0 rfl) rfl
theorem dX11_queued_17 : decode cX11_queued 17 = .ok (.aload_n 0, 1) := oq_42 (byt chX11_queued_1 1 rfl)
theorem dX11_queued_18 : decode cX11_queued 18 = .ok (.getfield 284, 3) := oq_180 (byt chX11_queued_1 2 rfl) (byt chX11_queued_1 3 rfl) (byt chX11_queued_1 4 rfl) rfl
theorem dX11_queued_21 : decode cX11_queued 21 = .ok (.if_icmp .ge 42, 3) := oq_162 (byt chX11_queued_1 5 rfl) (byt chX11_queued_1 6 rfl) (byt chX11_queued_1 7 rfl) (by decide +kernel)
theorem dX11_queued_24 : decode cX11_queued 24 = .ok (.iload_n 3, 1) := oq_29 (byt chX11_queued_1 8 rfl)
theorem dX11_queued_25 : decode cX11_queued 25 = .ok (.aload_n 0, 1) := oq_42 (byt chX11_queued_1 9 rfl)
theorem dX11_queued_26 : decode cX11_queued 26 = .ok (.iload 4, 2) := oq_21 (byt chX11_queued_1 10 rfl) (byt chX11_queued_1 11 rfl) rfl
theorem dX11_queued_28 : decode cX11_queued 28 = .ok (.invokevirtual 378, 3) := oq_182 (byt chX11_queued_1 12 rfl) (byt chX11_queued_1 13 rfl) (byt chX11_queued_1 14 rfl) rfl
theorem dX11_queued_31 : decode cX11_queued 31 = .ok (.ifCond .le 23, 3) := oq_158 (byt chX11_queued_1 15 rfl) (byt chX11_queued_2 0 rfl) (byt chX11_queued_2 1 rfl) (by decide +kernel)
theorem dX11_queued_34 : decode cX11_queued 34 = .ok (.aload_n 0, 1) := oq_42 (byt chX11_queued_2 2 rfl)
theorem dX11_queued_35 : decode cX11_queued 35 = .ok (.getfield 71, 3) := oq_180 (byt chX11_queued_2 3 rfl) (byt chX11_queued_2 4 rfl) (byt chX11_queued_2 5 rfl) rfl
theorem dX11_queued_38 : decode cX11_queued 38 = .ok (.iload 4, 2) := oq_21 (byt chX11_queued_2 6 rfl) (byt chX11_queued_2 7 rfl) rfl
theorem dX11_queued_40 : decode cX11_queued 40 = .ok (.iaload, 1) := oq_46 (byt chX11_queued_2 8 rfl)
theorem dX11_queued_41 : decode cX11_queued 41 = .ok (.aload_n 0, 1) := oq_42 (byt chX11_queued_2 9 rfl)
theorem dX11_queued_42 : decode cX11_queued 42 = .ok (.getfield 71, 3) := oq_180 (byt chX11_queued_2 10 rfl) (byt chX11_queued_2 11 rfl) (byt chX11_queued_2 12 rfl) rfl
theorem dX11_queued_45 : decode cX11_queued 45 = .ok (.iload_n 2, 1) := oq_28 (byt chX11_queued_2 13 rfl)
theorem dX11_queued_46 : decode cX11_queued 46 = .ok (.iaload, 1) := oq_46 (byt chX11_queued_2 14 rfl)
theorem dX11_queued_47 : decode cX11_queued 47 = .ok (.if_icmp .ge 7, 3) := oq_162 (byt chX11_queued_2 15 rfl) (byt chX11_queued_3 0 rfl) (byt chX11_queued_3 1 rfl) (by decide +kernel)
theorem dX11_queued_50 : decode cX11_queued 50 = .ok (.iconst 1, 1) := oq_4 (byt chX11_queued_3 2 rfl)
theorem dX11_queued_51 : decode cX11_queued 51 = .ok (.goto 4, 3) := oq_167 (byt chX11_queued_3 3 rfl) (byt chX11_queued_3 4 rfl) (byt chX11_queued_3 5 rfl) (by decide +kernel)
theorem dX11_queued_54 : decode cX11_queued 54 = .ok (.iconst 0, 1) := oq_3 (byt chX11_queued_3 6 rfl)
theorem dX11_queued_55 : decode cX11_queued 55 = .ok (.iadd, 1) := oq_96 (byt chX11_queued_3 7 rfl)
theorem dX11_queued_56 : decode cX11_queued 56 = .ok (.istore_n 3, 1) := oq_62 (byt chX11_queued_3 8 rfl)
theorem dX11_queued_57 : decode cX11_queued 57 = .ok (.iinc 4 1, 3) := oq_132 (byt chX11_queued_3 9 rfl) (byt chX11_queued_3 10 rfl) (byt chX11_queued_3 11 rfl) rfl
theorem dX11_queued_60 : decode cX11_queued 60 = .ok (.goto (-45), 3) := oq_167 (byt chX11_queued_3 12 rfl) (byt chX11_queued_3 13 rfl) (byt chX11_queued_3 14 rfl) (by decide +kernel)
theorem dX11_queued_63 : decode cX11_queued 63 = .ok (.aload_n 0, 1) := oq_42 (byt chX11_queued_3 15 rfl)
theorem dX11_queued_64 : decode cX11_queued 64 = .ok (.iload_n 2, 1) := oq_28 (byt chX11_queued_4 0 rfl)
theorem dX11_queued_65 : decode cX11_queued 65 = .ok (.invokevirtual 378, 3) := oq_182 (byt chX11_queued_4 1 rfl) (byt chX11_queued_4 2 rfl) (byt chX11_queued_4 3 rfl) rfl
theorem dX11_queued_68 : decode cX11_queued 68 = .ok (.ifCond .le 10, 3) := oq_158 (byt chX11_queued_4 4 rfl) (byt chX11_queued_4 5 rfl) (byt chX11_queued_4 6 rfl) (by decide +kernel)
theorem dX11_queued_71 : decode cX11_queued 71 = .ok (.iload_n 3, 1) := oq_29 (byt chX11_queued_4 7 rfl)
theorem dX11_queued_72 : decode cX11_queued 72 = .ok (.iload_n 1, 1) := oq_27 (byt chX11_queued_4 8 rfl)
theorem dX11_queued_73 : decode cX11_queued 73 = .ok (.if_icmp .ne 5, 3) := oq_160 (byt chX11_queued_4 9 rfl) (byt chX11_queued_4 10 rfl) (byt chX11_queued_4 11 rfl) (by decide +kernel)
theorem dX11_queued_76 : decode cX11_queued 76 = .ok (.iload_n 2, 1) := oq_28 (byt chX11_queued_4 12 rfl)
theorem dX11_queued_77 : decode cX11_queued 77 = .ok (.ireturn, 1) := oq_172 (byt chX11_queued_4 13 rfl)
theorem dX11_queued_78 : decode cX11_queued 78 = .ok (.iinc 2 1, 3) := oq_132 (byt chX11_queued_4 14 rfl) (byt chX11_queued_4 15 rfl) (byt chX11_queued_5 0 rfl) rfl
theorem dX11_queued_81 : decode cX11_queued 81 = .ok (.goto (-79), 3) := oq_167 (byt chX11_queued_5 1 rfl) (byt chX11_queued_5 2 rfl) (byt chX11_queued_5 3 rfl) (by decide +kernel)
theorem dX11_queued_84 : decode cX11_queued 84 = .ok (.iconst (-1), 1) := oq_2 (byt chX11_queued_5 4 rfl)
theorem dX11_queued_85 : decode cX11_queued 85 = .ok (.ireturn, 1) := oq_172 (byt chX11_queued_5 5 rfl)
abbrev mX11_queued : MI := (yX11_queued, cX11_queued, 5, (some .int), noE)
theorem okX11_queued : cok mX11_queued 1 := ⟨tw1628, tw11, by decide, by decide, by decide, by decide +kernel⟩
def fX11_queued (M : Mem) (a0 a1 : Int) : Option Int :=
  iterC (fun (rec1 : Int → Option Int) (s2 : Int) => if M.2.1 a0 = 10 then if s2 < M.1 a0 26 then (iterC (fun (rec5 : (Int × Int) → Option Int) (s6 : Int × Int) => if s6.2 < M.1 a0 26 then ((fX11_odd M a0 s6.2).bind fun r8 => if 0 < r8 then (if M.2.1 (M.1 a0 38) = 12 ∧ (0 : Int) ≤ s6.2 ∧ s6.2 < M.2.2.1 (M.1 a0 38) then if M.2.1 (M.1 a0 38) = 12 ∧ (0 : Int) ≤ s2 ∧ s2 < M.2.2.1 (M.1 a0 38) then if M.1 (M.1 a0 38) s6.2 < M.1 (M.1 a0 38) s2 then (rec5 (w32 (s6.1 + 1), w32 (s6.2 + 1))) else (rec5 (w32 (s6.1 + 0), w32 (s6.2 + 1))) else none else none) else (rec5 (w32 (s6.1 + 0), w32 (s6.2 + 1)))) else ((fX11_odd M a0 s2).bind fun r14 => if 0 < r14 then (if s6.1 = a1 then (some s2) else (rec1 (w32 (s2 + 1)))) else (rec1 (w32 (s2 + 1))))) BIG (0, 0)) else (some (-1)) else none) BIG 0
set_option maxRecDepth 100000 in
set_option maxHeartbeats 4000000 in
theorem kX11_queued (d : Nat) (hd : 2 ≤ d) (M : Mem) (a0 a1 : Int) : Ct mX11_queued d 0 0 [pA a0, pI a1] M (dI M) (fX11_queued M a0 a1) := by
  obtain ⟨d, rfl⟩ : ∃ k, d = k + 1 := ⟨d - 1, by omega⟩
  refine Ct.of 3 (fun _ _ _ => trivial) (by decide +kernel) rfl ?_
  unfold fX11_queued
  refine v_iconst dX11_queued_0 (by decide) ?_
  refine v_istore_n (ls' := [some (pA a0), some (pI a1), some (pI 0), none, none]) dX11_queued_1 (by decide) rfl ?_
  refine v_loop (fun (s2 : Int) => [some (pA a0), some (pI a1), some (pI s2), none, none]) (fun (s2 : Int) => M) (s0 := 0) ?_
  intro rec1 hrec1 s2
  refine v_iload_n dX11_queued_2 rfl ?_
  refine v_aload_n dX11_queued_3 rfl ?_
  refine v_if (fun h3 => ?_)
  refine v_get (v := pI (M.1 a0 26)) 10 26 rfl inX11 (by decide) tw1219 dX11_queued_4 h3 rfl ?_
  refine v_icmp_ge (tgt := 84) dX11_queued_7 (by decide) (fun c4 => ?_) (fun c4 => ?_)
  · refine v_iconst dX11_queued_10 (by decide) ?_
    refine v_istore_n (ls' := [some (pA a0), some (pI a1), some (pI s2), some (pI 0), none]) dX11_queued_11 (by decide) rfl ?_
    refine v_iconst dX11_queued_12 (by decide) ?_
    refine v_istore (ls' := [some (pA a0), some (pI a1), some (pI s2), some (pI 0), some (pI 0)]) dX11_queued_13 (by decide) rfl ?_
    refine v_loop (fun (s6 : Int × Int) => [some (pA a0), some (pI a1), some (pI s2), some (pI s6.1), some (pI s6.2)]) (fun (s6 : Int × Int) => M) (s0 := (0, 0)) ?_
    intro rec5 hrec5 s6
    refine v_iload dX11_queued_15 rfl ?_
    refine v_aload_n dX11_queued_17 rfl ?_
    refine v_get (v := pI (M.1 a0 26)) 10 26 rfl inX11 (by decide) tw1219 dX11_queued_18 h3 rfl ?_
    refine v_icmp_ge (tgt := 63) dX11_queued_21 (by decide) (fun c7 => ?_) (fun c7 => ?_)
    · refine v_iload_n dX11_queued_24 rfl ?_
      refine v_aload_n dX11_queued_25 rfl ?_
      refine v_iload dX11_queued_26 rfl ?_
      refine v_cV (mi := mX11_queued) (c0 := 0) (c1 := 0) (As := [pI s6.2]) (st := [pI s6.1]) (kX11_odd d (by omega) _ _ _) rfl h3 rfl okX11_odd (Or.inl tw1629) tw1631 tp79 rfl (Nat.le_of_ble_eq_true rfl) dX11_queued_28 (fun r8 => [pI r8, pI s6.1]) (fun r8 => M) (fun _ => rfl) (fun _ => rfl) (fun r8 h9 => ?_) rfl
      refine v_if_le (tgt := 54) dX11_queued_31 (by decide) (fun c10 => ?_) (fun c10 => ?_)
      · refine v_aload_n dX11_queued_34 rfl ?_
        refine v_get (v := pA (M.1 a0 38)) 10 38 rfl inX11 (by decide) tw1231 dX11_queued_35 h3 rfl ?_
        refine v_iload dX11_queued_38 rfl ?_
        refine v_if (fun h11 => ?_)
        refine v_iaload h11 dX11_queued_40 ?_
        refine v_aload_n dX11_queued_41 rfl ?_
        refine v_get (v := pA (M.1 a0 38)) 10 38 rfl inX11 (by decide) tw1231 dX11_queued_42 h3 rfl ?_
        refine v_iload_n dX11_queued_45 rfl ?_
        refine v_if (fun h12 => ?_)
        refine v_iaload h12 dX11_queued_46 ?_
        refine v_icmp_ge (tgt := 54) dX11_queued_47 (by decide) (fun c13 => ?_) (fun c13 => ?_)
        · refine v_iconst dX11_queued_50 (by decide) ?_
          refine v_goto (tgt := 55) dX11_queued_51 (by decide) ?_
          refine v_iadd dX11_queued_55 ?_
          refine v_istore_n (ls' := [some (pA a0), some (pI a1), some (pI s2), some (pI (w32 (s6.1 + 1))), some (pI s6.2)]) dX11_queued_56 (by decide) rfl ?_
          refine v_iinc (ls' := [some (pA a0), some (pI a1), some (pI s2), some (pI (w32 (s6.1 + 1))), some (pI (w32 (s6.2 + 1)))]) dX11_queued_57 (by decide) rfl rfl ?_
          refine v_goto (tgt := 15) dX11_queued_60 (by decide) ?_
          exact hrec5 (w32 (s6.1 + 1), w32 (s6.2 + 1))
        · refine v_iconst dX11_queued_54 (by decide) ?_
          refine v_iadd dX11_queued_55 ?_
          refine v_istore_n (ls' := [some (pA a0), some (pI a1), some (pI s2), some (pI (w32 (s6.1 + 0))), some (pI s6.2)]) dX11_queued_56 (by decide) rfl ?_
          refine v_iinc (ls' := [some (pA a0), some (pI a1), some (pI s2), some (pI (w32 (s6.1 + 0))), some (pI (w32 (s6.2 + 1)))]) dX11_queued_57 (by decide) rfl rfl ?_
          refine v_goto (tgt := 15) dX11_queued_60 (by decide) ?_
          exact hrec5 (w32 (s6.1 + 0), w32 (s6.2 + 1))
      · refine v_iconst dX11_queued_54 (by decide) ?_
        refine v_iadd dX11_queued_55 ?_
        refine v_istore_n (ls' := [some (pA a0), some (pI a1), some (pI s2), some (pI (w32 (s6.1 + 0))), some (pI s6.2)]) dX11_queued_56 (by decide) rfl ?_
        refine v_iinc (ls' := [some (pA a0), some (pI a1), some (pI s2), some (pI (w32 (s6.1 + 0))), some (pI (w32 (s6.2 + 1)))]) dX11_queued_57 (by decide) rfl rfl ?_
        refine v_goto (tgt := 15) dX11_queued_60 (by decide) ?_
        exact hrec5 (w32 (s6.1 + 0), w32 (s6.2 + 1))
    · refine v_aload_n dX11_queued_63 rfl ?_
      refine v_iload_n dX11_queued_64 rfl ?_
      refine v_cV (mi := mX11_queued) (c0 := 0) (c1 := 0) (As := [pI s2]) (st := []) (kX11_odd d (by omega) _ _ _) rfl h3 rfl okX11_odd (Or.inl tw1629) tw1631 tp79 rfl (Nat.le_of_ble_eq_true rfl) dX11_queued_65 (fun r14 => [pI r14]) (fun r14 => M) (fun _ => rfl) (fun _ => rfl) (fun r14 h15 => ?_) rfl
      refine v_if_le (tgt := 78) dX11_queued_68 (by decide) (fun c16 => ?_) (fun c16 => ?_)
      · refine v_iload_n dX11_queued_71 rfl ?_
        refine v_iload_n dX11_queued_72 rfl ?_
        refine v_icmp_ne (tgt := 78) dX11_queued_73 (by decide) (fun c17 => ?_) (fun c17 => ?_)
        · refine v_iload_n dX11_queued_76 rfl ?_
          exact v_ireturn dX11_queued_77 rfl rfl
        · refine v_iinc (ls' := [some (pA a0), some (pI a1), some (pI (w32 (s2 + 1))), some (pI s6.1), some (pI s6.2)]) dX11_queued_78 (by decide) rfl rfl ?_
          refine v_goto (tgt := 2) dX11_queued_81 (by decide) ?_
          exact v_drop [some (pA a0), some (pI a1), some (pI (w32 (s2 + 1))), none, none] (ls_s (ls_s (ls_s (ls_n (ls_n ls_e))))) (hrec1 (w32 (s2 + 1)))
      · refine v_iinc (ls' := [some (pA a0), some (pI a1), some (pI (w32 (s2 + 1))), some (pI s6.1), some (pI s6.2)]) dX11_queued_78 (by decide) rfl rfl ?_
        refine v_goto (tgt := 2) dX11_queued_81 (by decide) ?_
        exact v_drop [some (pA a0), some (pI a1), some (pI (w32 (s2 + 1))), none, none] (ls_s (ls_s (ls_s (ls_n (ls_n ls_e))))) (hrec1 (w32 (s2 + 1)))
  · refine v_iconst dX11_queued_84 (by decide) ?_
    exact v_ireturn dX11_queued_85 rfl rfl
theorem chX11_ofEach_0 : (cX11_ofEach.data.toList.drop 0).take 16 = [27, 16, 10, 112, 61, 27, 16, 10, 108, 16, 6, 160, 0, 24, 42, 28] := by decide +kernel
theorem chX11_ofEach_1 : (cX11_ofEach.data.toList.drop 16).take 16 = [182, 1, 34, 153, 0, 12, 42, 180, 0, 74, 28, 46, 167, 0, 6, 17] := by decide +kernel
theorem chX11_ofEach_2 : (cX11_ofEach.data.toList.drop 32).take 16 = [252, 24, 172, 42, 28, 182, 1, 40, 154, 0, 7, 17, 252, 24, 172, 27] := by decide +kernel
theorem chX11_ofEach_3 : (cX11_ofEach.data.toList.drop 48).take 16 = [16, 10, 108, 170, 0, 0, 0, 56, 0, 0, 0, 2, 0, 0, 0, 5] := by decide +kernel
theorem chX11_ofEach_5 : (cX11_ofEach.data.toList.drop 80).take 16 = [42, 180, 0, 62, 28, 46, 172, 42, 180, 0, 65, 28, 46, 172, 42, 28] := by decide +kernel
theorem chX11_ofEach_6 : (cX11_ofEach.data.toList.drop 96).take 16 = [182, 1, 95, 172, 42, 180, 0, 68, 28, 46, 172, 17, 252, 24, 172] := by decide +kernel
theorem dX11_ofEach_0 : decode cX11_ofEach 0 = .ok (.iload_n 1, 1) := oq_27 (byt chX11_ofEach_0 0 rfl)
theorem dX11_ofEach_1 : decode cX11_ofEach 1 = .ok (.bipush 10, 2) := oq_16 (byt chX11_ofEach_0 1 rfl) (byt chX11_ofEach_0 2 rfl) rfl
theorem dX11_ofEach_3 : decode cX11_ofEach 3 = .ok (.irem, 1) := oq_112 (byt chX11_ofEach_0 3 rfl)
theorem dX11_ofEach_4 : decode cX11_ofEach 4 = .ok (.istore_n 2, 1) := oq_61 (byt chX11_ofEach_0 4 rfl)
theorem dX11_ofEach_5 : decode cX11_ofEach 5 = .ok (.iload_n 1, 1) := oq_27 (byt chX11_ofEach_0 5 rfl)
theorem dX11_ofEach_6 : decode cX11_ofEach 6 = .ok (.bipush 10, 2) := oq_16 (byt chX11_ofEach_0 6 rfl) (byt chX11_ofEach_0 7 rfl) rfl
theorem dX11_ofEach_8 : decode cX11_ofEach 8 = .ok (.idiv, 1) := oq_108 (byt chX11_ofEach_0 8 rfl)
theorem dX11_ofEach_9 : decode cX11_ofEach 9 = .ok (.bipush 6, 2) := oq_16 (byt chX11_ofEach_0 9 rfl) (byt chX11_ofEach_0 10 rfl) rfl
theorem dX11_ofEach_11 : decode cX11_ofEach 11 = .ok (.if_icmp .ne 24, 3) := oq_160 (byt chX11_ofEach_0 11 rfl) (byt chX11_ofEach_0 12 rfl) (byt chX11_ofEach_0 13 rfl) (by decide +kernel)
theorem dX11_ofEach_14 : decode cX11_ofEach 14 = .ok (.aload_n 0, 1) := oq_42 (byt chX11_ofEach_0 14 rfl)
theorem dX11_ofEach_15 : decode cX11_ofEach 15 = .ok (.iload_n 2, 1) := oq_28 (byt chX11_ofEach_0 15 rfl)
theorem dX11_ofEach_16 : decode cX11_ofEach 16 = .ok (.invokevirtual 290, 3) := oq_182 (byt chX11_ofEach_1 0 rfl) (byt chX11_ofEach_1 1 rfl) (byt chX11_ofEach_1 2 rfl) rfl
theorem dX11_ofEach_19 : decode cX11_ofEach 19 = .ok (.ifCond .eq 12, 3) := oq_153 (byt chX11_ofEach_1 3 rfl) (byt chX11_ofEach_1 4 rfl) (byt chX11_ofEach_1 5 rfl) (by decide +kernel)
theorem dX11_ofEach_22 : decode cX11_ofEach 22 = .ok (.aload_n 0, 1) := oq_42 (byt chX11_ofEach_1 6 rfl)
theorem dX11_ofEach_23 : decode cX11_ofEach 23 = .ok (.getfield 74, 3) := oq_180 (byt chX11_ofEach_1 7 rfl) (byt chX11_ofEach_1 8 rfl) (byt chX11_ofEach_1 9 rfl) rfl
theorem dX11_ofEach_26 : decode cX11_ofEach 26 = .ok (.iload_n 2, 1) := oq_28 (byt chX11_ofEach_1 10 rfl)
theorem dX11_ofEach_27 : decode cX11_ofEach 27 = .ok (.iaload, 1) := oq_46 (byt chX11_ofEach_1 11 rfl)
theorem dX11_ofEach_28 : decode cX11_ofEach 28 = .ok (.goto 6, 3) := oq_167 (byt chX11_ofEach_1 12 rfl) (byt chX11_ofEach_1 13 rfl) (byt chX11_ofEach_1 14 rfl) (by decide +kernel)
theorem dX11_ofEach_31 : decode cX11_ofEach 31 = .ok (.sipush (-1000), 3) := oq_17 (byt chX11_ofEach_1 15 rfl) (byt chX11_ofEach_2 0 rfl) (byt chX11_ofEach_2 1 rfl) (by decide +kernel)
theorem dX11_ofEach_34 : decode cX11_ofEach 34 = .ok (.ireturn, 1) := oq_172 (byt chX11_ofEach_2 2 rfl)
theorem dX11_ofEach_35 : decode cX11_ofEach 35 = .ok (.aload_n 0, 1) := oq_42 (byt chX11_ofEach_2 3 rfl)
theorem dX11_ofEach_36 : decode cX11_ofEach 36 = .ok (.iload_n 2, 1) := oq_28 (byt chX11_ofEach_2 4 rfl)
theorem dX11_ofEach_37 : decode cX11_ofEach 37 = .ok (.invokevirtual 296, 3) := oq_182 (byt chX11_ofEach_2 5 rfl) (byt chX11_ofEach_2 6 rfl) (byt chX11_ofEach_2 7 rfl) rfl
theorem dX11_ofEach_40 : decode cX11_ofEach 40 = .ok (.ifCond .ne 7, 3) := oq_154 (byt chX11_ofEach_2 8 rfl) (byt chX11_ofEach_2 9 rfl) (byt chX11_ofEach_2 10 rfl) (by decide +kernel)
theorem dX11_ofEach_43 : decode cX11_ofEach 43 = .ok (.sipush (-1000), 3) := oq_17 (byt chX11_ofEach_2 11 rfl) (byt chX11_ofEach_2 12 rfl) (byt chX11_ofEach_2 13 rfl) (by decide +kernel)
theorem dX11_ofEach_46 : decode cX11_ofEach 46 = .ok (.ireturn, 1) := oq_172 (byt chX11_ofEach_2 14 rfl)
theorem dX11_ofEach_47 : decode cX11_ofEach 47 = .ok (.iload_n 1, 1) := oq_27 (byt chX11_ofEach_2 15 rfl)
theorem dX11_ofEach_48 : decode cX11_ofEach 48 = .ok (.bipush 10, 2) := oq_16 (byt chX11_ofEach_3 0 rfl) (byt chX11_ofEach_3 1 rfl) rfl
theorem dX11_ofEach_50 : decode cX11_ofEach 50 = .ok (.idiv, 1) := oq_108 (byt chX11_ofEach_3 2 rfl)
theorem dX11_ofEach_51 : decode cX11_ofEach 51 = .ok (.tableswitch 56 2 5 #[29, 36, 43, 49], 29) := by decide +kernel
theorem dX11_ofEach_80 : decode cX11_ofEach 80 = .ok (.aload_n 0, 1) := oq_42 (byt chX11_ofEach_5 0 rfl)
theorem dX11_ofEach_81 : decode cX11_ofEach 81 = .ok (.getfield 62, 3) := oq_180 (byt chX11_ofEach_5 1 rfl) (byt chX11_ofEach_5 2 rfl) (byt chX11_ofEach_5 3 rfl) rfl
theorem dX11_ofEach_84 : decode cX11_ofEach 84 = .ok (.iload_n 2, 1) := oq_28 (byt chX11_ofEach_5 4 rfl)
theorem dX11_ofEach_85 : decode cX11_ofEach 85 = .ok (.iaload, 1) := oq_46 (byt chX11_ofEach_5 5 rfl)
theorem dX11_ofEach_86 : decode cX11_ofEach 86 = .ok (.ireturn, 1) := oq_172 (byt chX11_ofEach_5 6 rfl)
theorem dX11_ofEach_87 : decode cX11_ofEach 87 = .ok (.aload_n 0, 1) := oq_42 (byt chX11_ofEach_5 7 rfl)
theorem dX11_ofEach_88 : decode cX11_ofEach 88 = .ok (.getfield 65, 3) := oq_180 (byt chX11_ofEach_5 8 rfl) (byt chX11_ofEach_5 9 rfl) (byt chX11_ofEach_5 10 rfl) rfl
theorem dX11_ofEach_91 : decode cX11_ofEach 91 = .ok (.iload_n 2, 1) := oq_28 (byt chX11_ofEach_5 11 rfl)
theorem dX11_ofEach_92 : decode cX11_ofEach 92 = .ok (.iaload, 1) := oq_46 (byt chX11_ofEach_5 12 rfl)
theorem dX11_ofEach_93 : decode cX11_ofEach 93 = .ok (.ireturn, 1) := oq_172 (byt chX11_ofEach_5 13 rfl)
theorem dX11_ofEach_94 : decode cX11_ofEach 94 = .ok (.aload_n 0, 1) := oq_42 (byt chX11_ofEach_5 14 rfl)
theorem dX11_ofEach_95 : decode cX11_ofEach 95 = .ok (.iload_n 2, 1) := oq_28 (byt chX11_ofEach_5 15 rfl)
theorem dX11_ofEach_96 : decode cX11_ofEach 96 = .ok (.invokevirtual 351, 3) := oq_182 (byt chX11_ofEach_6 0 rfl) (byt chX11_ofEach_6 1 rfl) (byt chX11_ofEach_6 2 rfl) rfl
theorem dX11_ofEach_99 : decode cX11_ofEach 99 = .ok (.ireturn, 1) := oq_172 (byt chX11_ofEach_6 3 rfl)
theorem dX11_ofEach_100 : decode cX11_ofEach 100 = .ok (.aload_n 0, 1) := oq_42 (byt chX11_ofEach_6 4 rfl)
theorem dX11_ofEach_101 : decode cX11_ofEach 101 = .ok (.getfield 68, 3) := oq_180 (byt chX11_ofEach_6 5 rfl) (byt chX11_ofEach_6 6 rfl) (byt chX11_ofEach_6 7 rfl) rfl
theorem dX11_ofEach_104 : decode cX11_ofEach 104 = .ok (.iload_n 2, 1) := oq_28 (byt chX11_ofEach_6 8 rfl)
theorem dX11_ofEach_105 : decode cX11_ofEach 105 = .ok (.iaload, 1) := oq_46 (byt chX11_ofEach_6 9 rfl)
theorem dX11_ofEach_106 : decode cX11_ofEach 106 = .ok (.ireturn, 1) := oq_172 (byt chX11_ofEach_6 10 rfl)
theorem dX11_ofEach_107 : decode cX11_ofEach 107 = .ok (.sipush (-1000), 3) := oq_17 (byt chX11_ofEach_6 11 rfl) (byt chX11_ofEach_6 12 rfl) (byt chX11_ofEach_6 13 rfl) (by decide +kernel)
theorem dX11_ofEach_110 : decode cX11_ofEach 110 = .ok (.ireturn, 1) := oq_172 (byt chX11_ofEach_6 14 rfl)
abbrev mX11_ofEach : MI := (yX11_ofEach, cX11_ofEach, 3, (some .int), noE)
theorem okX11_ofEach : cok mX11_ofEach 1 := ⟨tw1648, tw11, by decide, by decide, by decide, by decide +kernel⟩
def fX11_ofEach (M : Mem) (a0 a1 : Int) : Option Int :=
  if w32 (a1.tdiv 10) = 6 then (if M.2.1 a0 = 10 then (fX11_isHouse M a0 (a1.tmod 10)).bind fun r2 => if r2 = 0 then (some (-1000)) else (if M.2.1 (M.1 a0 39) = 12 ∧ (0 : Int) ≤ (a1.tmod 10) ∧ (a1.tmod 10) < M.2.2.1 (M.1 a0 39) then some (M.1 (M.1 a0 39) (a1.tmod 10)) else none) else none) else (if M.2.1 a0 = 10 then (fX11_isThief M a0 (a1.tmod 10)).bind fun r7 => if r7 = 0 then (some (-1000)) else (if w32 (a1.tdiv 10) = 2 then (if M.2.1 (M.1 a0 35) = 12 ∧ (0 : Int) ≤ (a1.tmod 10) ∧ (a1.tmod 10) < M.2.2.1 (M.1 a0 35) then some (M.1 (M.1 a0 35) (a1.tmod 10)) else none) else if w32 (a1.tdiv 10) = 3 then (if M.2.1 (M.1 a0 36) = 12 ∧ (0 : Int) ≤ (a1.tmod 10) ∧ (a1.tmod 10) < M.2.2.1 (M.1 a0 36) then some (M.1 (M.1 a0 36) (a1.tmod 10)) else none) else if w32 (a1.tdiv 10) = 4 then ((fX11_owes M a0 (a1.tmod 10)).bind fun r16 => some r16) else if w32 (a1.tdiv 10) = 5 then (if M.2.1 (M.1 a0 37) = 12 ∧ (0 : Int) ≤ (a1.tmod 10) ∧ (a1.tmod 10) < M.2.2.1 (M.1 a0 37) then some (M.1 (M.1 a0 37) (a1.tmod 10)) else none) else some (-1000)) else none)
set_option maxRecDepth 100000 in
set_option maxHeartbeats 4000000 in
theorem kX11_ofEach (d : Nat) (hd : 2 ≤ d) (M : Mem) (a0 a1 : Int) : Ct mX11_ofEach d 0 0 [pA a0, pI a1] M (dI M) (fX11_ofEach M a0 a1) := by
  obtain ⟨d, rfl⟩ : ∃ k, d = k + 1 := ⟨d - 1, by omega⟩
  refine Ct.of 1 (fun _ _ _ => trivial) (by decide +kernel) rfl ?_
  unfold fX11_ofEach
  refine v_iload_n dX11_ofEach_0 rfl ?_
  refine v_bipush dX11_ofEach_1 (by decide) ?_
  refine v_irem (by decide) dX11_ofEach_3 ?_
  refine v_istore_n (ls' := [some (pA a0), some (pI a1), some (pI (a1.tmod 10))]) dX11_ofEach_4 (by decide) rfl ?_
  refine v_iload_n dX11_ofEach_5 rfl ?_
  refine v_bipush dX11_ofEach_6 (by decide) ?_
  refine v_idiv (by decide) dX11_ofEach_8 ?_
  refine v_bipush dX11_ofEach_9 (by decide) ?_
  refine v_icmp_ne (tgt := 35) dX11_ofEach_11 (by decide) (fun c1 => ?_) (fun c1 => ?_)
  · refine v_aload_n dX11_ofEach_14 rfl ?_
    refine v_iload_n dX11_ofEach_15 rfl ?_
    refine v_if (fun h4 => ?_)
    refine v_cV (mi := mX11_ofEach) (c0 := 0) (c1 := 0) (As := [pI (a1.tmod 10)]) (st := []) (kX11_isHouse d (by omega) _ _ _) rfl h4 rfl okX11_isHouse (Or.inl tw1508) tw1510 tp56 rfl (Nat.le_of_ble_eq_true rfl) dX11_ofEach_16 (fun r2 => [pI r2]) (fun r2 => M) (fun _ => rfl) (fun _ => rfl) (fun r2 h3 => ?_) rfl
    refine v_if_eq (tgt := 31) dX11_ofEach_19 (by decide) (fun c5 => ?_) (fun c5 => ?_)
    · refine v_sipush dX11_ofEach_31 (by decide) ?_
      exact v_ireturn dX11_ofEach_34 rfl rfl
    · refine v_aload_n dX11_ofEach_22 rfl ?_
      refine v_get (v := pA (M.1 a0 39)) 10 39 rfl inX11 (by decide) tw1232 dX11_ofEach_23 h4 rfl ?_
      refine v_iload_n dX11_ofEach_26 rfl ?_
      refine v_if (fun h6 => ?_)
      refine v_iaload h6 dX11_ofEach_27 ?_
      refine v_goto (tgt := 34) dX11_ofEach_28 (by decide) ?_
      exact v_ireturn dX11_ofEach_34 rfl rfl
  · refine v_aload_n dX11_ofEach_35 rfl ?_
    refine v_iload_n dX11_ofEach_36 rfl ?_
    refine v_if (fun h9 => ?_)
    refine v_cV (mi := mX11_ofEach) (c0 := 0) (c1 := 0) (As := [pI (a1.tmod 10)]) (st := []) (kX11_isThief d (by omega) _ _ _) rfl h9 rfl okX11_isThief (Or.inl tw1515) tw1517 tp57 rfl (Nat.le_of_ble_eq_true rfl) dX11_ofEach_37 (fun r7 => [pI r7]) (fun r7 => M) (fun _ => rfl) (fun _ => rfl) (fun r7 h8 => ?_) rfl
    refine v_if_ne (tgt := 47) dX11_ofEach_40 (by decide) (fun c10 => ?_) (fun c10 => ?_)
    · refine v_sipush dX11_ofEach_43 (by decide) ?_
      exact v_ireturn dX11_ofEach_46 rfl rfl
    · refine v_iload_n dX11_ofEach_47 rfl ?_
      refine v_bipush dX11_ofEach_48 (by decide) ?_
      refine v_idiv (by decide) dX11_ofEach_50 ?_
      refine v_ite (fun h11 => ?_) (fun h11 => ?_)
      · refine v_tabIn (off := 29) (tgt := 80) dX11_ofEach_51 h11 (by decide) ?_
        refine v_aload_n dX11_ofEach_80 rfl ?_
        refine v_get (v := pA (M.1 a0 35)) 10 35 rfl inX11 (by decide) tw1228 dX11_ofEach_81 h9 rfl ?_
        refine v_iload_n dX11_ofEach_84 rfl ?_
        refine v_if (fun h12 => ?_)
        refine v_iaload h12 dX11_ofEach_85 ?_
        exact v_ireturn dX11_ofEach_86 rfl rfl
      · refine v_ite (fun h13 => ?_) (fun h13 => ?_)
        · refine v_tabIn (off := 36) (tgt := 87) dX11_ofEach_51 h13 (by decide) ?_
          refine v_aload_n dX11_ofEach_87 rfl ?_
          refine v_get (v := pA (M.1 a0 36)) 10 36 rfl inX11 (by decide) tw1229 dX11_ofEach_88 h9 rfl ?_
          refine v_iload_n dX11_ofEach_91 rfl ?_
          refine v_if (fun h14 => ?_)
          refine v_iaload h14 dX11_ofEach_92 ?_
          exact v_ireturn dX11_ofEach_93 rfl rfl
        · refine v_ite (fun h15 => ?_) (fun h15 => ?_)
          · refine v_tabIn (off := 43) (tgt := 94) dX11_ofEach_51 h15 (by decide) ?_
            refine v_aload_n dX11_ofEach_94 rfl ?_
            refine v_iload_n dX11_ofEach_95 rfl ?_
            refine v_cV (mi := mX11_ofEach) (c0 := 0) (c1 := 0) (As := [pI (a1.tmod 10)]) (st := []) (kX11_owes d (by omega) _ _ _) rfl h9 rfl okX11_owes (Or.inl tw1609) tw1611 tp75 rfl (Nat.le_of_ble_eq_true rfl) dX11_ofEach_96 (fun r16 => [pI r16]) (fun r16 => M) (fun _ => rfl) (fun _ => rfl) (fun r16 h17 => ?_) rfl
            exact v_ireturn dX11_ofEach_99 rfl rfl
          · refine v_ite (fun h18 => ?_) (fun h18 => ?_)
            · refine v_tabIn (off := 49) (tgt := 100) dX11_ofEach_51 h18 (by decide) ?_
              refine v_aload_n dX11_ofEach_100 rfl ?_
              refine v_get (v := pA (M.1 a0 37)) 10 37 rfl inX11 (by decide) tw1230 dX11_ofEach_101 h9 rfl ?_
              refine v_iload_n dX11_ofEach_104 rfl ?_
              refine v_if (fun h19 => ?_)
              refine v_iaload h19 dX11_ofEach_105 ?_
              exact v_ireturn dX11_ofEach_106 rfl rfl
            · refine v_tabOut (tgt := 107) dX11_ofEach_51 (by omega) (by decide) ?_
              refine v_sipush dX11_ofEach_107 (by decide) ?_
              exact v_ireturn dX11_ofEach_110 rfl rfl
theorem chX11_ofState_0 : (cX11_ofState.data.toList.drop 0).take 16 = [27, 4, 160, 0, 10, 42, 182, 1, 125, 167, 0, 44, 27, 5, 160, 0] := by decide +kernel
theorem chX11_ofState_1 : (cX11_ofState.data.toList.drop 16).take 16 = [10, 42, 180, 1, 79, 167, 0, 32, 27, 6, 160, 0, 10, 42, 182, 1] := by decide +kernel
theorem chX11_ofState_2 : (cX11_ofState.data.toList.drop 32).take 16 = [128, 167, 0, 20, 27, 16, 20, 162, 0, 9, 17, 252, 24, 167, 0, 8] := by decide +kernel
theorem chX11_ofState_3 : (cX11_ofState.data.toList.drop 48).take 16 = [42, 27, 182, 1, 131, 172] := by decide +kernel
theorem dX11_ofState_0 : decode cX11_ofState 0 = .ok (.iload_n 1, 1) := oq_27 (byt chX11_ofState_0 0 rfl)
theorem dX11_ofState_1 : decode cX11_ofState 1 = .ok (.iconst 1, 1) := oq_4 (byt chX11_ofState_0 1 rfl)
theorem dX11_ofState_2 : decode cX11_ofState 2 = .ok (.if_icmp .ne 10, 3) := oq_160 (byt chX11_ofState_0 2 rfl) (byt chX11_ofState_0 3 rfl) (byt chX11_ofState_0 4 rfl) (by decide +kernel)
theorem dX11_ofState_5 : decode cX11_ofState 5 = .ok (.aload_n 0, 1) := oq_42 (byt chX11_ofState_0 5 rfl)
theorem dX11_ofState_6 : decode cX11_ofState 6 = .ok (.invokevirtual 381, 3) := oq_182 (byt chX11_ofState_0 6 rfl) (byt chX11_ofState_0 7 rfl) (byt chX11_ofState_0 8 rfl) rfl
theorem dX11_ofState_9 : decode cX11_ofState 9 = .ok (.goto 44, 3) := oq_167 (byt chX11_ofState_0 9 rfl) (byt chX11_ofState_0 10 rfl) (byt chX11_ofState_0 11 rfl) (by decide +kernel)
theorem dX11_ofState_12 : decode cX11_ofState 12 = .ok (.iload_n 1, 1) := oq_27 (byt chX11_ofState_0 12 rfl)
theorem dX11_ofState_13 : decode cX11_ofState 13 = .ok (.iconst 2, 1) := oq_5 (byt chX11_ofState_0 13 rfl)
theorem dX11_ofState_14 : decode cX11_ofState 14 = .ok (.if_icmp .ne 10, 3) := oq_160 (byt chX11_ofState_0 14 rfl) (byt chX11_ofState_0 15 rfl) (byt chX11_ofState_1 0 rfl) (by decide +kernel)
theorem dX11_ofState_17 : decode cX11_ofState 17 = .ok (.aload_n 0, 1) := oq_42 (byt chX11_ofState_1 1 rfl)
theorem dX11_ofState_18 : decode cX11_ofState 18 = .ok (.getfield 335, 3) := oq_180 (byt chX11_ofState_1 2 rfl) (byt chX11_ofState_1 3 rfl) (byt chX11_ofState_1 4 rfl) rfl
theorem dX11_ofState_21 : decode cX11_ofState 21 = .ok (.goto 32, 3) := oq_167 (byt chX11_ofState_1 5 rfl) (byt chX11_ofState_1 6 rfl) (byt chX11_ofState_1 7 rfl) (by decide +kernel)
theorem dX11_ofState_24 : decode cX11_ofState 24 = .ok (.iload_n 1, 1) := oq_27 (byt chX11_ofState_1 8 rfl)
theorem dX11_ofState_25 : decode cX11_ofState 25 = .ok (.iconst 3, 1) := oq_6 (byt chX11_ofState_1 9 rfl)
theorem dX11_ofState_26 : decode cX11_ofState 26 = .ok (.if_icmp .ne 10, 3) := oq_160 (byt chX11_ofState_1 10 rfl) (byt chX11_ofState_1 11 rfl) (byt chX11_ofState_1 12 rfl) (by decide +kernel)
theorem dX11_ofState_29 : decode cX11_ofState 29 = .ok (.aload_n 0, 1) := oq_42 (byt chX11_ofState_1 13 rfl)
theorem dX11_ofState_30 : decode cX11_ofState 30 = .ok (.invokevirtual 384, 3) := oq_182 (byt chX11_ofState_1 14 rfl) (byt chX11_ofState_1 15 rfl) (byt chX11_ofState_2 0 rfl) rfl
theorem dX11_ofState_33 : decode cX11_ofState 33 = .ok (.goto 20, 3) := oq_167 (byt chX11_ofState_2 1 rfl) (byt chX11_ofState_2 2 rfl) (byt chX11_ofState_2 3 rfl) (by decide +kernel)
theorem dX11_ofState_36 : decode cX11_ofState 36 = .ok (.iload_n 1, 1) := oq_27 (byt chX11_ofState_2 4 rfl)
theorem dX11_ofState_37 : decode cX11_ofState 37 = .ok (.bipush 20, 2) := oq_16 (byt chX11_ofState_2 5 rfl) (byt chX11_ofState_2 6 rfl) rfl
theorem dX11_ofState_39 : decode cX11_ofState 39 = .ok (.if_icmp .ge 9, 3) := oq_162 (byt chX11_ofState_2 7 rfl) (byt chX11_ofState_2 8 rfl) (byt chX11_ofState_2 9 rfl) (by decide +kernel)
theorem dX11_ofState_42 : decode cX11_ofState 42 = .ok (.sipush (-1000), 3) := oq_17 (byt chX11_ofState_2 10 rfl) (byt chX11_ofState_2 11 rfl) (byt chX11_ofState_2 12 rfl) (by decide +kernel)
theorem dX11_ofState_45 : decode cX11_ofState 45 = .ok (.goto 8, 3) := oq_167 (byt chX11_ofState_2 13 rfl) (byt chX11_ofState_2 14 rfl) (byt chX11_ofState_2 15 rfl) (by decide +kernel)
theorem dX11_ofState_48 : decode cX11_ofState 48 = .ok (.aload_n 0, 1) := oq_42 (byt chX11_ofState_3 0 rfl)
theorem dX11_ofState_49 : decode cX11_ofState 49 = .ok (.iload_n 1, 1) := oq_27 (byt chX11_ofState_3 1 rfl)
theorem dX11_ofState_50 : decode cX11_ofState 50 = .ok (.invokevirtual 387, 3) := oq_182 (byt chX11_ofState_3 2 rfl) (byt chX11_ofState_3 3 rfl) (byt chX11_ofState_3 4 rfl) rfl
theorem dX11_ofState_53 : decode cX11_ofState 53 = .ok (.ireturn, 1) := oq_172 (byt chX11_ofState_3 5 rfl)
abbrev mX11_ofState : MI := (yX11_ofState, cX11_ofState, 2, (some .int), noE)
theorem okX11_ofState : cok mX11_ofState 1 := ⟨tw1636, tw11, by decide, by decide, by decide, by decide +kernel⟩
def fX11_ofState (M : Mem) (a0 a1 : Int) : Option Int :=
  if a1 = 1 then (if M.2.1 a0 = 10 then (fX11_want M a0).bind fun r2 => some r2 else none) else (if a1 = 2 then (if M.2.1 a0 = 10 then some (M.1 a0 41) else none) else (if a1 = 3 then (if M.2.1 a0 = 10 then (fX11_pious M a0).bind fun r8 => some r8 else none) else (if a1 < 20 then (some (-1000)) else (if M.2.1 a0 = 10 then (fX11_ofEach M a0 a1).bind fun r12 => some r12 else none))))
set_option maxRecDepth 100000 in
set_option maxHeartbeats 4000000 in
theorem kX11_ofState (d : Nat) (hd : 3 ≤ d) (M : Mem) (a0 a1 : Int) : Ct mX11_ofState d 0 0 [pA a0, pI a1] M (dI M) (fX11_ofState M a0 a1) := by
  obtain ⟨d, rfl⟩ : ∃ k, d = k + 1 := ⟨d - 1, by omega⟩
  refine Ct.of 0 (fun _ _ _ => trivial) (by decide +kernel) rfl ?_
  unfold fX11_ofState
  refine v_iload_n dX11_ofState_0 rfl ?_
  refine v_iconst dX11_ofState_1 (by decide) ?_
  refine v_icmp_ne (tgt := 12) dX11_ofState_2 (by decide) (fun c1 => ?_) (fun c1 => ?_)
  · refine v_aload_n dX11_ofState_5 rfl ?_
    refine v_if (fun h4 => ?_)
    refine v_cV (mi := mX11_ofState) (c0 := 0) (c1 := 0) (As := []) (st := []) (kX11_want d (by omega) _ _) rfl h4 rfl okX11_want (Or.inl tw1637) tw1639 tp81 rfl (Nat.le_of_ble_eq_true rfl) dX11_ofState_6 (fun r2 => [pI r2]) (fun r2 => M) (fun _ => rfl) (fun _ => rfl) (fun r2 h3 => ?_) rfl
    refine v_goto (tgt := 53) dX11_ofState_9 (by decide) ?_
    exact v_ireturn dX11_ofState_53 rfl rfl
  · refine v_iload_n dX11_ofState_12 rfl ?_
    refine v_iconst dX11_ofState_13 (by decide) ?_
    refine v_icmp_ne (tgt := 24) dX11_ofState_14 (by decide) (fun c5 => ?_) (fun c5 => ?_)
    · refine v_aload_n dX11_ofState_17 rfl ?_
      refine v_if (fun h6 => ?_)
      refine v_get (v := pI (M.1 a0 41)) 10 41 rfl inX11 (by decide) tw1234 dX11_ofState_18 h6 rfl ?_
      refine v_goto (tgt := 53) dX11_ofState_21 (by decide) ?_
      exact v_ireturn dX11_ofState_53 rfl rfl
    · refine v_iload_n dX11_ofState_24 rfl ?_
      refine v_iconst dX11_ofState_25 (by decide) ?_
      refine v_icmp_ne (tgt := 36) dX11_ofState_26 (by decide) (fun c7 => ?_) (fun c7 => ?_)
      · refine v_aload_n dX11_ofState_29 rfl ?_
        refine v_if (fun h10 => ?_)
        refine v_cV (mi := mX11_ofState) (c0 := 0) (c1 := 0) (As := []) (st := []) (kX11_pious d (by omega) _ _) rfl h10 rfl okX11_pious (Or.inl tw1641) tw1643 tp82 rfl (Nat.le_of_ble_eq_true rfl) dX11_ofState_30 (fun r8 => [pI r8]) (fun r8 => M) (fun _ => rfl) (fun _ => rfl) (fun r8 h9 => ?_) rfl
        refine v_goto (tgt := 53) dX11_ofState_33 (by decide) ?_
        exact v_ireturn dX11_ofState_53 rfl rfl
      · refine v_iload_n dX11_ofState_36 rfl ?_
        refine v_bipush dX11_ofState_37 (by decide) ?_
        refine v_icmp_ge (tgt := 48) dX11_ofState_39 (by decide) (fun c11 => ?_) (fun c11 => ?_)
        · refine v_sipush dX11_ofState_42 (by decide) ?_
          refine v_goto (tgt := 53) dX11_ofState_45 (by decide) ?_
          exact v_ireturn dX11_ofState_53 rfl rfl
        · refine v_aload_n dX11_ofState_48 rfl ?_
          refine v_iload_n dX11_ofState_49 rfl ?_
          refine v_if (fun h14 => ?_)
          refine v_cV (mi := mX11_ofState) (c0 := 0) (c1 := 0) (As := [pI a1]) (st := []) (kX11_ofEach d (by omega) _ _ _) rfl h14 rfl okX11_ofEach (Or.inl tw1645) tw1647 tp83 rfl (Nat.le_of_ble_eq_true rfl) dX11_ofState_50 (fun r12 => [pI r12]) (fun r12 => M) (fun _ => rfl) (fun _ => rfl) (fun r12 h13 => ?_) rfl
          exact v_ireturn dX11_ofState_53 rfl rfl
theorem chX11_state_0 : (cX11_state.data.toList.drop 0).take 16 = [42, 3, 181, 0, 90, 42, 27, 28, 29, 21, 4, 182, 1, 134, 154, 0] := by decide +kernel
theorem chX11_state_1 : (cX11_state.data.toList.drop 16).take 16 = [7, 17, 252, 24, 172, 21, 5, 154, 0, 10, 42, 180, 1, 76, 167, 0] := by decide +kernel
theorem chX11_state_2 : (cX11_state.data.toList.drop 32).take 16 = [33, 21, 5, 16, 10, 16, 13, 184, 0, 98, 153, 0, 15, 42, 21, 5] := by decide +kernel
theorem chX11_state_3 : (cX11_state.data.toList.drop 48).take 16 = [16, 10, 100, 182, 1, 137, 167, 0, 9, 42, 21, 5, 182, 1, 140, 172] := by decide +kernel
theorem dX11_state_0 : decode cX11_state 0 = .ok (.aload_n 0, 1) := oq_42 (byt chX11_state_0 0 rfl)
theorem dX11_state_1 : decode cX11_state 1 = .ok (.iconst 0, 1) := oq_3 (byt chX11_state_0 1 rfl)
theorem dX11_state_2 : decode cX11_state 2 = .ok (.putfield 90, 3) := oq_181 (byt chX11_state_0 2 rfl) (byt chX11_state_0 3 rfl) (byt chX11_state_0 4 rfl) rfl
theorem dX11_state_5 : decode cX11_state 5 = .ok (.aload_n 0, 1) := oq_42 (byt chX11_state_0 5 rfl)
theorem dX11_state_6 : decode cX11_state 6 = .ok (.iload_n 1, 1) := oq_27 (byt chX11_state_0 6 rfl)
theorem dX11_state_7 : decode cX11_state 7 = .ok (.iload_n 2, 1) := oq_28 (byt chX11_state_0 7 rfl)
theorem dX11_state_8 : decode cX11_state 8 = .ok (.iload_n 3, 1) := oq_29 (byt chX11_state_0 8 rfl)
theorem dX11_state_9 : decode cX11_state 9 = .ok (.iload 4, 2) := oq_21 (byt chX11_state_0 9 rfl) (byt chX11_state_0 10 rfl) rfl
theorem dX11_state_11 : decode cX11_state 11 = .ok (.invokevirtual 390, 3) := oq_182 (byt chX11_state_0 11 rfl) (byt chX11_state_0 12 rfl) (byt chX11_state_0 13 rfl) rfl
theorem dX11_state_14 : decode cX11_state 14 = .ok (.ifCond .ne 7, 3) := oq_154 (byt chX11_state_0 14 rfl) (byt chX11_state_0 15 rfl) (byt chX11_state_1 0 rfl) (by decide +kernel)
theorem dX11_state_17 : decode cX11_state 17 = .ok (.sipush (-1000), 3) := oq_17 (byt chX11_state_1 1 rfl) (byt chX11_state_1 2 rfl) (byt chX11_state_1 3 rfl) (by decide +kernel)
theorem dX11_state_20 : decode cX11_state 20 = .ok (.ireturn, 1) := oq_172 (byt chX11_state_1 4 rfl)
theorem dX11_state_21 : decode cX11_state 21 = .ok (.iload 5, 2) := oq_21 (byt chX11_state_1 5 rfl) (byt chX11_state_1 6 rfl) rfl
theorem dX11_state_23 : decode cX11_state 23 = .ok (.ifCond .ne 10, 3) := oq_154 (byt chX11_state_1 7 rfl) (byt chX11_state_1 8 rfl) (byt chX11_state_1 9 rfl) (by decide +kernel)
theorem dX11_state_26 : decode cX11_state 26 = .ok (.aload_n 0, 1) := oq_42 (byt chX11_state_1 10 rfl)
theorem dX11_state_27 : decode cX11_state 27 = .ok (.getfield 332, 3) := oq_180 (byt chX11_state_1 11 rfl) (byt chX11_state_1 12 rfl) (byt chX11_state_1 13 rfl) rfl
theorem dX11_state_30 : decode cX11_state 30 = .ok (.goto 33, 3) := oq_167 (byt chX11_state_1 14 rfl) (byt chX11_state_1 15 rfl) (byt chX11_state_2 0 rfl) (by decide +kernel)
theorem dX11_state_33 : decode cX11_state 33 = .ok (.iload 5, 2) := oq_21 (byt chX11_state_2 1 rfl) (byt chX11_state_2 2 rfl) rfl
theorem dX11_state_35 : decode cX11_state 35 = .ok (.bipush 10, 2) := oq_16 (byt chX11_state_2 3 rfl) (byt chX11_state_2 4 rfl) rfl
theorem dX11_state_37 : decode cX11_state 37 = .ok (.bipush 13, 2) := oq_16 (byt chX11_state_2 5 rfl) (byt chX11_state_2 6 rfl) rfl
theorem dX11_state_39 : decode cX11_state 39 = .ok (.invokestatic 98, 3) := oq_184 (byt chX11_state_2 7 rfl) (byt chX11_state_2 8 rfl) (byt chX11_state_2 9 rfl) rfl
theorem dX11_state_42 : decode cX11_state 42 = .ok (.ifCond .eq 15, 3) := oq_153 (byt chX11_state_2 10 rfl) (byt chX11_state_2 11 rfl) (byt chX11_state_2 12 rfl) (by decide +kernel)
theorem dX11_state_45 : decode cX11_state 45 = .ok (.aload_n 0, 1) := oq_42 (byt chX11_state_2 13 rfl)
theorem dX11_state_46 : decode cX11_state 46 = .ok (.iload 5, 2) := oq_21 (byt chX11_state_2 14 rfl) (byt chX11_state_2 15 rfl) rfl
theorem dX11_state_48 : decode cX11_state 48 = .ok (.bipush 10, 2) := oq_16 (byt chX11_state_3 0 rfl) (byt chX11_state_3 1 rfl) rfl
theorem dX11_state_50 : decode cX11_state 50 = .ok (.isub, 1) := oq_100 (byt chX11_state_3 2 rfl)
theorem dX11_state_51 : decode cX11_state 51 = .ok (.invokevirtual 393, 3) := oq_182 (byt chX11_state_3 3 rfl) (byt chX11_state_3 4 rfl) (byt chX11_state_3 5 rfl) rfl
theorem dX11_state_54 : decode cX11_state 54 = .ok (.goto 9, 3) := oq_167 (byt chX11_state_3 6 rfl) (byt chX11_state_3 7 rfl) (byt chX11_state_3 8 rfl) (by decide +kernel)
theorem dX11_state_57 : decode cX11_state 57 = .ok (.aload_n 0, 1) := oq_42 (byt chX11_state_3 9 rfl)
theorem dX11_state_58 : decode cX11_state 58 = .ok (.iload 5, 2) := oq_21 (byt chX11_state_3 10 rfl) (byt chX11_state_3 11 rfl) rfl
theorem dX11_state_60 : decode cX11_state 60 = .ok (.invokevirtual 396, 3) := oq_182 (byt chX11_state_3 12 rfl) (byt chX11_state_3 13 rfl) (byt chX11_state_3 14 rfl) rfl
theorem dX11_state_63 : decode cX11_state 63 = .ok (.ireturn, 1) := oq_172 (byt chX11_state_3 15 rfl)
abbrev mX11_state : MI := (yX11_state, cX11_state, 6, (some .int), noE)
theorem okX11_state : cok mX11_state 5 := ⟨tw1620, tw11, by decide, by decide, by decide, by decide +kernel⟩
def fX11_state (M : Mem) (a0 a1 a2 a3 a4 a5 : Int) : Option (Int × Mem) :=
  if M.2.1 a0 = 10 then bM (mst M a0 0 0) fun M2 => (fX11_layState M2 a0 a1 a2 a3 a4).bind fun r4 => if r4.1 = 0 then (some ((-1000), r4.2)) else (if a5 = 0 then (if r4.2.2.1 a0 = 10 then some (r4.2.1 a0 40, r4.2) else none) else ((fX11_in r4.2 a5 10 13).bind fun r9 => if r9 = 0 then (if r4.2.2.1 a0 = 10 then (fX11_ofState r4.2 a0 a5).bind fun r12 => some (r12, r4.2) else none) else (if r4.2.2.1 a0 = 10 then (fX11_queued r4.2 a0 (w32 (a5 - 10))).bind fun r15 => some (r15, r4.2) else none))) else none
set_option maxRecDepth 100000 in
set_option maxHeartbeats 4000000 in
theorem kX11_state (d : Nat) (hd : 8 ≤ d) (M : Mem) (a0 a1 a2 a3 a4 a5 : Int) : Ct mX11_state d 0 0 [pA a0, pI a1, pI a2, pI a3, pI a4, pI a5] M dIM (fX11_state M a0 a1 a2 a3 a4 a5) := by
  obtain ⟨d, rfl⟩ : ∃ k, d = k + 1 := ⟨d - 1, by omega⟩
  refine Ct.of 0 (fun _ _ _ => trivial) (by decide +kernel) rfl ?_
  unfold fX11_state
  refine v_aload_n dX11_state_0 rfl ?_
  refine v_iconst dX11_state_1 (by decide) ?_
  refine v_if (fun h1 => ?_)
  refine v_put (x := 0) 10 0 rfl inX11 (by decide) tw1193 (Or.inl rfl) rfl dX11_state_2 h1 rfl id ?_
  refine v_bM (fun M2 e3 => ?_)
  refine v_aload_n dX11_state_5 rfl ?_
  refine v_iload_n dX11_state_6 rfl ?_
  refine v_iload_n dX11_state_7 rfl ?_
  refine v_iload_n dX11_state_8 rfl ?_
  refine v_iload dX11_state_9 rfl ?_
  refine v_cV (mi := mX11_state) (c0 := 0) (c1 := 0) (As := [pI a1, pI a2, pI a3, pI a4]) (st := []) (kX11_layState d (by omega) _ _ _ _ _ _) rfl (by rw [e3]; exact h1) rfl okX11_layState (Or.inl tw1621) tw1623 tp77 rfl (Nat.le_of_ble_eq_true rfl) dX11_state_11 (fun r4 => [pI r4.1]) (fun r4 => r4.2) (fun _ => rfl) (fun _ => rfl) (fun r4 h5 => ?_) rfl
  refine v_if_ne (tgt := 21) dX11_state_14 (by decide) (fun c6 => ?_) (fun c6 => ?_)
  · refine v_sipush dX11_state_17 (by decide) ?_
    exact v_ireturn dX11_state_20 rfl rfl
  · refine v_iload dX11_state_21 rfl ?_
    refine v_if_ne (tgt := 33) dX11_state_23 (by decide) (fun c7 => ?_) (fun c7 => ?_)
    · refine v_aload_n dX11_state_26 rfl ?_
      refine v_if (fun h8 => ?_)
      refine v_get (v := pI (r4.2.1 a0 40)) 10 40 rfl inX11 (by decide) tw1233 dX11_state_27 h8 rfl ?_
      refine v_goto (tgt := 63) dX11_state_30 (by decide) ?_
      exact v_ireturn dX11_state_63 rfl rfl
    · refine v_iload dX11_state_33 rfl ?_
      refine v_bipush dX11_state_35 (by decide) ?_
      refine v_bipush dX11_state_37 (by decide) ?_
      refine v_cS (mi := mX11_state) (c0 := 0) (c1 := 0) (As := [pI a5, pI 10, pI 13]) (st := []) (kX11_in d (by omega) _ _ _ _) okX11_in (Or.inl tw1360) tw1361 rfl (Nat.le_of_ble_eq_true rfl) dX11_state_39 (fun r9 => [pI r9]) (fun r9 => r4.2) (fun _ => rfl) (fun _ => rfl) (fun r9 h10 => ?_) rfl
      refine v_if_eq (tgt := 57) dX11_state_42 (by decide) (fun c11 => ?_) (fun c11 => ?_)
      · refine v_aload_n dX11_state_57 rfl ?_
        refine v_iload dX11_state_58 rfl ?_
        refine v_if (fun h14 => ?_)
        refine v_cV (mi := mX11_state) (c0 := 0) (c1 := 0) (As := [pI a5]) (st := []) (kX11_ofState d (by omega) _ _ _) rfl h14 rfl okX11_ofState (Or.inl tw1633) tw1635 tp80 rfl (Nat.le_of_ble_eq_true rfl) dX11_state_60 (fun r12 => [pI r12]) (fun r12 => r4.2) (fun _ => rfl) (fun _ => rfl) (fun r12 h13 => ?_) rfl
        exact v_ireturn dX11_state_63 rfl rfl
      · refine v_aload_n dX11_state_45 rfl ?_
        refine v_iload dX11_state_46 rfl ?_
        refine v_bipush dX11_state_48 (by decide) ?_
        refine v_isub dX11_state_50 ?_
        refine v_if (fun h17 => ?_)
        refine v_cV (mi := mX11_state) (c0 := 0) (c1 := 0) (As := [pI (w32 (a5 - 10))]) (st := []) (kX11_queued d (by omega) _ _ _) rfl h17 rfl okX11_queued (Or.inl tw1625) tw1627 tp78 rfl (Nat.le_of_ble_eq_true rfl) dX11_state_51 (fun r15 => [pI r15]) (fun r15 => r4.2) (fun _ => rfl) (fun _ => rfl) (fun r15 h16 => ?_) rfl
        refine v_goto (tgt := 63) dX11_state_54 (by decide) ?_
        exact v_ireturn dX11_state_63 rfl rfl
theorem chX11_goods_0 : (cX11_goods.data.toList.drop 0).take 16 = [42, 3, 181, 0, 90, 42, 27, 28, 29, 21, 4, 182, 1, 134, 153, 0] := by decide +kernel
theorem chX11_goods_1 : (cX11_goods.data.toList.drop 16).take 16 = [53, 21, 7, 184, 1, 37, 153, 0, 45, 21, 5, 2, 160, 0, 9, 21] := by decide +kernel
theorem chX11_goods_2 : (cX11_goods.data.toList.drop 32).take 16 = [6, 2, 159, 0, 33, 21, 5, 2, 159, 0, 12, 42, 21, 5, 182, 1] := by decide +kernel
theorem chX11_goods_3 : (cX11_goods.data.toList.drop 48).take 16 = [40, 153, 0, 18, 21, 6, 2, 159, 0, 14, 42, 21, 6, 182, 1, 34] := by decide +kernel
theorem chX11_goods_4 : (cX11_goods.data.toList.drop 64).take 16 = [154, 0, 5, 2, 172, 21, 5, 2, 160, 0, 18, 42, 180, 0, 44, 8] := by decide +kernel
theorem chX11_goods_5 : (cX11_goods.data.toList.drop 80).take 16 = [21, 6, 104, 21, 7, 96, 46, 167, 0, 38, 21, 6, 2, 160, 0, 18] := by decide +kernel
theorem chX11_goods_6 : (cX11_goods.data.toList.drop 96).take 16 = [42, 180, 0, 47, 8, 21, 5, 104, 21, 7, 96, 46, 167, 0, 17, 42] := by decide +kernel
theorem chX11_goods_7 : (cX11_goods.data.toList.drop 112).take 16 = [180, 0, 50, 21, 5, 21, 6, 21, 7, 184, 1, 88, 46, 172] := by decide +kernel
theorem dX11_goods_0 : decode cX11_goods 0 = .ok (.aload_n 0, 1) := oq_42 (byt chX11_goods_0 0 rfl)
theorem dX11_goods_1 : decode cX11_goods 1 = .ok (.iconst 0, 1) := oq_3 (byt chX11_goods_0 1 rfl)
theorem dX11_goods_2 : decode cX11_goods 2 = .ok (.putfield 90, 3) := oq_181 (byt chX11_goods_0 2 rfl) (byt chX11_goods_0 3 rfl) (byt chX11_goods_0 4 rfl) rfl
theorem dX11_goods_5 : decode cX11_goods 5 = .ok (.aload_n 0, 1) := oq_42 (byt chX11_goods_0 5 rfl)
theorem dX11_goods_6 : decode cX11_goods 6 = .ok (.iload_n 1, 1) := oq_27 (byt chX11_goods_0 6 rfl)
theorem dX11_goods_7 : decode cX11_goods 7 = .ok (.iload_n 2, 1) := oq_28 (byt chX11_goods_0 7 rfl)
theorem dX11_goods_8 : decode cX11_goods 8 = .ok (.iload_n 3, 1) := oq_29 (byt chX11_goods_0 8 rfl)
theorem dX11_goods_9 : decode cX11_goods 9 = .ok (.iload 4, 2) := oq_21 (byt chX11_goods_0 9 rfl) (byt chX11_goods_0 10 rfl) rfl
theorem dX11_goods_11 : decode cX11_goods 11 = .ok (.invokevirtual 390, 3) := oq_182 (byt chX11_goods_0 11 rfl) (byt chX11_goods_0 12 rfl) (byt chX11_goods_0 13 rfl) rfl
theorem dX11_goods_14 : decode cX11_goods 14 = .ok (.ifCond .eq 53, 3) := oq_153 (byt chX11_goods_0 14 rfl) (byt chX11_goods_0 15 rfl) (byt chX11_goods_1 0 rfl) (by decide +kernel)
theorem dX11_goods_17 : decode cX11_goods 17 = .ok (.iload 7, 2) := oq_21 (byt chX11_goods_1 1 rfl) (byt chX11_goods_1 2 rfl) rfl
theorem dX11_goods_19 : decode cX11_goods 19 = .ok (.invokestatic 293, 3) := oq_184 (byt chX11_goods_1 3 rfl) (byt chX11_goods_1 4 rfl) (byt chX11_goods_1 5 rfl) rfl
theorem dX11_goods_22 : decode cX11_goods 22 = .ok (.ifCond .eq 45, 3) := oq_153 (byt chX11_goods_1 6 rfl) (byt chX11_goods_1 7 rfl) (byt chX11_goods_1 8 rfl) (by decide +kernel)
theorem dX11_goods_25 : decode cX11_goods 25 = .ok (.iload 5, 2) := oq_21 (byt chX11_goods_1 9 rfl) (byt chX11_goods_1 10 rfl) rfl
theorem dX11_goods_27 : decode cX11_goods 27 = .ok (.iconst (-1), 1) := oq_2 (byt chX11_goods_1 11 rfl)
theorem dX11_goods_28 : decode cX11_goods 28 = .ok (.if_icmp .ne 9, 3) := oq_160 (byt chX11_goods_1 12 rfl) (byt chX11_goods_1 13 rfl) (byt chX11_goods_1 14 rfl) (by decide +kernel)
theorem dX11_goods_31 : decode cX11_goods 31 = .ok (.iload 6, 2) := oq_21 (byt chX11_goods_1 15 rfl) (byt chX11_goods_2 0 rfl) rfl
theorem dX11_goods_33 : decode cX11_goods 33 = .ok (.iconst (-1), 1) := oq_2 (byt chX11_goods_2 1 rfl)
theorem dX11_goods_34 : decode cX11_goods 34 = .ok (.if_icmp .eq 33, 3) := oq_159 (byt chX11_goods_2 2 rfl) (byt chX11_goods_2 3 rfl) (byt chX11_goods_2 4 rfl) (by decide +kernel)
theorem dX11_goods_37 : decode cX11_goods 37 = .ok (.iload 5, 2) := oq_21 (byt chX11_goods_2 5 rfl) (byt chX11_goods_2 6 rfl) rfl
theorem dX11_goods_39 : decode cX11_goods 39 = .ok (.iconst (-1), 1) := oq_2 (byt chX11_goods_2 7 rfl)
theorem dX11_goods_40 : decode cX11_goods 40 = .ok (.if_icmp .eq 12, 3) := oq_159 (byt chX11_goods_2 8 rfl) (byt chX11_goods_2 9 rfl) (byt chX11_goods_2 10 rfl) (by decide +kernel)
theorem dX11_goods_43 : decode cX11_goods 43 = .ok (.aload_n 0, 1) := oq_42 (byt chX11_goods_2 11 rfl)
theorem dX11_goods_44 : decode cX11_goods 44 = .ok (.iload 5, 2) := oq_21 (byt chX11_goods_2 12 rfl) (byt chX11_goods_2 13 rfl) rfl
theorem dX11_goods_46 : decode cX11_goods 46 = .ok (.invokevirtual 296, 3) := oq_182 (byt chX11_goods_2 14 rfl) (byt chX11_goods_2 15 rfl) (byt chX11_goods_3 0 rfl) rfl
theorem dX11_goods_49 : decode cX11_goods 49 = .ok (.ifCond .eq 18, 3) := oq_153 (byt chX11_goods_3 1 rfl) (byt chX11_goods_3 2 rfl) (byt chX11_goods_3 3 rfl) (by decide +kernel)
theorem dX11_goods_52 : decode cX11_goods 52 = .ok (.iload 6, 2) := oq_21 (byt chX11_goods_3 4 rfl) (byt chX11_goods_3 5 rfl) rfl
theorem dX11_goods_54 : decode cX11_goods 54 = .ok (.iconst (-1), 1) := oq_2 (byt chX11_goods_3 6 rfl)
theorem dX11_goods_55 : decode cX11_goods 55 = .ok (.if_icmp .eq 14, 3) := oq_159 (byt chX11_goods_3 7 rfl) (byt chX11_goods_3 8 rfl) (byt chX11_goods_3 9 rfl) (by decide +kernel)
theorem dX11_goods_58 : decode cX11_goods 58 = .ok (.aload_n 0, 1) := oq_42 (byt chX11_goods_3 10 rfl)
theorem dX11_goods_59 : decode cX11_goods 59 = .ok (.iload 6, 2) := oq_21 (byt chX11_goods_3 11 rfl) (byt chX11_goods_3 12 rfl) rfl
theorem dX11_goods_61 : decode cX11_goods 61 = .ok (.invokevirtual 290, 3) := oq_182 (byt chX11_goods_3 13 rfl) (byt chX11_goods_3 14 rfl) (byt chX11_goods_3 15 rfl) rfl
theorem dX11_goods_64 : decode cX11_goods 64 = .ok (.ifCond .ne 5, 3) := oq_154 (byt chX11_goods_4 0 rfl) (byt chX11_goods_4 1 rfl) (byt chX11_goods_4 2 rfl) (by decide +kernel)
theorem dX11_goods_67 : decode cX11_goods 67 = .ok (.iconst (-1), 1) := oq_2 (byt chX11_goods_4 3 rfl)
theorem dX11_goods_68 : decode cX11_goods 68 = .ok (.ireturn, 1) := oq_172 (byt chX11_goods_4 4 rfl)
theorem dX11_goods_69 : decode cX11_goods 69 = .ok (.iload 5, 2) := oq_21 (byt chX11_goods_4 5 rfl) (byt chX11_goods_4 6 rfl) rfl
theorem dX11_goods_71 : decode cX11_goods 71 = .ok (.iconst (-1), 1) := oq_2 (byt chX11_goods_4 7 rfl)
theorem dX11_goods_72 : decode cX11_goods 72 = .ok (.if_icmp .ne 18, 3) := oq_160 (byt chX11_goods_4 8 rfl) (byt chX11_goods_4 9 rfl) (byt chX11_goods_4 10 rfl) (by decide +kernel)
theorem dX11_goods_75 : decode cX11_goods 75 = .ok (.aload_n 0, 1) := oq_42 (byt chX11_goods_4 11 rfl)
theorem dX11_goods_76 : decode cX11_goods 76 = .ok (.getfield 44, 3) := oq_180 (byt chX11_goods_4 12 rfl) (byt chX11_goods_4 13 rfl) (byt chX11_goods_4 14 rfl) rfl
theorem dX11_goods_79 : decode cX11_goods 79 = .ok (.iconst 5, 1) := oq_8 (byt chX11_goods_4 15 rfl)
theorem dX11_goods_80 : decode cX11_goods 80 = .ok (.iload 6, 2) := oq_21 (byt chX11_goods_5 0 rfl) (byt chX11_goods_5 1 rfl) rfl
theorem dX11_goods_82 : decode cX11_goods 82 = .ok (.imul, 1) := oq_104 (byt chX11_goods_5 2 rfl)
theorem dX11_goods_83 : decode cX11_goods 83 = .ok (.iload 7, 2) := oq_21 (byt chX11_goods_5 3 rfl) (byt chX11_goods_5 4 rfl) rfl
theorem dX11_goods_85 : decode cX11_goods 85 = .ok (.iadd, 1) := oq_96 (byt chX11_goods_5 5 rfl)
theorem dX11_goods_86 : decode cX11_goods 86 = .ok (.iaload, 1) := oq_46 (byt chX11_goods_5 6 rfl)
theorem dX11_goods_87 : decode cX11_goods 87 = .ok (.goto 38, 3) := oq_167 (byt chX11_goods_5 7 rfl) (byt chX11_goods_5 8 rfl) (byt chX11_goods_5 9 rfl) (by decide +kernel)
theorem dX11_goods_90 : decode cX11_goods 90 = .ok (.iload 6, 2) := oq_21 (byt chX11_goods_5 10 rfl) (byt chX11_goods_5 11 rfl) rfl
theorem dX11_goods_92 : decode cX11_goods 92 = .ok (.iconst (-1), 1) := oq_2 (byt chX11_goods_5 12 rfl)
theorem dX11_goods_93 : decode cX11_goods 93 = .ok (.if_icmp .ne 18, 3) := oq_160 (byt chX11_goods_5 13 rfl) (byt chX11_goods_5 14 rfl) (byt chX11_goods_5 15 rfl) (by decide +kernel)
theorem dX11_goods_96 : decode cX11_goods 96 = .ok (.aload_n 0, 1) := oq_42 (byt chX11_goods_6 0 rfl)
theorem dX11_goods_97 : decode cX11_goods 97 = .ok (.getfield 47, 3) := oq_180 (byt chX11_goods_6 1 rfl) (byt chX11_goods_6 2 rfl) (byt chX11_goods_6 3 rfl) rfl
theorem dX11_goods_100 : decode cX11_goods 100 = .ok (.iconst 5, 1) := oq_8 (byt chX11_goods_6 4 rfl)
theorem dX11_goods_101 : decode cX11_goods 101 = .ok (.iload 5, 2) := oq_21 (byt chX11_goods_6 5 rfl) (byt chX11_goods_6 6 rfl) rfl
theorem dX11_goods_103 : decode cX11_goods 103 = .ok (.imul, 1) := oq_104 (byt chX11_goods_6 7 rfl)
theorem dX11_goods_104 : decode cX11_goods 104 = .ok (.iload 7, 2) := oq_21 (byt chX11_goods_6 8 rfl) (byt chX11_goods_6 9 rfl) rfl
theorem dX11_goods_106 : decode cX11_goods 106 = .ok (.iadd, 1) := oq_96 (byt chX11_goods_6 10 rfl)
theorem dX11_goods_107 : decode cX11_goods 107 = .ok (.iaload, 1) := oq_46 (byt chX11_goods_6 11 rfl)
theorem dX11_goods_108 : decode cX11_goods 108 = .ok (.goto 17, 3) := oq_167 (byt chX11_goods_6 12 rfl) (byt chX11_goods_6 13 rfl) (byt chX11_goods_6 14 rfl) (by decide +kernel)
theorem dX11_goods_111 : decode cX11_goods 111 = .ok (.aload_n 0, 1) := oq_42 (byt chX11_goods_6 15 rfl)
theorem dX11_goods_112 : decode cX11_goods 112 = .ok (.getfield 50, 3) := oq_180 (byt chX11_goods_7 0 rfl) (byt chX11_goods_7 1 rfl) (byt chX11_goods_7 2 rfl) rfl
theorem dX11_goods_115 : decode cX11_goods 115 = .ok (.iload 5, 2) := oq_21 (byt chX11_goods_7 3 rfl) (byt chX11_goods_7 4 rfl) rfl
theorem dX11_goods_117 : decode cX11_goods 117 = .ok (.iload 6, 2) := oq_21 (byt chX11_goods_7 5 rfl) (byt chX11_goods_7 6 rfl) rfl
theorem dX11_goods_119 : decode cX11_goods 119 = .ok (.iload 7, 2) := oq_21 (byt chX11_goods_7 7 rfl) (byt chX11_goods_7 8 rfl) rfl
theorem dX11_goods_121 : decode cX11_goods 121 = .ok (.invokestatic 344, 3) := oq_184 (byt chX11_goods_7 9 rfl) (byt chX11_goods_7 10 rfl) (byt chX11_goods_7 11 rfl) rfl
theorem dX11_goods_124 : decode cX11_goods 124 = .ok (.iaload, 1) := oq_46 (byt chX11_goods_7 12 rfl)
theorem dX11_goods_125 : decode cX11_goods 125 = .ok (.ireturn, 1) := oq_172 (byt chX11_goods_7 13 rfl)
abbrev mX11_goods : MI := (yX11_goods, cX11_goods, 8, (some .int), noE)
theorem okX11_goods : cok mX11_goods 7 := ⟨tw1652, tw11, by decide, by decide, by decide, by decide +kernel⟩
def fX11_goods (M : Mem) (a0 a1 a2 a3 a4 a5 a6 a7 : Int) : Option (Int × Mem) :=
  if M.2.1 a0 = 10 then bM (mst M a0 0 0) fun M2 => (fX11_layState M2 a0 a1 a2 a3 a4).bind fun r4 => if r4.1 = 0 then (some ((-1), r4.2)) else ((fX11_isGood r4.2 a7).bind fun r7 => if r7 = 0 then (some ((-1), r4.2)) else (jn (fun (t11 : Unit) => jn (fun (t13 : Unit) => jn (fun (t15 : Unit) => if a5 = (-1) then (if r4.2.2.1 a0 = 10 then if r4.2.2.1 (r4.2.1 a0 29) = 12 ∧ (0 : Int) ≤ (w32 ((w32 (5 * a6)) + a7)) ∧ (w32 ((w32 (5 * a6)) + a7)) < r4.2.2.2.1 (r4.2.1 a0 29) then some (r4.2.1 (r4.2.1 a0 29) (w32 ((w32 (5 * a6)) + a7)), r4.2) else none else none) else (if a6 = (-1) then (if r4.2.2.1 a0 = 10 then if r4.2.2.1 (r4.2.1 a0 30) = 12 ∧ (0 : Int) ≤ (w32 ((w32 (5 * a5)) + a7)) ∧ (w32 ((w32 (5 * a5)) + a7)) < r4.2.2.2.1 (r4.2.1 a0 30) then some (r4.2.1 (r4.2.1 a0 30) (w32 ((w32 (5 * a5)) + a7)), r4.2) else none else none) else (if r4.2.2.1 a0 = 10 then (fX11_place r4.2 a5 a6 a7).bind fun r23 => if r4.2.2.1 (r4.2.1 a0 31) = 12 ∧ (0 : Int) ≤ r23 ∧ r23 < r4.2.2.2.1 (r4.2.1 a0 31) then some (r4.2.1 (r4.2.1 a0 31) r23, r4.2) else none else none))) (fun (j14 : Unit → Option (Int × Mem)) => if a6 = (-1) then (j14 ()) else (if r4.2.2.1 a0 = 10 then (fX11_isHouse r4.2 a0 a6).bind fun r27 => if r27 = 0 then (some ((-1), r4.2)) else (j14 ()) else none))) (fun (j12 : Unit → Option (Int × Mem)) => if a5 = (-1) then (j12 ()) else (if r4.2.2.1 a0 = 10 then (fX11_isThief r4.2 a0 a5).bind fun r32 => if r32 = 0 then (some ((-1), r4.2)) else (j12 ()) else none))) (fun (j10 : Unit → Option (Int × Mem)) => if a5 = (-1) then (if a6 = (-1) then (some ((-1), r4.2)) else (j10 ())) else (j10 ())))) else none
set_option maxRecDepth 100000 in
set_option maxHeartbeats 4000000 in
theorem kX11_goods (d : Nat) (hd : 8 ≤ d) (M : Mem) (a0 a1 a2 a3 a4 a5 a6 a7 : Int) : Ct mX11_goods d 0 0 [pA a0, pI a1, pI a2, pI a3, pI a4, pI a5, pI a6, pI a7] M dIM (fX11_goods M a0 a1 a2 a3 a4 a5 a6 a7) := by
  obtain ⟨d, rfl⟩ : ∃ k, d = k + 1 := ⟨d - 1, by omega⟩
  refine Ct.of 0 (fun _ _ _ => trivial) (by decide +kernel) rfl ?_
  unfold fX11_goods
  refine v_aload_n dX11_goods_0 rfl ?_
  refine v_iconst dX11_goods_1 (by decide) ?_
  refine v_if (fun h1 => ?_)
  refine v_put (x := 0) 10 0 rfl inX11 (by decide) tw1193 (Or.inl rfl) rfl dX11_goods_2 h1 rfl id ?_
  refine v_bM (fun M2 e3 => ?_)
  refine v_aload_n dX11_goods_5 rfl ?_
  refine v_iload_n dX11_goods_6 rfl ?_
  refine v_iload_n dX11_goods_7 rfl ?_
  refine v_iload_n dX11_goods_8 rfl ?_
  refine v_iload dX11_goods_9 rfl ?_
  refine v_cV (mi := mX11_goods) (c0 := 0) (c1 := 0) (As := [pI a1, pI a2, pI a3, pI a4]) (st := []) (kX11_layState d (by omega) _ _ _ _ _ _) rfl (by rw [e3]; exact h1) rfl okX11_layState (Or.inl tw1621) tw1623 tp77 rfl (Nat.le_of_ble_eq_true rfl) dX11_goods_11 (fun r4 => [pI r4.1]) (fun r4 => r4.2) (fun _ => rfl) (fun _ => rfl) (fun r4 h5 => ?_) rfl
  refine v_if_eq (tgt := 67) dX11_goods_14 (by decide) (fun c6 => ?_) (fun c6 => ?_)
  · refine v_iconst dX11_goods_67 (by decide) ?_
    exact v_ireturn dX11_goods_68 rfl rfl
  · refine v_iload dX11_goods_17 rfl ?_
    refine v_cS (mi := mX11_goods) (c0 := 0) (c1 := 0) (As := [pI a7]) (st := []) (kX11_isGood d (by omega) _ _) okX11_isGood (Or.inl tw1512) tw1513 rfl (Nat.le_of_ble_eq_true rfl) dX11_goods_19 (fun r7 => [pI r7]) (fun r7 => r4.2) (fun _ => rfl) (fun _ => rfl) (fun r7 h8 => ?_) rfl
    refine v_if_eq (tgt := 67) dX11_goods_22 (by decide) (fun c9 => ?_) (fun c9 => ?_)
    · refine v_iconst dX11_goods_67 (by decide) ?_
      exact v_ireturn dX11_goods_68 rfl rfl
    · refine v_iload dX11_goods_25 rfl ?_
      refine v_iconst dX11_goods_27 (by decide) ?_
      refine v_join (fun (t11 : Unit) => [some (pA a0), none, none, none, none, some (pI a5), some (pI a6), some (pI a7)]) (fun (t11 : Unit) => []) (fun (t11 : Unit) => r4.2) 37 (fun t11 => ?_) (fun j10 hj10 => ?_)
      · refine v_iload dX11_goods_37 rfl ?_
        refine v_iconst dX11_goods_39 (by decide) ?_
        refine v_join (fun (t13 : Unit) => [some (pA a0), none, none, none, none, some (pI a5), some (pI a6), some (pI a7)]) (fun (t13 : Unit) => []) (fun (t13 : Unit) => r4.2) 52 (fun t13 => ?_) (fun j12 hj12 => ?_)
        · refine v_iload dX11_goods_52 rfl ?_
          refine v_iconst dX11_goods_54 (by decide) ?_
          refine v_join (fun (t15 : Unit) => [some (pA a0), none, none, none, none, some (pI a5), some (pI a6), some (pI a7)]) (fun (t15 : Unit) => []) (fun (t15 : Unit) => r4.2) 69 (fun t15 => ?_) (fun j14 hj14 => ?_)
          · refine v_iload dX11_goods_69 rfl ?_
            refine v_iconst dX11_goods_71 (by decide) ?_
            refine v_icmp_ne (tgt := 90) dX11_goods_72 (by decide) (fun c16 => ?_) (fun c16 => ?_)
            · refine v_aload_n dX11_goods_75 rfl ?_
              refine v_if (fun h17 => ?_)
              refine v_get (v := pA (r4.2.1 a0 29)) 10 29 rfl inX11 (by decide) tw1222 dX11_goods_76 h17 rfl ?_
              refine v_iconst dX11_goods_79 (by decide) ?_
              refine v_iload dX11_goods_80 rfl ?_
              refine v_imul dX11_goods_82 ?_
              refine v_iload dX11_goods_83 rfl ?_
              refine v_iadd dX11_goods_85 ?_
              refine v_if (fun h18 => ?_)
              refine v_iaload h18 dX11_goods_86 ?_
              refine v_goto (tgt := 125) dX11_goods_87 (by decide) ?_
              exact v_ireturn dX11_goods_125 rfl rfl
            · refine v_iload dX11_goods_90 rfl ?_
              refine v_iconst dX11_goods_92 (by decide) ?_
              refine v_icmp_ne (tgt := 111) dX11_goods_93 (by decide) (fun c19 => ?_) (fun c19 => ?_)
              · refine v_aload_n dX11_goods_96 rfl ?_
                refine v_if (fun h20 => ?_)
                refine v_get (v := pA (r4.2.1 a0 30)) 10 30 rfl inX11 (by decide) tw1223 dX11_goods_97 h20 rfl ?_
                refine v_iconst dX11_goods_100 (by decide) ?_
                refine v_iload dX11_goods_101 rfl ?_
                refine v_imul dX11_goods_103 ?_
                refine v_iload dX11_goods_104 rfl ?_
                refine v_iadd dX11_goods_106 ?_
                refine v_if (fun h21 => ?_)
                refine v_iaload h21 dX11_goods_107 ?_
                refine v_goto (tgt := 125) dX11_goods_108 (by decide) ?_
                exact v_ireturn dX11_goods_125 rfl rfl
              · refine v_aload_n dX11_goods_111 rfl ?_
                refine v_if (fun h22 => ?_)
                refine v_get (v := pA (r4.2.1 a0 31)) 10 31 rfl inX11 (by decide) tw1224 dX11_goods_112 h22 rfl ?_
                refine v_iload dX11_goods_115 rfl ?_
                refine v_iload dX11_goods_117 rfl ?_
                refine v_iload dX11_goods_119 rfl ?_
                refine v_cS (mi := mX11_goods) (c0 := 0) (c1 := 0) (As := [pI a5, pI a6, pI a7]) (st := [pA (r4.2.1 a0 31)]) (kX11_place d (by omega) _ _ _ _) okX11_place (Or.inl tw1594) tw1595 rfl (Nat.le_of_ble_eq_true rfl) dX11_goods_121 (fun r23 => [pI r23, pA (r4.2.1 a0 31)]) (fun r23 => r4.2) (fun _ => rfl) (fun _ => rfl) (fun r23 h24 => ?_) rfl
                refine v_if (fun h25 => ?_)
                refine v_iaload h25 dX11_goods_124 ?_
                exact v_ireturn dX11_goods_125 rfl rfl
          · refine v_icmp_eq (tgt := 69) dX11_goods_55 (by decide) (fun c26 => ?_) (fun c26 => ?_)
            · exact hj14 ()
            · refine v_aload_n dX11_goods_58 rfl ?_
              refine v_iload dX11_goods_59 rfl ?_
              refine v_if (fun h29 => ?_)
              refine v_cV (mi := mX11_goods) (c0 := 0) (c1 := 0) (As := [pI a6]) (st := []) (kX11_isHouse d (by omega) _ _ _) rfl h29 rfl okX11_isHouse (Or.inl tw1508) tw1510 tp56 rfl (Nat.le_of_ble_eq_true rfl) dX11_goods_61 (fun r27 => [pI r27]) (fun r27 => r4.2) (fun _ => rfl) (fun _ => rfl) (fun r27 h28 => ?_) rfl
              refine v_if_ne (tgt := 69) dX11_goods_64 (by decide) (fun c30 => ?_) (fun c30 => ?_)
              · refine v_iconst dX11_goods_67 (by decide) ?_
                exact v_ireturn dX11_goods_68 rfl rfl
              · exact hj14 ()
        · refine v_icmp_eq (tgt := 52) dX11_goods_40 (by decide) (fun c31 => ?_) (fun c31 => ?_)
          · exact hj12 ()
          · refine v_aload_n dX11_goods_43 rfl ?_
            refine v_iload dX11_goods_44 rfl ?_
            refine v_if (fun h34 => ?_)
            refine v_cV (mi := mX11_goods) (c0 := 0) (c1 := 0) (As := [pI a5]) (st := []) (kX11_isThief d (by omega) _ _ _) rfl h34 rfl okX11_isThief (Or.inl tw1515) tw1517 tp57 rfl (Nat.le_of_ble_eq_true rfl) dX11_goods_46 (fun r32 => [pI r32]) (fun r32 => r4.2) (fun _ => rfl) (fun _ => rfl) (fun r32 h33 => ?_) rfl
            refine v_if_eq (tgt := 67) dX11_goods_49 (by decide) (fun c35 => ?_) (fun c35 => ?_)
            · refine v_iconst dX11_goods_67 (by decide) ?_
              exact v_ireturn dX11_goods_68 rfl rfl
            · exact hj12 ()
      · refine v_icmp_ne (tgt := 37) dX11_goods_28 (by decide) (fun c36 => ?_) (fun c36 => ?_)
        · refine v_iload dX11_goods_31 rfl ?_
          refine v_iconst dX11_goods_33 (by decide) ?_
          refine v_icmp_eq (tgt := 67) dX11_goods_34 (by decide) (fun c37 => ?_) (fun c37 => ?_)
          · refine v_iconst dX11_goods_67 (by decide) ?_
            exact v_ireturn dX11_goods_68 rfl rfl
          · exact v_drop [some (pA a0), none, none, none, none, some (pI a5), some (pI a6), some (pI a7)] (ls_s (ls_n (ls_n (ls_n (ls_n (ls_s (ls_s (ls_s ls_e)))))))) (hj10 ())
        · exact v_drop [some (pA a0), none, none, none, none, some (pI a5), some (pI a6), some (pI a7)] (ls_s (ls_n (ls_n (ls_n (ls_n (ls_s (ls_s (ls_s ls_e)))))))) (hj10 ())
theorem chX11_aidGood_0 : (cX11_aidGood.data.toList.drop 0).take 16 = [3, 61, 3, 62, 29, 42, 180, 1, 25, 162, 0, 29, 42, 180, 0, 77] := by decide +kernel
theorem chX11_aidGood_1 : (cX11_aidGood.data.toList.drop 16).take 16 = [8, 29, 104, 27, 96, 3, 79, 28, 42, 29, 27, 182, 1, 46, 96, 61] := by decide +kernel
theorem chX11_aidGood_2 : (cX11_aidGood.data.toList.drop 32).take 16 = [132, 3, 1, 167, 255, 225, 3, 62, 29, 16, 10, 162, 0, 102, 3, 54] := by decide +kernel
theorem chX11_aidGood_3 : (cX11_aidGood.data.toList.drop 48).take 16 = [4, 21, 4, 42, 180, 1, 25, 162, 0, 84, 42, 16, 62, 21, 4, 96] := by decide +kernel
theorem chX11_aidGood_4 : (cX11_aidGood.data.toList.drop 64).take 16 = [182, 1, 21, 29, 160, 0, 17, 28, 42, 21, 4, 27, 182, 1, 43, 184] := by decide +kernel
theorem chX11_aidGood_5 : (cX11_aidGood.data.toList.drop 80).take 16 = [1, 143, 167, 0, 4, 3, 54, 5, 42, 180, 0, 77, 8, 21, 4, 104] := by decide +kernel
theorem chX11_aidGood_6 : (cX11_aidGood.data.toList.drop 96).take 16 = [27, 96, 92, 46, 21, 5, 96, 79, 28, 21, 5, 100, 61, 42, 89, 180] := by decide +kernel
theorem chX11_aidGood_7 : (cX11_aidGood.data.toList.drop 112).take 16 = [1, 146, 21, 5, 29, 104, 96, 181, 1, 146, 42, 89, 180, 1, 149, 21] := by decide +kernel
theorem chX11_aidGood_8 : (cX11_aidGood.data.toList.drop 128).take 16 = [5, 96, 181, 1, 149, 132, 4, 1, 167, 255, 169, 132, 3, 1, 167, 255] := by decide +kernel
theorem chX11_aidGood_9 : (cX11_aidGood.data.toList.drop 144).take 16 = [154, 28, 154, 0, 7, 4, 167, 0, 4, 3, 172] := by decide +kernel
theorem dX11_aidGood_0 : decode cX11_aidGood 0 = .ok (.iconst 0, 1) := oq_3 (byt chX11_aidGood_0 0 rfl)
theorem dX11_aidGood_1 : decode cX11_aidGood 1 = .ok (.istore_n 2, 1) := oq_61 (byt chX11_aidGood_0 1 rfl)
theorem dX11_aidGood_2 : decode cX11_aidGood 2 = .ok (.iconst 0, 1) := oq_3 (byt chX11_aidGood_0 2 rfl)
theorem dX11_aidGood_3 : decode cX11_aidGood 3 = .ok (.istore_n 3, 1) := oq_62 (byt chX11_aidGood_0 3 rfl)
theorem dX11_aidGood_4 : decode cX11_aidGood 4 = .ok (.iload_n 3, 1) := oq_29 (byt chX11_aidGood_0 4 rfl)
theorem dX11_aidGood_5 : decode cX11_aidGood 5 = .ok (.aload_n 0, 1) := oq_42 (byt chX11_aidGood_0 5 rfl)
theorem dX11_aidGood_6 : decode cX11_aidGood 6 = .ok (.getfield 281, 3) := oq_180 (byt chX11_aidGood_0 6 rfl) (byt chX11_aidGood_0 7 rfl) (byt chX11_aidGood_0 8 rfl) rfl
theorem dX11_aidGood_9 : decode cX11_aidGood 9 = .ok (.if_icmp .ge 29, 3) := oq_162 (byt chX11_aidGood_0 9 rfl) (byt chX11_aidGood_0 10 rfl) (byt chX11_aidGood_0 11 rfl) (by decide +kernel)
theorem dX11_aidGood_12 : decode cX11_aidGood 12 = .ok (.aload_n 0, 1) := oq_42 (byt chX11_aidGood_0 12 rfl)
theorem dX11_aidGood_13 : decode cX11_aidGood 13 = .ok (.getfield 77, 3) := oq_180 (byt chX11_aidGood_0 13 rfl) (byt chX11_aidGood_0 14 rfl) (byt chX11_aidGood_0 15 rfl) rfl
theorem dX11_aidGood_16 : decode cX11_aidGood 16 = .ok (.iconst 5, 1) := oq_8 (byt chX11_aidGood_1 0 rfl)
theorem dX11_aidGood_17 : decode cX11_aidGood 17 = .ok (.iload_n 3, 1) := oq_29 (byt chX11_aidGood_1 1 rfl)
theorem dX11_aidGood_18 : decode cX11_aidGood 18 = .ok (.imul, 1) := oq_104 (byt chX11_aidGood_1 2 rfl)
theorem dX11_aidGood_19 : decode cX11_aidGood 19 = .ok (.iload_n 1, 1) := oq_27 (byt chX11_aidGood_1 3 rfl)
theorem dX11_aidGood_20 : decode cX11_aidGood 20 = .ok (.iadd, 1) := oq_96 (byt chX11_aidGood_1 4 rfl)
theorem dX11_aidGood_21 : decode cX11_aidGood 21 = .ok (.iconst 0, 1) := oq_3 (byt chX11_aidGood_1 5 rfl)
theorem dX11_aidGood_22 : decode cX11_aidGood 22 = .ok (.iastore, 1) := oq_79 (byt chX11_aidGood_1 6 rfl)
theorem dX11_aidGood_23 : decode cX11_aidGood 23 = .ok (.iload_n 2, 1) := oq_28 (byt chX11_aidGood_1 7 rfl)
theorem dX11_aidGood_24 : decode cX11_aidGood 24 = .ok (.aload_n 0, 1) := oq_42 (byt chX11_aidGood_1 8 rfl)
theorem dX11_aidGood_25 : decode cX11_aidGood 25 = .ok (.iload_n 3, 1) := oq_29 (byt chX11_aidGood_1 9 rfl)
theorem dX11_aidGood_26 : decode cX11_aidGood 26 = .ok (.iload_n 1, 1) := oq_27 (byt chX11_aidGood_1 10 rfl)
theorem dX11_aidGood_27 : decode cX11_aidGood 27 = .ok (.invokevirtual 302, 3) := oq_182 (byt chX11_aidGood_1 11 rfl) (byt chX11_aidGood_1 12 rfl) (byt chX11_aidGood_1 13 rfl) rfl
theorem dX11_aidGood_30 : decode cX11_aidGood 30 = .ok (.iadd, 1) := oq_96 (byt chX11_aidGood_1 14 rfl)
theorem dX11_aidGood_31 : decode cX11_aidGood 31 = .ok (.istore_n 2, 1) := oq_61 (byt chX11_aidGood_1 15 rfl)
theorem dX11_aidGood_32 : decode cX11_aidGood 32 = .ok (.iinc 3 1, 3) := oq_132 (byt chX11_aidGood_2 0 rfl) (byt chX11_aidGood_2 1 rfl) (byt chX11_aidGood_2 2 rfl) rfl
theorem dX11_aidGood_35 : decode cX11_aidGood 35 = .ok (.goto (-31), 3) := oq_167 (byt chX11_aidGood_2 3 rfl) (byt chX11_aidGood_2 4 rfl) (byt chX11_aidGood_2 5 rfl) (by decide +kernel)
theorem dX11_aidGood_38 : decode cX11_aidGood 38 = .ok (.iconst 0, 1) := oq_3 (byt chX11_aidGood_2 6 rfl)
theorem dX11_aidGood_39 : decode cX11_aidGood 39 = .ok (.istore_n 3, 1) := oq_62 (byt chX11_aidGood_2 7 rfl)
theorem dX11_aidGood_40 : decode cX11_aidGood 40 = .ok (.iload_n 3, 1) := oq_29 (byt chX11_aidGood_2 8 rfl)
theorem dX11_aidGood_41 : decode cX11_aidGood 41 = .ok (.bipush 10, 2) := oq_16 (byt chX11_aidGood_2 9 rfl) (byt chX11_aidGood_2 10 rfl) rfl
theorem dX11_aidGood_43 : decode cX11_aidGood 43 = .ok (.if_icmp .ge 102, 3) := oq_162 (byt chX11_aidGood_2 11 rfl) (byt chX11_aidGood_2 12 rfl) (byt chX11_aidGood_2 13 rfl) (by decide +kernel)
theorem dX11_aidGood_46 : decode cX11_aidGood 46 = .ok (.iconst 0, 1) := oq_3 (byt chX11_aidGood_2 14 rfl)
theorem dX11_aidGood_47 : decode cX11_aidGood 47 = .ok (.istore 4, 2) := oq_54 (byt chX11_aidGood_2 15 rfl) (byt chX11_aidGood_3 0 rfl) rfl
theorem dX11_aidGood_49 : decode cX11_aidGood 49 = .ok (.iload 4, 2) := oq_21 (byt chX11_aidGood_3 1 rfl) (byt chX11_aidGood_3 2 rfl) rfl
theorem dX11_aidGood_51 : decode cX11_aidGood 51 = .ok (.aload_n 0, 1) := oq_42 (byt chX11_aidGood_3 3 rfl)
theorem dX11_aidGood_52 : decode cX11_aidGood 52 = .ok (.getfield 281, 3) := oq_180 (byt chX11_aidGood_3 4 rfl) (byt chX11_aidGood_3 5 rfl) (byt chX11_aidGood_3 6 rfl) rfl
theorem dX11_aidGood_55 : decode cX11_aidGood 55 = .ok (.if_icmp .ge 84, 3) := oq_162 (byt chX11_aidGood_3 7 rfl) (byt chX11_aidGood_3 8 rfl) (byt chX11_aidGood_3 9 rfl) (by decide +kernel)
theorem dX11_aidGood_58 : decode cX11_aidGood 58 = .ok (.aload_n 0, 1) := oq_42 (byt chX11_aidGood_3 10 rfl)
theorem dX11_aidGood_59 : decode cX11_aidGood 59 = .ok (.bipush 62, 2) := oq_16 (byt chX11_aidGood_3 11 rfl) (byt chX11_aidGood_3 12 rfl) rfl
theorem dX11_aidGood_61 : decode cX11_aidGood 61 = .ok (.iload 4, 2) := oq_21 (byt chX11_aidGood_3 13 rfl) (byt chX11_aidGood_3 14 rfl) rfl
theorem dX11_aidGood_63 : decode cX11_aidGood 63 = .ok (.iadd, 1) := oq_96 (byt chX11_aidGood_3 15 rfl)
theorem dX11_aidGood_64 : decode cX11_aidGood 64 = .ok (.invokevirtual 277, 3) := oq_182 (byt chX11_aidGood_4 0 rfl) (byt chX11_aidGood_4 1 rfl) (byt chX11_aidGood_4 2 rfl) rfl
theorem dX11_aidGood_67 : decode cX11_aidGood 67 = .ok (.iload_n 3, 1) := oq_29 (byt chX11_aidGood_4 3 rfl)
theorem dX11_aidGood_68 : decode cX11_aidGood 68 = .ok (.if_icmp .ne 17, 3) := oq_160 (byt chX11_aidGood_4 4 rfl) (byt chX11_aidGood_4 5 rfl) (byt chX11_aidGood_4 6 rfl) (by decide +kernel)
theorem dX11_aidGood_71 : decode cX11_aidGood 71 = .ok (.iload_n 2, 1) := oq_28 (byt chX11_aidGood_4 7 rfl)
theorem dX11_aidGood_72 : decode cX11_aidGood 72 = .ok (.aload_n 0, 1) := oq_42 (byt chX11_aidGood_4 8 rfl)
theorem dX11_aidGood_73 : decode cX11_aidGood 73 = .ok (.iload 4, 2) := oq_21 (byt chX11_aidGood_4 9 rfl) (byt chX11_aidGood_4 10 rfl) rfl
theorem dX11_aidGood_75 : decode cX11_aidGood 75 = .ok (.iload_n 1, 1) := oq_27 (byt chX11_aidGood_4 11 rfl)
theorem dX11_aidGood_76 : decode cX11_aidGood 76 = .ok (.invokevirtual 299, 3) := oq_182 (byt chX11_aidGood_4 12 rfl) (byt chX11_aidGood_4 13 rfl) (byt chX11_aidGood_4 14 rfl) rfl
theorem dX11_aidGood_79 : decode cX11_aidGood 79 = .ok (.invokestatic 399, 3) := oq_184 (byt chX11_aidGood_4 15 rfl) (byt chX11_aidGood_5 0 rfl) (byt chX11_aidGood_5 1 rfl) rfl
theorem dX11_aidGood_82 : decode cX11_aidGood 82 = .ok (.goto 4, 3) := oq_167 (byt chX11_aidGood_5 2 rfl) (byt chX11_aidGood_5 3 rfl) (byt chX11_aidGood_5 4 rfl) (by decide +kernel)
theorem dX11_aidGood_85 : decode cX11_aidGood 85 = .ok (.iconst 0, 1) := oq_3 (byt chX11_aidGood_5 5 rfl)
theorem dX11_aidGood_86 : decode cX11_aidGood 86 = .ok (.istore 5, 2) := oq_54 (byt chX11_aidGood_5 6 rfl) (byt chX11_aidGood_5 7 rfl) rfl
theorem dX11_aidGood_88 : decode cX11_aidGood 88 = .ok (.aload_n 0, 1) := oq_42 (byt chX11_aidGood_5 8 rfl)
theorem dX11_aidGood_89 : decode cX11_aidGood 89 = .ok (.getfield 77, 3) := oq_180 (byt chX11_aidGood_5 9 rfl) (byt chX11_aidGood_5 10 rfl) (byt chX11_aidGood_5 11 rfl) rfl
theorem dX11_aidGood_92 : decode cX11_aidGood 92 = .ok (.iconst 5, 1) := oq_8 (byt chX11_aidGood_5 12 rfl)
theorem dX11_aidGood_93 : decode cX11_aidGood 93 = .ok (.iload 4, 2) := oq_21 (byt chX11_aidGood_5 13 rfl) (byt chX11_aidGood_5 14 rfl) rfl
theorem dX11_aidGood_95 : decode cX11_aidGood 95 = .ok (.imul, 1) := oq_104 (byt chX11_aidGood_5 15 rfl)
theorem dX11_aidGood_96 : decode cX11_aidGood 96 = .ok (.iload_n 1, 1) := oq_27 (byt chX11_aidGood_6 0 rfl)
theorem dX11_aidGood_97 : decode cX11_aidGood 97 = .ok (.iadd, 1) := oq_96 (byt chX11_aidGood_6 1 rfl)
theorem dX11_aidGood_98 : decode cX11_aidGood 98 = .ok (.dup2, 1) := oq_92 (byt chX11_aidGood_6 2 rfl)
theorem dX11_aidGood_99 : decode cX11_aidGood 99 = .ok (.iaload, 1) := oq_46 (byt chX11_aidGood_6 3 rfl)
theorem dX11_aidGood_100 : decode cX11_aidGood 100 = .ok (.iload 5, 2) := oq_21 (byt chX11_aidGood_6 4 rfl) (byt chX11_aidGood_6 5 rfl) rfl
theorem dX11_aidGood_102 : decode cX11_aidGood 102 = .ok (.iadd, 1) := oq_96 (byt chX11_aidGood_6 6 rfl)
theorem dX11_aidGood_103 : decode cX11_aidGood 103 = .ok (.iastore, 1) := oq_79 (byt chX11_aidGood_6 7 rfl)
theorem dX11_aidGood_104 : decode cX11_aidGood 104 = .ok (.iload_n 2, 1) := oq_28 (byt chX11_aidGood_6 8 rfl)
theorem dX11_aidGood_105 : decode cX11_aidGood 105 = .ok (.iload 5, 2) := oq_21 (byt chX11_aidGood_6 9 rfl) (byt chX11_aidGood_6 10 rfl) rfl
theorem dX11_aidGood_107 : decode cX11_aidGood 107 = .ok (.isub, 1) := oq_100 (byt chX11_aidGood_6 11 rfl)
theorem dX11_aidGood_108 : decode cX11_aidGood 108 = .ok (.istore_n 2, 1) := oq_61 (byt chX11_aidGood_6 12 rfl)
theorem dX11_aidGood_109 : decode cX11_aidGood 109 = .ok (.aload_n 0, 1) := oq_42 (byt chX11_aidGood_6 13 rfl)
theorem dX11_aidGood_110 : decode cX11_aidGood 110 = .ok (.dup, 1) := oq_89 (byt chX11_aidGood_6 14 rfl)
theorem dX11_aidGood_111 : decode cX11_aidGood 111 = .ok (.getfield 402, 3) := oq_180 (byt chX11_aidGood_6 15 rfl) (byt chX11_aidGood_7 0 rfl) (byt chX11_aidGood_7 1 rfl) rfl
theorem dX11_aidGood_114 : decode cX11_aidGood 114 = .ok (.iload 5, 2) := oq_21 (byt chX11_aidGood_7 2 rfl) (byt chX11_aidGood_7 3 rfl) rfl
theorem dX11_aidGood_116 : decode cX11_aidGood 116 = .ok (.iload_n 3, 1) := oq_29 (byt chX11_aidGood_7 4 rfl)
theorem dX11_aidGood_117 : decode cX11_aidGood 117 = .ok (.imul, 1) := oq_104 (byt chX11_aidGood_7 5 rfl)
theorem dX11_aidGood_118 : decode cX11_aidGood 118 = .ok (.iadd, 1) := oq_96 (byt chX11_aidGood_7 6 rfl)
theorem dX11_aidGood_119 : decode cX11_aidGood 119 = .ok (.putfield 402, 3) := oq_181 (byt chX11_aidGood_7 7 rfl) (byt chX11_aidGood_7 8 rfl) (byt chX11_aidGood_7 9 rfl) rfl
theorem dX11_aidGood_122 : decode cX11_aidGood 122 = .ok (.aload_n 0, 1) := oq_42 (byt chX11_aidGood_7 10 rfl)
theorem dX11_aidGood_123 : decode cX11_aidGood 123 = .ok (.dup, 1) := oq_89 (byt chX11_aidGood_7 11 rfl)
theorem dX11_aidGood_124 : decode cX11_aidGood 124 = .ok (.getfield 405, 3) := oq_180 (byt chX11_aidGood_7 12 rfl) (byt chX11_aidGood_7 13 rfl) (byt chX11_aidGood_7 14 rfl) rfl
theorem dX11_aidGood_127 : decode cX11_aidGood 127 = .ok (.iload 5, 2) := oq_21 (byt chX11_aidGood_7 15 rfl) (byt chX11_aidGood_8 0 rfl) rfl
theorem dX11_aidGood_129 : decode cX11_aidGood 129 = .ok (.iadd, 1) := oq_96 (byt chX11_aidGood_8 1 rfl)
theorem dX11_aidGood_130 : decode cX11_aidGood 130 = .ok (.putfield 405, 3) := oq_181 (byt chX11_aidGood_8 2 rfl) (byt chX11_aidGood_8 3 rfl) (byt chX11_aidGood_8 4 rfl) rfl
theorem dX11_aidGood_133 : decode cX11_aidGood 133 = .ok (.iinc 4 1, 3) := oq_132 (byt chX11_aidGood_8 5 rfl) (byt chX11_aidGood_8 6 rfl) (byt chX11_aidGood_8 7 rfl) rfl
theorem dX11_aidGood_136 : decode cX11_aidGood 136 = .ok (.goto (-87), 3) := oq_167 (byt chX11_aidGood_8 8 rfl) (byt chX11_aidGood_8 9 rfl) (byt chX11_aidGood_8 10 rfl) (by decide +kernel)
theorem dX11_aidGood_139 : decode cX11_aidGood 139 = .ok (.iinc 3 1, 3) := oq_132 (byt chX11_aidGood_8 11 rfl) (byt chX11_aidGood_8 12 rfl) (byt chX11_aidGood_8 13 rfl) rfl
theorem dX11_aidGood_142 : decode cX11_aidGood 142 = .ok (.goto (-102), 3) := oq_167 (byt chX11_aidGood_8 14 rfl) (byt chX11_aidGood_8 15 rfl) (byt chX11_aidGood_9 0 rfl) (by decide +kernel)
theorem dX11_aidGood_145 : decode cX11_aidGood 145 = .ok (.iload_n 2, 1) := oq_28 (byt chX11_aidGood_9 1 rfl)
theorem dX11_aidGood_146 : decode cX11_aidGood 146 = .ok (.ifCond .ne 7, 3) := oq_154 (byt chX11_aidGood_9 2 rfl) (byt chX11_aidGood_9 3 rfl) (byt chX11_aidGood_9 4 rfl) (by decide +kernel)
theorem dX11_aidGood_149 : decode cX11_aidGood 149 = .ok (.iconst 1, 1) := oq_4 (byt chX11_aidGood_9 5 rfl)
theorem dX11_aidGood_150 : decode cX11_aidGood 150 = .ok (.goto 4, 3) := oq_167 (byt chX11_aidGood_9 6 rfl) (byt chX11_aidGood_9 7 rfl) (byt chX11_aidGood_9 8 rfl) (by decide +kernel)
theorem dX11_aidGood_153 : decode cX11_aidGood 153 = .ok (.iconst 0, 1) := oq_3 (byt chX11_aidGood_9 9 rfl)
theorem dX11_aidGood_154 : decode cX11_aidGood 154 = .ok (.ireturn, 1) := oq_172 (byt chX11_aidGood_9 10 rfl)
abbrev mX11_aidGood : MI := (yX11_aidGood, cX11_aidGood, 6, (some .boolean), noE)
theorem okX11_aidGood : cok mX11_aidGood 1 := ⟨tw1664, tw11, by decide, by decide, by decide, by decide +kernel⟩
def fX11_aidGood (M : Mem) (a0 a1 : Int) : Option (Int × Mem) :=
  iterC (fun (rec1 : (Int × Int × Mem) → Option (Int × Mem)) (s2 : Int × Int × Mem) => if s2.2.2.2.1 a0 = 10 then if s2.2.1 < s2.2.2.1 a0 25 then (if s2.2.2.2.1 (s2.2.2.1 a0 43) = 12 ∧ (0 : Int) ≤ (w32 ((w32 (5 * s2.2.1)) + a1)) ∧ (w32 ((w32 (5 * s2.2.1)) + a1)) < s2.2.2.2.2.1 (s2.2.2.1 a0 43) then bM (mst s2.2.2 (s2.2.2.1 a0 43) (w32 ((w32 (5 * s2.2.1)) + a1)) 0) fun M6 => (fX11_lacks M6 a0 s2.2.1 a1).bind fun r8 => rec1 (w32 (s2.1 + r8), w32 (s2.2.1 + 1), M6) else none) else (iterC (fun (rec10 : (Int × Int × Mem) → Option (Int × Mem)) (s11 : Int × Int × Mem) => if s11.2.1 < 10 then (iterC (fun (rec13 : (Int × Int × Mem) → Option (Int × Mem)) (s14 : Int × Int × Mem) => if s14.2.2.2.1 a0 = 10 then if s14.2.1 < s14.2.2.1 a0 25 then ((fX11_of s14.2.2 a0 (w32 (62 + s14.2.1))).bind fun r17 => jn (fun (t20 : Int) => if s14.2.2.2.1 (s14.2.2.1 a0 43) = 12 ∧ (0 : Int) ≤ (w32 ((w32 (5 * s14.2.1)) + a1)) ∧ (w32 ((w32 (5 * s14.2.1)) + a1)) < s14.2.2.2.2.1 (s14.2.2.1 a0 43) then if s14.2.2.2.1 (s14.2.2.1 a0 43) = 12 ∧ (0 : Int) ≤ (w32 ((w32 (5 * s14.2.1)) + a1)) ∧ (w32 ((w32 (5 * s14.2.1)) + a1)) < s14.2.2.2.2.1 (s14.2.2.1 a0 43) then bM (mst s14.2.2 (s14.2.2.1 a0 43) (w32 ((w32 (5 * s14.2.1)) + a1)) (w32 ((s14.2.2.1 (s14.2.2.1 a0 43) (w32 ((w32 (5 * s14.2.1)) + a1))) + t20))) fun M23 => bM (mst M23 a0 44 (w32 ((M23.1 a0 44) + (w32 (t20 * s11.2.1))))) fun M25 => bM (mst M25 a0 45 (w32 ((M25.1 a0 45) + t20))) fun M27 => rec13 (w32 (s14.1 - t20), w32 (s14.2.1 + 1), M27) else none else none) (fun (j19 : Int → Option (Int × Mem)) => if r17 = s11.2.1 then ((fX11_spare s14.2.2 a0 s14.2.1 a1).bind fun r30 => (fX11_lesser s14.2.2 s14.1 r30).bind fun r32 => j19 r32) else (j19 0))) else (rec10 (s14.1, w32 (s11.2.1 + 1), s14.2.2)) else none) BIG (s11.1, 0, s11.2.2)) else (if s11.1 = 0 then (some (1, s11.2.2)) else (some (0, s11.2.2)))) BIG (s2.1, 0, s2.2.2)) else none) BIG (0, 0, M)
set_option maxRecDepth 100000 in
set_option maxHeartbeats 4000000 in
theorem kX11_aidGood (d : Nat) (hd : 2 ≤ d) (M : Mem) (a0 a1 : Int) : Ct mX11_aidGood d 0 0 [pA a0, pI a1] M dIM (fX11_aidGood M a0 a1) := by
  obtain ⟨d, rfl⟩ : ∃ k, d = k + 1 := ⟨d - 1, by omega⟩
  refine Ct.of 4 (fun _ _ _ => trivial) (by decide +kernel) rfl ?_
  unfold fX11_aidGood
  refine v_iconst dX11_aidGood_0 (by decide) ?_
  refine v_istore_n (ls' := [some (pA a0), some (pI a1), some (pI 0), none, none, none]) dX11_aidGood_1 (by decide) rfl ?_
  refine v_iconst dX11_aidGood_2 (by decide) ?_
  refine v_istore_n (ls' := [some (pA a0), some (pI a1), some (pI 0), some (pI 0), none, none]) dX11_aidGood_3 (by decide) rfl ?_
  refine v_loop (fun (s2 : Int × Int × Mem) => [some (pA a0), some (pI a1), some (pI s2.1), some (pI s2.2.1), none, none]) (fun (s2 : Int × Int × Mem) => s2.2.2) (s0 := (0, 0, M)) ?_
  intro rec1 hrec1 s2
  refine v_iload_n dX11_aidGood_4 rfl ?_
  refine v_aload_n dX11_aidGood_5 rfl ?_
  refine v_if (fun h3 => ?_)
  refine v_get (v := pI (s2.2.2.1 a0 25)) 10 25 rfl inX11 (by decide) tw1218 dX11_aidGood_6 h3 rfl ?_
  refine v_icmp_ge (tgt := 38) dX11_aidGood_9 (by decide) (fun c4 => ?_) (fun c4 => ?_)
  · refine v_aload_n dX11_aidGood_12 rfl ?_
    refine v_get (v := pA (s2.2.2.1 a0 43)) 10 43 rfl inX11 (by decide) tw1236 dX11_aidGood_13 h3 rfl ?_
    refine v_iconst dX11_aidGood_16 (by decide) ?_
    refine v_iload_n dX11_aidGood_17 rfl ?_
    refine v_imul dX11_aidGood_18 ?_
    refine v_iload_n dX11_aidGood_19 rfl ?_
    refine v_iadd dX11_aidGood_20 ?_
    refine v_iconst dX11_aidGood_21 (by decide) ?_
    refine v_if (fun h5 => ?_)
    refine v_iastore h5 dX11_aidGood_22 ?_
    refine v_bM (fun M6 e7 => ?_)
    refine v_iload_n dX11_aidGood_23 rfl ?_
    refine v_aload_n dX11_aidGood_24 rfl ?_
    refine v_iload_n dX11_aidGood_25 rfl ?_
    refine v_iload_n dX11_aidGood_26 rfl ?_
    refine v_cV (mi := mX11_aidGood) (c0 := 0) (c1 := 0) (As := [pI s2.2.1, pI a1]) (st := [pI s2.1]) (kX11_lacks d (by omega) _ _ _ _) rfl (by rw [e7]; exact h3) rfl okX11_lacks (Or.inl tw1527) tw1529 tp59 rfl (Nat.le_of_ble_eq_true rfl) dX11_aidGood_27 (fun r8 => [pI r8, pI s2.1]) (fun r8 => M6) (fun _ => rfl) (fun _ => rfl) (fun r8 h9 => ?_) rfl
    refine v_iadd dX11_aidGood_30 ?_
    refine v_istore_n (ls' := [some (pA a0), some (pI a1), some (pI (w32 (s2.1 + r8))), some (pI s2.2.1), none, none]) dX11_aidGood_31 (by decide) rfl ?_
    refine v_iinc (ls' := [some (pA a0), some (pI a1), some (pI (w32 (s2.1 + r8))), some (pI (w32 (s2.2.1 + 1))), none, none]) dX11_aidGood_32 (by decide) rfl rfl ?_
    refine v_goto (tgt := 4) dX11_aidGood_35 (by decide) ?_
    exact hrec1 (w32 (s2.1 + r8), w32 (s2.2.1 + 1), M6)
  · refine v_iconst dX11_aidGood_38 (by decide) ?_
    refine v_istore_n (ls' := [some (pA a0), some (pI a1), some (pI s2.1), some (pI 0), none, none]) dX11_aidGood_39 (by decide) rfl ?_
    refine v_loop (fun (s11 : Int × Int × Mem) => [some (pA a0), some (pI a1), some (pI s11.1), some (pI s11.2.1), none, none]) (fun (s11 : Int × Int × Mem) => s11.2.2) (s0 := (s2.1, 0, s2.2.2)) ?_
    intro rec10 hrec10 s11
    refine v_iload_n dX11_aidGood_40 rfl ?_
    refine v_bipush dX11_aidGood_41 (by decide) ?_
    refine v_icmp_ge (tgt := 145) dX11_aidGood_43 (by decide) (fun c12 => ?_) (fun c12 => ?_)
    · refine v_iconst dX11_aidGood_46 (by decide) ?_
      refine v_istore (ls' := [some (pA a0), some (pI a1), some (pI s11.1), some (pI s11.2.1), some (pI 0), none]) dX11_aidGood_47 (by decide) rfl ?_
      refine v_loop (fun (s14 : Int × Int × Mem) => [some (pA a0), some (pI a1), some (pI s14.1), some (pI s11.2.1), some (pI s14.2.1), none]) (fun (s14 : Int × Int × Mem) => s14.2.2) (s0 := (s11.1, 0, s11.2.2)) ?_
      intro rec13 hrec13 s14
      refine v_iload dX11_aidGood_49 rfl ?_
      refine v_aload_n dX11_aidGood_51 rfl ?_
      refine v_if (fun h15 => ?_)
      refine v_get (v := pI (s14.2.2.1 a0 25)) 10 25 rfl inX11 (by decide) tw1218 dX11_aidGood_52 h15 rfl ?_
      refine v_icmp_ge (tgt := 139) dX11_aidGood_55 (by decide) (fun c16 => ?_) (fun c16 => ?_)
      · refine v_aload_n dX11_aidGood_58 rfl ?_
        refine v_bipush dX11_aidGood_59 (by decide) ?_
        refine v_iload dX11_aidGood_61 rfl ?_
        refine v_iadd dX11_aidGood_63 ?_
        refine v_cV (mi := mX11_aidGood) (c0 := 0) (c1 := 0) (As := [pI (w32 (62 + s14.2.1))]) (st := []) (kX11_of d (by omega) _ _ _) rfl h15 rfl okX11_of (Or.inl tw1504) tw1506 tp55 rfl (Nat.le_of_ble_eq_true rfl) dX11_aidGood_64 (fun r17 => [pI r17]) (fun r17 => s14.2.2) (fun _ => rfl) (fun _ => rfl) (fun r17 h18 => ?_) rfl
        refine v_iload_n dX11_aidGood_67 rfl ?_
        refine v_join (fun (t20 : Int) => [some (pA a0), some (pI a1), some (pI s14.1), some (pI s11.2.1), some (pI s14.2.1), none]) (fun (t20 : Int) => [pI t20]) (fun (t20 : Int) => s14.2.2) 86 (fun t20 => ?_) (fun j19 hj19 => ?_)
        · refine v_istore (ls' := [some (pA a0), some (pI a1), some (pI s14.1), some (pI s11.2.1), some (pI s14.2.1), some (pI t20)]) dX11_aidGood_86 (by decide) rfl ?_
          refine v_aload_n dX11_aidGood_88 rfl ?_
          refine v_get (v := pA (s14.2.2.1 a0 43)) 10 43 rfl inX11 (by decide) tw1236 dX11_aidGood_89 h15 rfl ?_
          refine v_iconst dX11_aidGood_92 (by decide) ?_
          refine v_iload dX11_aidGood_93 rfl ?_
          refine v_imul dX11_aidGood_95 ?_
          refine v_iload_n dX11_aidGood_96 rfl ?_
          refine v_iadd dX11_aidGood_97 ?_
          refine v_dup2 dX11_aidGood_98 (by intro z hz; cases hz) (by intro z hz; cases hz) ?_
          refine v_if (fun h21 => ?_)
          refine v_iaload h21 dX11_aidGood_99 ?_
          refine v_iload dX11_aidGood_100 rfl ?_
          refine v_iadd dX11_aidGood_102 ?_
          refine v_if (fun h22 => ?_)
          refine v_iastore h22 dX11_aidGood_103 ?_
          refine v_bM (fun M23 e24 => ?_)
          refine v_iload_n dX11_aidGood_104 rfl ?_
          refine v_iload dX11_aidGood_105 rfl ?_
          refine v_isub dX11_aidGood_107 ?_
          refine v_istore_n (ls' := [some (pA a0), some (pI a1), some (pI (w32 (s14.1 - t20))), some (pI s11.2.1), some (pI s14.2.1), some (pI t20)]) dX11_aidGood_108 (by decide) rfl ?_
          refine v_aload_n dX11_aidGood_109 rfl ?_
          refine v_dup dX11_aidGood_110 (by intro z hz; cases hz) ?_
          refine v_get (v := pI (M23.1 a0 44)) 10 44 rfl inX11 (by decide) tw1237 dX11_aidGood_111 (by rw [e24]; exact h15) rfl ?_
          refine v_iload dX11_aidGood_114 rfl ?_
          refine v_iload_n dX11_aidGood_116 rfl ?_
          refine v_imul dX11_aidGood_117 ?_
          refine v_iadd dX11_aidGood_118 ?_
          refine v_put (x := w32 ((M23.1 a0 44) + (w32 (t20 * s11.2.1)))) 10 44 rfl inX11 (by decide) tw1237 (Or.inl rfl) rfl dX11_aidGood_119 (by rw [e24]; exact h15) rfl id ?_
          refine v_bM (fun M25 e26 => ?_)
          refine v_aload_n dX11_aidGood_122 rfl ?_
          refine v_dup dX11_aidGood_123 (by intro z hz; cases hz) ?_
          refine v_get (v := pI (M25.1 a0 45)) 10 45 rfl inX11 (by decide) tw1238 dX11_aidGood_124 (by rw [e26, e24]; exact h15) rfl ?_
          refine v_iload dX11_aidGood_127 rfl ?_
          refine v_iadd dX11_aidGood_129 ?_
          refine v_put (x := w32 ((M25.1 a0 45) + t20)) 10 45 rfl inX11 (by decide) tw1238 (Or.inl rfl) rfl dX11_aidGood_130 (by rw [e26, e24]; exact h15) rfl id ?_
          refine v_bM (fun M27 e28 => ?_)
          refine v_iinc (ls' := [some (pA a0), some (pI a1), some (pI (w32 (s14.1 - t20))), some (pI s11.2.1), some (pI (w32 (s14.2.1 + 1))), some (pI t20)]) dX11_aidGood_133 (by decide) rfl rfl ?_
          refine v_goto (tgt := 49) dX11_aidGood_136 (by decide) ?_
          exact v_drop [some (pA a0), some (pI a1), some (pI (w32 (s14.1 - t20))), some (pI s11.2.1), some (pI (w32 (s14.2.1 + 1))), none] (ls_s (ls_s (ls_s (ls_s (ls_s (ls_n ls_e)))))) (hrec13 (w32 (s14.1 - t20), w32 (s14.2.1 + 1), M27))
        · refine v_icmp_ne (tgt := 85) dX11_aidGood_68 (by decide) (fun c29 => ?_) (fun c29 => ?_)
          · refine v_iload_n dX11_aidGood_71 rfl ?_
            refine v_aload_n dX11_aidGood_72 rfl ?_
            refine v_iload dX11_aidGood_73 rfl ?_
            refine v_iload_n dX11_aidGood_75 rfl ?_
            refine v_cV (mi := mX11_aidGood) (c0 := 0) (c1 := 0) (As := [pI s14.2.1, pI a1]) (st := [pI s14.1]) (kX11_spare d (by omega) _ _ _ _) rfl h15 rfl okX11_spare (Or.inl tw1523) tw1525 tp58 rfl (Nat.le_of_ble_eq_true rfl) dX11_aidGood_76 (fun r30 => [pI r30, pI s14.1]) (fun r30 => s14.2.2) (fun _ => rfl) (fun _ => rfl) (fun r30 h31 => ?_) rfl
            refine v_cS (mi := mX11_aidGood) (c0 := 0) (c1 := 0) (As := [pI s14.1, pI r30]) (st := []) (kX11_lesser d (by omega) _ _ _) okX11_lesser (Or.inl tw1665) tw1666 rfl (Nat.le_of_ble_eq_true rfl) dX11_aidGood_79 (fun r32 => [pI r32]) (fun r32 => s14.2.2) (fun _ => rfl) (fun _ => rfl) (fun r32 h33 => ?_) rfl
            refine v_goto (tgt := 86) dX11_aidGood_82 (by decide) ?_
            exact hj19 r32
          · refine v_iconst dX11_aidGood_85 (by decide) ?_
            exact hj19 0
      · refine v_iinc (ls' := [some (pA a0), some (pI a1), some (pI s14.1), some (pI (w32 (s11.2.1 + 1))), some (pI s14.2.1), none]) dX11_aidGood_139 (by decide) rfl rfl ?_
        refine v_goto (tgt := 40) dX11_aidGood_142 (by decide) ?_
        exact v_drop [some (pA a0), some (pI a1), some (pI s14.1), some (pI (w32 (s11.2.1 + 1))), none, none] (ls_s (ls_s (ls_s (ls_s (ls_n (ls_n ls_e)))))) (hrec10 (s14.1, w32 (s11.2.1 + 1), s14.2.2))
    · refine v_iload_n dX11_aidGood_145 rfl ?_
      refine v_if_ne (tgt := 153) dX11_aidGood_146 (by decide) (fun c34 => ?_) (fun c34 => ?_)
      · refine v_iconst dX11_aidGood_149 (by decide) ?_
        refine v_goto (tgt := 154) dX11_aidGood_150 (by decide) ?_
        exact v_breturn dX11_aidGood_154 rfl (by decide) rfl
      · refine v_iconst dX11_aidGood_153 (by decide) ?_
        exact v_breturn dX11_aidGood_154 rfl (by decide) rfl
theorem chX11_findAid_0 : (cX11_findAid.data.toList.drop 0).take 16 = [42, 3, 181, 1, 146, 42, 3, 181, 1, 149, 4, 60, 3, 61, 28, 8] := by decide +kernel
theorem chX11_findAid_1 : (cX11_findAid.data.toList.drop 16).take 16 = [162, 0, 27, 42, 28, 182, 1, 152, 153, 0, 11, 27, 153, 0, 7, 4] := by decide +kernel
theorem chX11_findAid_2 : (cX11_findAid.data.toList.drop 32).take 16 = [167, 0, 4, 3, 60, 132, 2, 1, 167, 255, 230, 27, 172] := by decide +kernel
theorem dX11_findAid_0 : decode cX11_findAid 0 = .ok (.aload_n 0, 1) := oq_42 (byt chX11_findAid_0 0 rfl)
theorem dX11_findAid_1 : decode cX11_findAid 1 = .ok (.iconst 0, 1) := oq_3 (byt chX11_findAid_0 1 rfl)
theorem dX11_findAid_2 : decode cX11_findAid 2 = .ok (.putfield 402, 3) := oq_181 (byt chX11_findAid_0 2 rfl) (byt chX11_findAid_0 3 rfl) (byt chX11_findAid_0 4 rfl) rfl
theorem dX11_findAid_5 : decode cX11_findAid 5 = .ok (.aload_n 0, 1) := oq_42 (byt chX11_findAid_0 5 rfl)
theorem dX11_findAid_6 : decode cX11_findAid 6 = .ok (.iconst 0, 1) := oq_3 (byt chX11_findAid_0 6 rfl)
theorem dX11_findAid_7 : decode cX11_findAid 7 = .ok (.putfield 405, 3) := oq_181 (byt chX11_findAid_0 7 rfl) (byt chX11_findAid_0 8 rfl) (byt chX11_findAid_0 9 rfl) rfl
theorem dX11_findAid_10 : decode cX11_findAid 10 = .ok (.iconst 1, 1) := oq_4 (byt chX11_findAid_0 10 rfl)
theorem dX11_findAid_11 : decode cX11_findAid 11 = .ok (.istore_n 1, 1) := oq_60 (byt chX11_findAid_0 11 rfl)
theorem dX11_findAid_12 : decode cX11_findAid 12 = .ok (.iconst 0, 1) := oq_3 (byt chX11_findAid_0 12 rfl)
theorem dX11_findAid_13 : decode cX11_findAid 13 = .ok (.istore_n 2, 1) := oq_61 (byt chX11_findAid_0 13 rfl)
theorem dX11_findAid_14 : decode cX11_findAid 14 = .ok (.iload_n 2, 1) := oq_28 (byt chX11_findAid_0 14 rfl)
theorem dX11_findAid_15 : decode cX11_findAid 15 = .ok (.iconst 5, 1) := oq_8 (byt chX11_findAid_0 15 rfl)
theorem dX11_findAid_16 : decode cX11_findAid 16 = .ok (.if_icmp .ge 27, 3) := oq_162 (byt chX11_findAid_1 0 rfl) (byt chX11_findAid_1 1 rfl) (byt chX11_findAid_1 2 rfl) (by decide +kernel)
theorem dX11_findAid_19 : decode cX11_findAid 19 = .ok (.aload_n 0, 1) := oq_42 (byt chX11_findAid_1 3 rfl)
theorem dX11_findAid_20 : decode cX11_findAid 20 = .ok (.iload_n 2, 1) := oq_28 (byt chX11_findAid_1 4 rfl)
theorem dX11_findAid_21 : decode cX11_findAid 21 = .ok (.invokevirtual 408, 3) := oq_182 (byt chX11_findAid_1 5 rfl) (byt chX11_findAid_1 6 rfl) (byt chX11_findAid_1 7 rfl) rfl
theorem dX11_findAid_24 : decode cX11_findAid 24 = .ok (.ifCond .eq 11, 3) := oq_153 (byt chX11_findAid_1 8 rfl) (byt chX11_findAid_1 9 rfl) (byt chX11_findAid_1 10 rfl) (by decide +kernel)
theorem dX11_findAid_27 : decode cX11_findAid 27 = .ok (.iload_n 1, 1) := oq_27 (byt chX11_findAid_1 11 rfl)
theorem dX11_findAid_28 : decode cX11_findAid 28 = .ok (.ifCond .eq 7, 3) := oq_153 (byt chX11_findAid_1 12 rfl) (byt chX11_findAid_1 13 rfl) (byt chX11_findAid_1 14 rfl) (by decide +kernel)
theorem dX11_findAid_31 : decode cX11_findAid 31 = .ok (.iconst 1, 1) := oq_4 (byt chX11_findAid_1 15 rfl)
theorem dX11_findAid_32 : decode cX11_findAid 32 = .ok (.goto 4, 3) := oq_167 (byt chX11_findAid_2 0 rfl) (byt chX11_findAid_2 1 rfl) (byt chX11_findAid_2 2 rfl) (by decide +kernel)
theorem dX11_findAid_35 : decode cX11_findAid 35 = .ok (.iconst 0, 1) := oq_3 (byt chX11_findAid_2 3 rfl)
theorem dX11_findAid_36 : decode cX11_findAid 36 = .ok (.istore_n 1, 1) := oq_60 (byt chX11_findAid_2 4 rfl)
theorem dX11_findAid_37 : decode cX11_findAid 37 = .ok (.iinc 2 1, 3) := oq_132 (byt chX11_findAid_2 5 rfl) (byt chX11_findAid_2 6 rfl) (byt chX11_findAid_2 7 rfl) rfl
theorem dX11_findAid_40 : decode cX11_findAid 40 = .ok (.goto (-26), 3) := oq_167 (byt chX11_findAid_2 8 rfl) (byt chX11_findAid_2 9 rfl) (byt chX11_findAid_2 10 rfl) (by decide +kernel)
theorem dX11_findAid_43 : decode cX11_findAid 43 = .ok (.iload_n 1, 1) := oq_27 (byt chX11_findAid_2 11 rfl)
theorem dX11_findAid_44 : decode cX11_findAid 44 = .ok (.ireturn, 1) := oq_172 (byt chX11_findAid_2 12 rfl)
abbrev mX11_findAid : MI := (yX11_findAid, cX11_findAid, 3, (some .boolean), noE)
theorem okX11_findAid : cok mX11_findAid 0 := ⟨tw1660, tw11, by decide, by decide, by decide, by decide +kernel⟩
def fX11_findAid (M : Mem) (a0 : Int) : Option (Int × Mem) :=
  if M.2.1 a0 = 10 then bM (mst M a0 44 0) fun M2 => bM (mst M2 a0 45 0) fun M4 => iterC (fun (rec6 : (Int × Int × Mem) → Option (Int × Mem)) (s7 : Int × Int × Mem) => if s7.2.1 < 5 then (if s7.2.2.2.1 a0 = 10 then (fX11_aidGood s7.2.2 a0 s7.2.1).bind fun r9 => if r9.1 = 0 then (rec6 (0, w32 (s7.2.1 + 1), r9.2)) else (if s7.1 = 0 then (rec6 (0, w32 (s7.2.1 + 1), r9.2)) else (rec6 (1, w32 (s7.2.1 + 1), r9.2))) else none) else (if s7.1 = 0 ∨ s7.1 = 1 then some (s7.1, s7.2.2) else none)) BIG (1, 0, M4) else none
set_option maxRecDepth 100000 in
set_option maxHeartbeats 4000000 in
theorem kX11_findAid (d : Nat) (hd : 3 ≤ d) (M : Mem) (a0 : Int) : Ct mX11_findAid d 0 0 [pA a0] M dIM (fX11_findAid M a0) := by
  obtain ⟨d, rfl⟩ : ∃ k, d = k + 1 := ⟨d - 1, by omega⟩
  refine Ct.of 2 (fun _ _ _ => trivial) (by decide +kernel) rfl ?_
  unfold fX11_findAid
  refine v_aload_n dX11_findAid_0 rfl ?_
  refine v_iconst dX11_findAid_1 (by decide) ?_
  refine v_if (fun h1 => ?_)
  refine v_put (x := 0) 10 44 rfl inX11 (by decide) tw1237 (Or.inl rfl) rfl dX11_findAid_2 h1 rfl id ?_
  refine v_bM (fun M2 e3 => ?_)
  refine v_aload_n dX11_findAid_5 rfl ?_
  refine v_iconst dX11_findAid_6 (by decide) ?_
  refine v_put (x := 0) 10 45 rfl inX11 (by decide) tw1238 (Or.inl rfl) rfl dX11_findAid_7 (by rw [e3]; exact h1) rfl id ?_
  refine v_bM (fun M4 e5 => ?_)
  refine v_iconst dX11_findAid_10 (by decide) ?_
  refine v_istore_n (ls' := [some (pA a0), some (pI 1), none]) dX11_findAid_11 (by decide) rfl ?_
  refine v_iconst dX11_findAid_12 (by decide) ?_
  refine v_istore_n (ls' := [some (pA a0), some (pI 1), some (pI 0)]) dX11_findAid_13 (by decide) rfl ?_
  refine v_loop (fun (s7 : Int × Int × Mem) => [some (pA a0), some (pI s7.1), some (pI s7.2.1)]) (fun (s7 : Int × Int × Mem) => s7.2.2) (s0 := (1, 0, M4)) ?_
  intro rec6 hrec6 s7
  refine v_iload_n dX11_findAid_14 rfl ?_
  refine v_iconst dX11_findAid_15 (by decide) ?_
  refine v_icmp_ge (tgt := 43) dX11_findAid_16 (by decide) (fun c8 => ?_) (fun c8 => ?_)
  · refine v_aload_n dX11_findAid_19 rfl ?_
    refine v_iload_n dX11_findAid_20 rfl ?_
    refine v_if (fun h11 => ?_)
    refine v_cV (mi := mX11_findAid) (c0 := 0) (c1 := 0) (As := [pI s7.2.1]) (st := []) (kX11_aidGood d (by omega) _ _ _) rfl h11 rfl okX11_aidGood (Or.inl tw1661) tw1663 tp85 rfl (Nat.le_of_ble_eq_true rfl) dX11_findAid_21 (fun r9 => [pI r9.1]) (fun r9 => r9.2) (fun _ => rfl) (fun _ => rfl) (fun r9 h10 => ?_) rfl
    refine v_if_eq (tgt := 35) dX11_findAid_24 (by decide) (fun c12 => ?_) (fun c12 => ?_)
    · refine v_iconst dX11_findAid_35 (by decide) ?_
      refine v_istore_n (ls' := [some (pA a0), some (pI 0), some (pI s7.2.1)]) dX11_findAid_36 (by decide) rfl ?_
      refine v_iinc (ls' := [some (pA a0), some (pI 0), some (pI (w32 (s7.2.1 + 1)))]) dX11_findAid_37 (by decide) rfl rfl ?_
      refine v_goto (tgt := 14) dX11_findAid_40 (by decide) ?_
      exact hrec6 (0, w32 (s7.2.1 + 1), r9.2)
    · refine v_iload_n dX11_findAid_27 rfl ?_
      refine v_if_eq (tgt := 35) dX11_findAid_28 (by decide) (fun c13 => ?_) (fun c13 => ?_)
      · refine v_iconst dX11_findAid_35 (by decide) ?_
        refine v_istore_n (ls' := [some (pA a0), some (pI 0), some (pI s7.2.1)]) dX11_findAid_36 (by decide) rfl ?_
        refine v_iinc (ls' := [some (pA a0), some (pI 0), some (pI (w32 (s7.2.1 + 1)))]) dX11_findAid_37 (by decide) rfl rfl ?_
        refine v_goto (tgt := 14) dX11_findAid_40 (by decide) ?_
        exact hrec6 (0, w32 (s7.2.1 + 1), r9.2)
      · refine v_iconst dX11_findAid_31 (by decide) ?_
        refine v_goto (tgt := 36) dX11_findAid_32 (by decide) ?_
        refine v_istore_n (ls' := [some (pA a0), some (pI 1), some (pI s7.2.1)]) dX11_findAid_36 (by decide) rfl ?_
        refine v_iinc (ls' := [some (pA a0), some (pI 1), some (pI (w32 (s7.2.1 + 1)))]) dX11_findAid_37 (by decide) rfl rfl ?_
        refine v_goto (tgt := 14) dX11_findAid_40 (by decide) ?_
        exact hrec6 (1, w32 (s7.2.1 + 1), r9.2)
  · refine v_iload_n dX11_findAid_43 rfl ?_
    refine v_if (fun h14 => ?_)
    exact v_breturn dX11_findAid_44 rfl h14 rfl
theorem chX11_aidNights_0 : (cX11_aidNights.data.toList.drop 0).take 16 = [3, 60, 3, 61, 28, 42, 180, 1, 28, 162, 0, 20, 27, 42, 16, 84] := by decide +kernel
theorem chX11_aidNights_1 : (cX11_aidNights.data.toList.drop 16).take 16 = [28, 96, 182, 1, 21, 96, 60, 132, 2, 1, 167, 255, 234, 42, 180, 1] := by decide +kernel
theorem chX11_aidNights_2 : (cX11_aidNights.data.toList.drop 32).take 16 = [149, 154, 0, 7, 3, 167, 0, 21, 27, 154, 0, 7, 2, 167, 0, 13] := by decide +kernel
theorem chX11_aidNights_3 : (cX11_aidNights.data.toList.drop 48).take 16 = [42, 180, 1, 149, 27, 96, 4, 100, 27, 108, 172] := by decide +kernel
theorem dX11_aidNights_0 : decode cX11_aidNights 0 = .ok (.iconst 0, 1) := oq_3 (byt chX11_aidNights_0 0 rfl)
theorem dX11_aidNights_1 : decode cX11_aidNights 1 = .ok (.istore_n 1, 1) := oq_60 (byt chX11_aidNights_0 1 rfl)
theorem dX11_aidNights_2 : decode cX11_aidNights 2 = .ok (.iconst 0, 1) := oq_3 (byt chX11_aidNights_0 2 rfl)
theorem dX11_aidNights_3 : decode cX11_aidNights 3 = .ok (.istore_n 2, 1) := oq_61 (byt chX11_aidNights_0 3 rfl)
theorem dX11_aidNights_4 : decode cX11_aidNights 4 = .ok (.iload_n 2, 1) := oq_28 (byt chX11_aidNights_0 4 rfl)
theorem dX11_aidNights_5 : decode cX11_aidNights 5 = .ok (.aload_n 0, 1) := oq_42 (byt chX11_aidNights_0 5 rfl)
theorem dX11_aidNights_6 : decode cX11_aidNights 6 = .ok (.getfield 284, 3) := oq_180 (byt chX11_aidNights_0 6 rfl) (byt chX11_aidNights_0 7 rfl) (byt chX11_aidNights_0 8 rfl) rfl
theorem dX11_aidNights_9 : decode cX11_aidNights 9 = .ok (.if_icmp .ge 20, 3) := oq_162 (byt chX11_aidNights_0 9 rfl) (byt chX11_aidNights_0 10 rfl) (byt chX11_aidNights_0 11 rfl) (by decide +kernel)
theorem dX11_aidNights_12 : decode cX11_aidNights 12 = .ok (.iload_n 1, 1) := oq_27 (byt chX11_aidNights_0 12 rfl)
theorem dX11_aidNights_13 : decode cX11_aidNights 13 = .ok (.aload_n 0, 1) := oq_42 (byt chX11_aidNights_0 13 rfl)
theorem dX11_aidNights_14 : decode cX11_aidNights 14 = .ok (.bipush 84, 2) := oq_16 (byt chX11_aidNights_0 14 rfl) (byt chX11_aidNights_0 15 rfl) rfl
theorem dX11_aidNights_16 : decode cX11_aidNights 16 = .ok (.iload_n 2, 1) := oq_28 (byt chX11_aidNights_1 0 rfl)
theorem dX11_aidNights_17 : decode cX11_aidNights 17 = .ok (.iadd, 1) := oq_96 (byt chX11_aidNights_1 1 rfl)
theorem dX11_aidNights_18 : decode cX11_aidNights 18 = .ok (.invokevirtual 277, 3) := oq_182 (byt chX11_aidNights_1 2 rfl) (byt chX11_aidNights_1 3 rfl) (byt chX11_aidNights_1 4 rfl) rfl
theorem dX11_aidNights_21 : decode cX11_aidNights 21 = .ok (.iadd, 1) := oq_96 (byt chX11_aidNights_1 5 rfl)
theorem dX11_aidNights_22 : decode cX11_aidNights 22 = .ok (.istore_n 1, 1) := oq_60 (byt chX11_aidNights_1 6 rfl)
theorem dX11_aidNights_23 : decode cX11_aidNights 23 = .ok (.iinc 2 1, 3) := oq_132 (byt chX11_aidNights_1 7 rfl) (byt chX11_aidNights_1 8 rfl) (byt chX11_aidNights_1 9 rfl) rfl
theorem dX11_aidNights_26 : decode cX11_aidNights 26 = .ok (.goto (-22), 3) := oq_167 (byt chX11_aidNights_1 10 rfl) (byt chX11_aidNights_1 11 rfl) (byt chX11_aidNights_1 12 rfl) (by decide +kernel)
theorem dX11_aidNights_29 : decode cX11_aidNights 29 = .ok (.aload_n 0, 1) := oq_42 (byt chX11_aidNights_1 13 rfl)
theorem dX11_aidNights_30 : decode cX11_aidNights 30 = .ok (.getfield 405, 3) := oq_180 (byt chX11_aidNights_1 14 rfl) (byt chX11_aidNights_1 15 rfl) (byt chX11_aidNights_2 0 rfl) rfl
theorem dX11_aidNights_33 : decode cX11_aidNights 33 = .ok (.ifCond .ne 7, 3) := oq_154 (byt chX11_aidNights_2 1 rfl) (byt chX11_aidNights_2 2 rfl) (byt chX11_aidNights_2 3 rfl) (by decide +kernel)
theorem dX11_aidNights_36 : decode cX11_aidNights 36 = .ok (.iconst 0, 1) := oq_3 (byt chX11_aidNights_2 4 rfl)
theorem dX11_aidNights_37 : decode cX11_aidNights 37 = .ok (.goto 21, 3) := oq_167 (byt chX11_aidNights_2 5 rfl) (byt chX11_aidNights_2 6 rfl) (byt chX11_aidNights_2 7 rfl) (by decide +kernel)
theorem dX11_aidNights_40 : decode cX11_aidNights 40 = .ok (.iload_n 1, 1) := oq_27 (byt chX11_aidNights_2 8 rfl)
theorem dX11_aidNights_41 : decode cX11_aidNights 41 = .ok (.ifCond .ne 7, 3) := oq_154 (byt chX11_aidNights_2 9 rfl) (byt chX11_aidNights_2 10 rfl) (byt chX11_aidNights_2 11 rfl) (by decide +kernel)
theorem dX11_aidNights_44 : decode cX11_aidNights 44 = .ok (.iconst (-1), 1) := oq_2 (byt chX11_aidNights_2 12 rfl)
theorem dX11_aidNights_45 : decode cX11_aidNights 45 = .ok (.goto 13, 3) := oq_167 (byt chX11_aidNights_2 13 rfl) (byt chX11_aidNights_2 14 rfl) (byt chX11_aidNights_2 15 rfl) (by decide +kernel)
theorem dX11_aidNights_48 : decode cX11_aidNights 48 = .ok (.aload_n 0, 1) := oq_42 (byt chX11_aidNights_3 0 rfl)
theorem dX11_aidNights_49 : decode cX11_aidNights 49 = .ok (.getfield 405, 3) := oq_180 (byt chX11_aidNights_3 1 rfl) (byt chX11_aidNights_3 2 rfl) (byt chX11_aidNights_3 3 rfl) rfl
theorem dX11_aidNights_52 : decode cX11_aidNights 52 = .ok (.iload_n 1, 1) := oq_27 (byt chX11_aidNights_3 4 rfl)
theorem dX11_aidNights_53 : decode cX11_aidNights 53 = .ok (.iadd, 1) := oq_96 (byt chX11_aidNights_3 5 rfl)
theorem dX11_aidNights_54 : decode cX11_aidNights 54 = .ok (.iconst 1, 1) := oq_4 (byt chX11_aidNights_3 6 rfl)
theorem dX11_aidNights_55 : decode cX11_aidNights 55 = .ok (.isub, 1) := oq_100 (byt chX11_aidNights_3 7 rfl)
theorem dX11_aidNights_56 : decode cX11_aidNights 56 = .ok (.iload_n 1, 1) := oq_27 (byt chX11_aidNights_3 8 rfl)
theorem dX11_aidNights_57 : decode cX11_aidNights 57 = .ok (.idiv, 1) := oq_108 (byt chX11_aidNights_3 9 rfl)
theorem dX11_aidNights_58 : decode cX11_aidNights 58 = .ok (.ireturn, 1) := oq_172 (byt chX11_aidNights_3 10 rfl)
abbrev mX11_aidNights : MI := (yX11_aidNights, cX11_aidNights, 3, (some .int), noE)
theorem okX11_aidNights : cok mX11_aidNights 0 := ⟨tw1671, tw11, by decide, by decide, by decide, by decide +kernel⟩
def fX11_aidNights (M : Mem) (a0 : Int) : Option Int :=
  iterC (fun (rec1 : (Int × Int) → Option Int) (s2 : Int × Int) => if M.2.1 a0 = 10 then if s2.2 < M.1 a0 26 then ((fX11_of M a0 (w32 (84 + s2.2))).bind fun r5 => rec1 (w32 (s2.1 + r5), w32 (s2.2 + 1))) else (if M.1 a0 45 = 0 then (some 0) else (if s2.1 = 0 then (some (-1)) else (if s2.1 ≠ 0 then some (w32 ((w32 ((w32 ((M.1 a0 45) + s2.1)) - 1)).tdiv s2.1)) else none))) else none) BIG (0, 0)
set_option maxRecDepth 100000 in
set_option maxHeartbeats 4000000 in
theorem kX11_aidNights (d : Nat) (hd : 1 ≤ d) (M : Mem) (a0 : Int) : Ct mX11_aidNights d 0 0 [pA a0] M (dI M) (fX11_aidNights M a0) := by
  obtain ⟨d, rfl⟩ : ∃ k, d = k + 1 := ⟨d - 1, by omega⟩
  refine Ct.of 2 (fun _ _ _ => trivial) (by decide +kernel) rfl ?_
  unfold fX11_aidNights
  refine v_iconst dX11_aidNights_0 (by decide) ?_
  refine v_istore_n (ls' := [some (pA a0), some (pI 0), none]) dX11_aidNights_1 (by decide) rfl ?_
  refine v_iconst dX11_aidNights_2 (by decide) ?_
  refine v_istore_n (ls' := [some (pA a0), some (pI 0), some (pI 0)]) dX11_aidNights_3 (by decide) rfl ?_
  refine v_loop (fun (s2 : Int × Int) => [some (pA a0), some (pI s2.1), some (pI s2.2)]) (fun (s2 : Int × Int) => M) (s0 := (0, 0)) ?_
  intro rec1 hrec1 s2
  refine v_iload_n dX11_aidNights_4 rfl ?_
  refine v_aload_n dX11_aidNights_5 rfl ?_
  refine v_if (fun h3 => ?_)
  refine v_get (v := pI (M.1 a0 26)) 10 26 rfl inX11 (by decide) tw1219 dX11_aidNights_6 h3 rfl ?_
  refine v_icmp_ge (tgt := 29) dX11_aidNights_9 (by decide) (fun c4 => ?_) (fun c4 => ?_)
  · refine v_iload_n dX11_aidNights_12 rfl ?_
    refine v_aload_n dX11_aidNights_13 rfl ?_
    refine v_bipush dX11_aidNights_14 (by decide) ?_
    refine v_iload_n dX11_aidNights_16 rfl ?_
    refine v_iadd dX11_aidNights_17 ?_
    refine v_cV (mi := mX11_aidNights) (c0 := 0) (c1 := 0) (As := [pI (w32 (84 + s2.2))]) (st := [pI s2.1]) (kX11_of d (by omega) _ _ _) rfl h3 rfl okX11_of (Or.inl tw1504) tw1506 tp55 rfl (Nat.le_of_ble_eq_true rfl) dX11_aidNights_18 (fun r5 => [pI r5, pI s2.1]) (fun r5 => M) (fun _ => rfl) (fun _ => rfl) (fun r5 h6 => ?_) rfl
    refine v_iadd dX11_aidNights_21 ?_
    refine v_istore_n (ls' := [some (pA a0), some (pI (w32 (s2.1 + r5))), some (pI s2.2)]) dX11_aidNights_22 (by decide) rfl ?_
    refine v_iinc (ls' := [some (pA a0), some (pI (w32 (s2.1 + r5))), some (pI (w32 (s2.2 + 1)))]) dX11_aidNights_23 (by decide) rfl rfl ?_
    refine v_goto (tgt := 4) dX11_aidNights_26 (by decide) ?_
    exact hrec1 (w32 (s2.1 + r5), w32 (s2.2 + 1))
  · refine v_aload_n dX11_aidNights_29 rfl ?_
    refine v_get (v := pI (M.1 a0 45)) 10 45 rfl inX11 (by decide) tw1238 dX11_aidNights_30 h3 rfl ?_
    refine v_if_ne (tgt := 40) dX11_aidNights_33 (by decide) (fun c7 => ?_) (fun c7 => ?_)
    · refine v_iconst dX11_aidNights_36 (by decide) ?_
      refine v_goto (tgt := 58) dX11_aidNights_37 (by decide) ?_
      exact v_ireturn dX11_aidNights_58 rfl rfl
    · refine v_iload_n dX11_aidNights_40 rfl ?_
      refine v_if_ne (tgt := 48) dX11_aidNights_41 (by decide) (fun c8 => ?_) (fun c8 => ?_)
      · refine v_iconst dX11_aidNights_44 (by decide) ?_
        refine v_goto (tgt := 58) dX11_aidNights_45 (by decide) ?_
        exact v_ireturn dX11_aidNights_58 rfl rfl
      · refine v_aload_n dX11_aidNights_48 rfl ?_
        refine v_get (v := pI (M.1 a0 45)) 10 45 rfl inX11 (by decide) tw1238 dX11_aidNights_49 h3 rfl ?_
        refine v_iload_n dX11_aidNights_52 rfl ?_
        refine v_iadd dX11_aidNights_53 ?_
        refine v_iconst dX11_aidNights_54 (by decide) ?_
        refine v_isub dX11_aidNights_55 ?_
        refine v_iload_n dX11_aidNights_56 rfl ?_
        refine v_if (fun h9 => ?_)
        refine v_idiv h9 dX11_aidNights_57 ?_
        exact v_ireturn dX11_aidNights_58 rfl rfl
theorem chX11_aid_0 : (cX11_aid.data.toList.drop 0).take 16 = [42, 3, 181, 0, 90, 42, 27, 182, 1, 31, 153, 0, 30, 28, 3, 5] := by decide +kernel
theorem chX11_aid_1 : (cX11_aid.data.toList.drop 16).take 16 = [184, 0, 98, 154, 0, 24, 28, 16, 10, 16, 9, 8, 42, 180, 1, 25] := by decide +kernel
theorem chX11_aid_2 : (cX11_aid.data.toList.drop 32).take 16 = [104, 96, 184, 0, 98, 154, 0, 6, 16, 254, 172, 42, 182, 1, 155, 154] := by decide +kernel
theorem chX11_aid_3 : (cX11_aid.data.toList.drop 48).take 16 = [0, 5, 2, 172, 28, 154, 0, 10, 42, 180, 1, 146, 167, 0, 36, 28] := by decide +kernel
theorem chX11_aid_4 : (cX11_aid.data.toList.drop 64).take 16 = [4, 160, 0, 10, 42, 180, 1, 149, 167, 0, 24, 28, 5, 160, 0, 10] := by decide +kernel
theorem chX11_aid_5 : (cX11_aid.data.toList.drop 80).take 16 = [42, 182, 1, 158, 167, 0, 12, 42, 180, 0, 77, 28, 16, 10, 100, 46] := by decide +kernel
theorem chX11_aid_6 : (cX11_aid.data.toList.drop 96).take 16 = [172] := by decide +kernel
theorem dX11_aid_0 : decode cX11_aid 0 = .ok (.aload_n 0, 1) := oq_42 (byt chX11_aid_0 0 rfl)
theorem dX11_aid_1 : decode cX11_aid 1 = .ok (.iconst 0, 1) := oq_3 (byt chX11_aid_0 1 rfl)
theorem dX11_aid_2 : decode cX11_aid 2 = .ok (.putfield 90, 3) := oq_181 (byt chX11_aid_0 2 rfl) (byt chX11_aid_0 3 rfl) (byt chX11_aid_0 4 rfl) rfl
theorem dX11_aid_5 : decode cX11_aid 5 = .ok (.aload_n 0, 1) := oq_42 (byt chX11_aid_0 5 rfl)
theorem dX11_aid_6 : decode cX11_aid 6 = .ok (.iload_n 1, 1) := oq_27 (byt chX11_aid_0 6 rfl)
theorem dX11_aid_7 : decode cX11_aid 7 = .ok (.invokevirtual 287, 3) := oq_182 (byt chX11_aid_0 7 rfl) (byt chX11_aid_0 8 rfl) (byt chX11_aid_0 9 rfl) rfl
theorem dX11_aid_10 : decode cX11_aid 10 = .ok (.ifCond .eq 30, 3) := oq_153 (byt chX11_aid_0 10 rfl) (byt chX11_aid_0 11 rfl) (byt chX11_aid_0 12 rfl) (by decide +kernel)
theorem dX11_aid_13 : decode cX11_aid 13 = .ok (.iload_n 2, 1) := oq_28 (byt chX11_aid_0 13 rfl)
theorem dX11_aid_14 : decode cX11_aid 14 = .ok (.iconst 0, 1) := oq_3 (byt chX11_aid_0 14 rfl)
theorem dX11_aid_15 : decode cX11_aid 15 = .ok (.iconst 2, 1) := oq_5 (byt chX11_aid_0 15 rfl)
theorem dX11_aid_16 : decode cX11_aid 16 = .ok (.invokestatic 98, 3) := oq_184 (byt chX11_aid_1 0 rfl) (byt chX11_aid_1 1 rfl) (byt chX11_aid_1 2 rfl) rfl
theorem dX11_aid_19 : decode cX11_aid 19 = .ok (.ifCond .ne 24, 3) := oq_154 (byt chX11_aid_1 3 rfl) (byt chX11_aid_1 4 rfl) (byt chX11_aid_1 5 rfl) (by decide +kernel)
theorem dX11_aid_22 : decode cX11_aid 22 = .ok (.iload_n 2, 1) := oq_28 (byt chX11_aid_1 6 rfl)
theorem dX11_aid_23 : decode cX11_aid 23 = .ok (.bipush 10, 2) := oq_16 (byt chX11_aid_1 7 rfl) (byt chX11_aid_1 8 rfl) rfl
theorem dX11_aid_25 : decode cX11_aid 25 = .ok (.bipush 9, 2) := oq_16 (byt chX11_aid_1 9 rfl) (byt chX11_aid_1 10 rfl) rfl
theorem dX11_aid_27 : decode cX11_aid 27 = .ok (.iconst 5, 1) := oq_8 (byt chX11_aid_1 11 rfl)
theorem dX11_aid_28 : decode cX11_aid 28 = .ok (.aload_n 0, 1) := oq_42 (byt chX11_aid_1 12 rfl)
theorem dX11_aid_29 : decode cX11_aid 29 = .ok (.getfield 281, 3) := oq_180 (byt chX11_aid_1 13 rfl) (byt chX11_aid_1 14 rfl) (byt chX11_aid_1 15 rfl) rfl
theorem dX11_aid_32 : decode cX11_aid 32 = .ok (.imul, 1) := oq_104 (byt chX11_aid_2 0 rfl)
theorem dX11_aid_33 : decode cX11_aid 33 = .ok (.iadd, 1) := oq_96 (byt chX11_aid_2 1 rfl)
theorem dX11_aid_34 : decode cX11_aid 34 = .ok (.invokestatic 98, 3) := oq_184 (byt chX11_aid_2 2 rfl) (byt chX11_aid_2 3 rfl) (byt chX11_aid_2 4 rfl) rfl
theorem dX11_aid_37 : decode cX11_aid 37 = .ok (.ifCond .ne 6, 3) := oq_154 (byt chX11_aid_2 5 rfl) (byt chX11_aid_2 6 rfl) (byt chX11_aid_2 7 rfl) (by decide +kernel)
theorem dX11_aid_40 : decode cX11_aid 40 = .ok (.bipush (-2), 2) := oq_16 (byt chX11_aid_2 8 rfl) (byt chX11_aid_2 9 rfl) rfl
theorem dX11_aid_42 : decode cX11_aid 42 = .ok (.ireturn, 1) := oq_172 (byt chX11_aid_2 10 rfl)
theorem dX11_aid_43 : decode cX11_aid 43 = .ok (.aload_n 0, 1) := oq_42 (byt chX11_aid_2 11 rfl)
theorem dX11_aid_44 : decode cX11_aid 44 = .ok (.invokevirtual 411, 3) := oq_182 (byt chX11_aid_2 12 rfl) (byt chX11_aid_2 13 rfl) (byt chX11_aid_2 14 rfl) rfl
theorem dX11_aid_47 : decode cX11_aid 47 = .ok (.ifCond .ne 5, 3) := oq_154 (byt chX11_aid_2 15 rfl) (byt chX11_aid_3 0 rfl) (byt chX11_aid_3 1 rfl) (by decide +kernel)
theorem dX11_aid_50 : decode cX11_aid 50 = .ok (.iconst (-1), 1) := oq_2 (byt chX11_aid_3 2 rfl)
theorem dX11_aid_51 : decode cX11_aid 51 = .ok (.ireturn, 1) := oq_172 (byt chX11_aid_3 3 rfl)
theorem dX11_aid_52 : decode cX11_aid 52 = .ok (.iload_n 2, 1) := oq_28 (byt chX11_aid_3 4 rfl)
theorem dX11_aid_53 : decode cX11_aid 53 = .ok (.ifCond .ne 10, 3) := oq_154 (byt chX11_aid_3 5 rfl) (byt chX11_aid_3 6 rfl) (byt chX11_aid_3 7 rfl) (by decide +kernel)
theorem dX11_aid_56 : decode cX11_aid 56 = .ok (.aload_n 0, 1) := oq_42 (byt chX11_aid_3 8 rfl)
theorem dX11_aid_57 : decode cX11_aid 57 = .ok (.getfield 402, 3) := oq_180 (byt chX11_aid_3 9 rfl) (byt chX11_aid_3 10 rfl) (byt chX11_aid_3 11 rfl) rfl
theorem dX11_aid_60 : decode cX11_aid 60 = .ok (.goto 36, 3) := oq_167 (byt chX11_aid_3 12 rfl) (byt chX11_aid_3 13 rfl) (byt chX11_aid_3 14 rfl) (by decide +kernel)
theorem dX11_aid_63 : decode cX11_aid 63 = .ok (.iload_n 2, 1) := oq_28 (byt chX11_aid_3 15 rfl)
theorem dX11_aid_64 : decode cX11_aid 64 = .ok (.iconst 1, 1) := oq_4 (byt chX11_aid_4 0 rfl)
theorem dX11_aid_65 : decode cX11_aid 65 = .ok (.if_icmp .ne 10, 3) := oq_160 (byt chX11_aid_4 1 rfl) (byt chX11_aid_4 2 rfl) (byt chX11_aid_4 3 rfl) (by decide +kernel)
theorem dX11_aid_68 : decode cX11_aid 68 = .ok (.aload_n 0, 1) := oq_42 (byt chX11_aid_4 4 rfl)
theorem dX11_aid_69 : decode cX11_aid 69 = .ok (.getfield 405, 3) := oq_180 (byt chX11_aid_4 5 rfl) (byt chX11_aid_4 6 rfl) (byt chX11_aid_4 7 rfl) rfl
theorem dX11_aid_72 : decode cX11_aid 72 = .ok (.goto 24, 3) := oq_167 (byt chX11_aid_4 8 rfl) (byt chX11_aid_4 9 rfl) (byt chX11_aid_4 10 rfl) (by decide +kernel)
theorem dX11_aid_75 : decode cX11_aid 75 = .ok (.iload_n 2, 1) := oq_28 (byt chX11_aid_4 11 rfl)
theorem dX11_aid_76 : decode cX11_aid 76 = .ok (.iconst 2, 1) := oq_5 (byt chX11_aid_4 12 rfl)
theorem dX11_aid_77 : decode cX11_aid 77 = .ok (.if_icmp .ne 10, 3) := oq_160 (byt chX11_aid_4 13 rfl) (byt chX11_aid_4 14 rfl) (byt chX11_aid_4 15 rfl) (by decide +kernel)
theorem dX11_aid_80 : decode cX11_aid 80 = .ok (.aload_n 0, 1) := oq_42 (byt chX11_aid_5 0 rfl)
theorem dX11_aid_81 : decode cX11_aid 81 = .ok (.invokevirtual 414, 3) := oq_182 (byt chX11_aid_5 1 rfl) (byt chX11_aid_5 2 rfl) (byt chX11_aid_5 3 rfl) rfl
theorem dX11_aid_84 : decode cX11_aid 84 = .ok (.goto 12, 3) := oq_167 (byt chX11_aid_5 4 rfl) (byt chX11_aid_5 5 rfl) (byt chX11_aid_5 6 rfl) (by decide +kernel)
theorem dX11_aid_87 : decode cX11_aid 87 = .ok (.aload_n 0, 1) := oq_42 (byt chX11_aid_5 7 rfl)
theorem dX11_aid_88 : decode cX11_aid 88 = .ok (.getfield 77, 3) := oq_180 (byt chX11_aid_5 8 rfl) (byt chX11_aid_5 9 rfl) (byt chX11_aid_5 10 rfl) rfl
theorem dX11_aid_91 : decode cX11_aid 91 = .ok (.iload_n 2, 1) := oq_28 (byt chX11_aid_5 11 rfl)
theorem dX11_aid_92 : decode cX11_aid 92 = .ok (.bipush 10, 2) := oq_16 (byt chX11_aid_5 12 rfl) (byt chX11_aid_5 13 rfl) rfl
theorem dX11_aid_94 : decode cX11_aid 94 = .ok (.isub, 1) := oq_100 (byt chX11_aid_5 14 rfl)
theorem dX11_aid_95 : decode cX11_aid 95 = .ok (.iaload, 1) := oq_46 (byt chX11_aid_5 15 rfl)
theorem dX11_aid_96 : decode cX11_aid 96 = .ok (.ireturn, 1) := oq_172 (byt chX11_aid_6 0 rfl)
abbrev mX11_aid : MI := (yX11_aid, cX11_aid, 3, (some .int), noE)
theorem okX11_aid : cok mX11_aid 2 := ⟨tw1656, tw11, by decide, by decide, by decide, by decide +kernel⟩
def fX11_aid (M : Mem) (a0 a1 a2 : Int) : Option (Int × Mem) :=
  if M.2.1 a0 = 10 then bM (mst M a0 0 0) fun M2 => (fX11_hand M2 a0 a1).bind fun r4 => if r4.1 = 0 then (some ((-2), r4.2)) else ((fX11_in r4.2 a2 0 2).bind fun r7 => jn (fun (t10 : Unit) => if r4.2.2.1 a0 = 10 then (fX11_findAid r4.2 a0).bind fun r11 => if r11.1 = 0 then (some ((-1), r11.2)) else (if a2 = 0 then (if r11.2.2.1 a0 = 10 then some (r11.2.1 a0 44, r11.2) else none) else (if a2 = 1 then (if r11.2.2.1 a0 = 10 then some (r11.2.1 a0 45, r11.2) else none) else (if a2 = 2 then (if r11.2.2.1 a0 = 10 then (fX11_aidNights r11.2 a0).bind fun r20 => some (r20, r11.2) else none) else (if r11.2.2.1 a0 = 10 then if r11.2.2.1 (r11.2.1 a0 43) = 12 ∧ (0 : Int) ≤ (w32 (a2 - 10)) ∧ (w32 (a2 - 10)) < r11.2.2.2.1 (r11.2.1 a0 43) then some (r11.2.1 (r11.2.1 a0 43) (w32 (a2 - 10)), r11.2) else none else none)))) else none) (fun (j9 : Unit → Option (Int × Mem)) => if r7 = 0 then (if r4.2.2.1 a0 = 10 then (fX11_in r4.2 a2 10 (w32 (9 + (w32 (5 * (r4.2.1 a0 25)))))).bind fun r27 => if r27 = 0 then (some ((-2), r4.2)) else (j9 ()) else none) else (j9 ()))) else none
set_option maxRecDepth 100000 in
set_option maxHeartbeats 4000000 in
theorem kX11_aid (d : Nat) (hd : 4 ≤ d) (M : Mem) (a0 a1 a2 : Int) : Ct mX11_aid d 0 0 [pA a0, pI a1, pI a2] M dIM (fX11_aid M a0 a1 a2) := by
  obtain ⟨d, rfl⟩ : ∃ k, d = k + 1 := ⟨d - 1, by omega⟩
  refine Ct.of 0 (fun _ _ _ => trivial) (by decide +kernel) rfl ?_
  unfold fX11_aid
  refine v_aload_n dX11_aid_0 rfl ?_
  refine v_iconst dX11_aid_1 (by decide) ?_
  refine v_if (fun h1 => ?_)
  refine v_put (x := 0) 10 0 rfl inX11 (by decide) tw1193 (Or.inl rfl) rfl dX11_aid_2 h1 rfl id ?_
  refine v_bM (fun M2 e3 => ?_)
  refine v_aload_n dX11_aid_5 rfl ?_
  refine v_iload_n dX11_aid_6 rfl ?_
  refine v_cV (mi := mX11_aid) (c0 := 0) (c1 := 0) (As := [pI a1]) (st := []) (kX11_hand d (by omega) _ _ _) rfl (by rw [e3]; exact h1) rfl okX11_hand (Or.inl tw1500) tw1502 tp54 rfl (Nat.le_of_ble_eq_true rfl) dX11_aid_7 (fun r4 => [pI r4.1]) (fun r4 => r4.2) (fun _ => rfl) (fun _ => rfl) (fun r4 h5 => ?_) rfl
  refine v_if_eq (tgt := 40) dX11_aid_10 (by decide) (fun c6 => ?_) (fun c6 => ?_)
  · refine v_bipush dX11_aid_40 (by decide) ?_
    exact v_ireturn dX11_aid_42 rfl rfl
  · refine v_iload_n dX11_aid_13 rfl ?_
    refine v_iconst dX11_aid_14 (by decide) ?_
    refine v_iconst dX11_aid_15 (by decide) ?_
    refine v_cS (mi := mX11_aid) (c0 := 0) (c1 := 0) (As := [pI a2, pI 0, pI 2]) (st := []) (kX11_in d (by omega) _ _ _ _) okX11_in (Or.inl tw1360) tw1361 rfl (Nat.le_of_ble_eq_true rfl) dX11_aid_16 (fun r7 => [pI r7]) (fun r7 => r4.2) (fun _ => rfl) (fun _ => rfl) (fun r7 h8 => ?_) rfl
    refine v_join (fun (t10 : Unit) => [some (pA a0), none, some (pI a2)]) (fun (t10 : Unit) => []) (fun (t10 : Unit) => r4.2) 43 (fun t10 => ?_) (fun j9 hj9 => ?_)
    · refine v_aload_n dX11_aid_43 rfl ?_
      refine v_if (fun h13 => ?_)
      refine v_cV (mi := mX11_aid) (c0 := 0) (c1 := 0) (As := []) (st := []) (kX11_findAid d (by omega) _ _) rfl h13 rfl okX11_findAid (Or.inl tw1657) tw1659 tp84 rfl (Nat.le_of_ble_eq_true rfl) dX11_aid_44 (fun r11 => [pI r11.1]) (fun r11 => r11.2) (fun _ => rfl) (fun _ => rfl) (fun r11 h12 => ?_) rfl
      refine v_if_ne (tgt := 52) dX11_aid_47 (by decide) (fun c14 => ?_) (fun c14 => ?_)
      · refine v_iconst dX11_aid_50 (by decide) ?_
        exact v_ireturn dX11_aid_51 rfl rfl
      · refine v_iload_n dX11_aid_52 rfl ?_
        refine v_if_ne (tgt := 63) dX11_aid_53 (by decide) (fun c15 => ?_) (fun c15 => ?_)
        · refine v_aload_n dX11_aid_56 rfl ?_
          refine v_if (fun h16 => ?_)
          refine v_get (v := pI (r11.2.1 a0 44)) 10 44 rfl inX11 (by decide) tw1237 dX11_aid_57 h16 rfl ?_
          refine v_goto (tgt := 96) dX11_aid_60 (by decide) ?_
          exact v_ireturn dX11_aid_96 rfl rfl
        · refine v_iload_n dX11_aid_63 rfl ?_
          refine v_iconst dX11_aid_64 (by decide) ?_
          refine v_icmp_ne (tgt := 75) dX11_aid_65 (by decide) (fun c17 => ?_) (fun c17 => ?_)
          · refine v_aload_n dX11_aid_68 rfl ?_
            refine v_if (fun h18 => ?_)
            refine v_get (v := pI (r11.2.1 a0 45)) 10 45 rfl inX11 (by decide) tw1238 dX11_aid_69 h18 rfl ?_
            refine v_goto (tgt := 96) dX11_aid_72 (by decide) ?_
            exact v_ireturn dX11_aid_96 rfl rfl
          · refine v_iload_n dX11_aid_75 rfl ?_
            refine v_iconst dX11_aid_76 (by decide) ?_
            refine v_icmp_ne (tgt := 87) dX11_aid_77 (by decide) (fun c19 => ?_) (fun c19 => ?_)
            · refine v_aload_n dX11_aid_80 rfl ?_
              refine v_if (fun h22 => ?_)
              refine v_cV (mi := mX11_aid) (c0 := 0) (c1 := 0) (As := []) (st := []) (kX11_aidNights d (by omega) _ _) rfl h22 rfl okX11_aidNights (Or.inl tw1668) tw1670 tp86 rfl (Nat.le_of_ble_eq_true rfl) dX11_aid_81 (fun r20 => [pI r20]) (fun r20 => r11.2) (fun _ => rfl) (fun _ => rfl) (fun r20 h21 => ?_) rfl
              refine v_goto (tgt := 96) dX11_aid_84 (by decide) ?_
              exact v_ireturn dX11_aid_96 rfl rfl
            · refine v_aload_n dX11_aid_87 rfl ?_
              refine v_if (fun h23 => ?_)
              refine v_get (v := pA (r11.2.1 a0 43)) 10 43 rfl inX11 (by decide) tw1236 dX11_aid_88 h23 rfl ?_
              refine v_iload_n dX11_aid_91 rfl ?_
              refine v_bipush dX11_aid_92 (by decide) ?_
              refine v_isub dX11_aid_94 ?_
              refine v_if (fun h24 => ?_)
              refine v_iaload h24 dX11_aid_95 ?_
              exact v_ireturn dX11_aid_96 rfl rfl
    · refine v_if_ne (tgt := 43) dX11_aid_19 (by decide) (fun c25 => ?_) (fun c25 => ?_)
      · refine v_iload_n dX11_aid_22 rfl ?_
        refine v_bipush dX11_aid_23 (by decide) ?_
        refine v_bipush dX11_aid_25 (by decide) ?_
        refine v_iconst dX11_aid_27 (by decide) ?_
        refine v_aload_n dX11_aid_28 rfl ?_
        refine v_if (fun h26 => ?_)
        refine v_get (v := pI (r4.2.1 a0 25)) 10 25 rfl inX11 (by decide) tw1218 dX11_aid_29 h26 rfl ?_
        refine v_imul dX11_aid_32 ?_
        refine v_iadd dX11_aid_33 ?_
        refine v_cS (mi := mX11_aid) (c0 := 0) (c1 := 0) (As := [pI a2, pI 10, pI (w32 (9 + (w32 (5 * (r4.2.1 a0 25)))))]) (st := []) (kX11_in d (by omega) _ _ _ _) okX11_in (Or.inl tw1360) tw1361 rfl (Nat.le_of_ble_eq_true rfl) dX11_aid_34 (fun r27 => [pI r27]) (fun r27 => r4.2) (fun _ => rfl) (fun _ => rfl) (fun r27 h28 => ?_) rfl
        refine v_if_ne (tgt := 43) dX11_aid_37 (by decide) (fun c29 => ?_) (fun c29 => ?_)
        · refine v_bipush dX11_aid_40 (by decide) ?_
          exact v_ireturn dX11_aid_42 rfl rfl
        · exact v_drop [some (pA a0), none, some (pI a2)] (ls_s (ls_n (ls_s ls_e))) (hj9 ())
      · exact v_drop [some (pA a0), none, some (pI a2)] (ls_s (ls_n (ls_s ls_e))) (hj9 ())
theorem chX11_carryOn_0 : (cX11_carryOn.data.toList.drop 0).take 16 = [3, 62, 29, 16, 108, 163, 0, 18, 42, 180, 0, 83, 29, 19, 1, 161] := by decide +kernel
theorem chX11_carryOn_1 : (cX11_carryOn.data.toList.drop 16).take 16 = [79, 132, 3, 1, 167, 255, 238, 3, 62, 29, 16, 108, 163, 0, 97, 3] := by decide +kernel
theorem chX11_carryOn_2 : (cX11_carryOn.data.toList.drop 32).take 16 = [54, 4, 21, 4, 42, 27, 28, 182, 1, 43, 163, 0, 77, 42, 180, 0] := by decide +kernel
theorem chX11_carryOn_3 : (cX11_carryOn.data.toList.drop 48).take 16 = [80, 29, 46, 19, 1, 161, 162, 0, 65, 29, 21, 4, 96, 42, 27, 28] := by decide +kernel
theorem chX11_carryOn_4 : (cX11_carryOn.data.toList.drop 64).take 16 = [182, 1, 46, 100, 54, 5, 21, 5, 3, 16, 108, 184, 0, 98, 153, 0] := by decide +kernel
theorem chX11_carryOn_5 : (cX11_carryOn.data.toList.drop 80).take 16 = [35, 42, 180, 0, 83, 21, 5, 42, 180, 0, 83, 21, 5, 46, 42, 180] := by decide +kernel
theorem chX11_carryOn_6 : (cX11_carryOn.data.toList.drop 96).take 16 = [0, 80, 29, 46, 21, 5, 16, 54, 100, 184, 1, 162, 96, 184, 1, 143] := by decide +kernel
theorem chX11_carryOn_7 : (cX11_carryOn.data.toList.drop 112).take 16 = [79, 132, 4, 1, 167, 255, 174, 132, 3, 1, 167, 255, 159, 3, 62, 29] := by decide +kernel
theorem chX11_carryOn_8 : (cX11_carryOn.data.toList.drop 128).take 16 = [16, 108, 163, 0, 21, 42, 180, 0, 80, 29, 42, 180, 0, 83, 29, 46] := by decide +kernel
theorem chX11_carryOn_9 : (cX11_carryOn.data.toList.drop 144).take 16 = [79, 132, 3, 1, 167, 255, 235, 177] := by decide +kernel
theorem dX11_carryOn_0 : decode cX11_carryOn 0 = .ok (.iconst 0, 1) := oq_3 (byt chX11_carryOn_0 0 rfl)
theorem dX11_carryOn_1 : decode cX11_carryOn 1 = .ok (.istore_n 3, 1) := oq_62 (byt chX11_carryOn_0 1 rfl)
theorem dX11_carryOn_2 : decode cX11_carryOn 2 = .ok (.iload_n 3, 1) := oq_29 (byt chX11_carryOn_0 2 rfl)
theorem dX11_carryOn_3 : decode cX11_carryOn 3 = .ok (.bipush 108, 2) := oq_16 (byt chX11_carryOn_0 3 rfl) (byt chX11_carryOn_0 4 rfl) rfl
theorem dX11_carryOn_5 : decode cX11_carryOn 5 = .ok (.if_icmp .gt 18, 3) := oq_163 (byt chX11_carryOn_0 5 rfl) (byt chX11_carryOn_0 6 rfl) (byt chX11_carryOn_0 7 rfl) (by decide +kernel)
theorem dX11_carryOn_8 : decode cX11_carryOn 8 = .ok (.aload_n 0, 1) := oq_42 (byt chX11_carryOn_0 8 rfl)
theorem dX11_carryOn_9 : decode cX11_carryOn 9 = .ok (.getfield 83, 3) := oq_180 (byt chX11_carryOn_0 9 rfl) (byt chX11_carryOn_0 10 rfl) (byt chX11_carryOn_0 11 rfl) rfl
theorem dX11_carryOn_12 : decode cX11_carryOn 12 = .ok (.iload_n 3, 1) := oq_29 (byt chX11_carryOn_0 12 rfl)
theorem dX11_carryOn_13 : decode cX11_carryOn 13 = .ok (.ldc_w 417, 3) := oq_19 (byt chX11_carryOn_0 13 rfl) (byt chX11_carryOn_0 14 rfl) (byt chX11_carryOn_0 15 rfl) rfl
theorem dX11_carryOn_16 : decode cX11_carryOn 16 = .ok (.iastore, 1) := oq_79 (byt chX11_carryOn_1 0 rfl)
theorem dX11_carryOn_17 : decode cX11_carryOn 17 = .ok (.iinc 3 1, 3) := oq_132 (byt chX11_carryOn_1 1 rfl) (byt chX11_carryOn_1 2 rfl) (byt chX11_carryOn_1 3 rfl) rfl
theorem dX11_carryOn_20 : decode cX11_carryOn 20 = .ok (.goto (-18), 3) := oq_167 (byt chX11_carryOn_1 4 rfl) (byt chX11_carryOn_1 5 rfl) (byt chX11_carryOn_1 6 rfl) (by decide +kernel)
theorem dX11_carryOn_23 : decode cX11_carryOn 23 = .ok (.iconst 0, 1) := oq_3 (byt chX11_carryOn_1 7 rfl)
theorem dX11_carryOn_24 : decode cX11_carryOn 24 = .ok (.istore_n 3, 1) := oq_62 (byt chX11_carryOn_1 8 rfl)
theorem dX11_carryOn_25 : decode cX11_carryOn 25 = .ok (.iload_n 3, 1) := oq_29 (byt chX11_carryOn_1 9 rfl)
theorem dX11_carryOn_26 : decode cX11_carryOn 26 = .ok (.bipush 108, 2) := oq_16 (byt chX11_carryOn_1 10 rfl) (byt chX11_carryOn_1 11 rfl) rfl
theorem dX11_carryOn_28 : decode cX11_carryOn 28 = .ok (.if_icmp .gt 97, 3) := oq_163 (byt chX11_carryOn_1 12 rfl) (byt chX11_carryOn_1 13 rfl) (byt chX11_carryOn_1 14 rfl) (by decide +kernel)
theorem dX11_carryOn_31 : decode cX11_carryOn 31 = .ok (.iconst 0, 1) := oq_3 (byt chX11_carryOn_1 15 rfl)
theorem dX11_carryOn_32 : decode cX11_carryOn 32 = .ok (.istore 4, 2) := oq_54 (byt chX11_carryOn_2 0 rfl) (byt chX11_carryOn_2 1 rfl) rfl
theorem dX11_carryOn_34 : decode cX11_carryOn 34 = .ok (.iload 4, 2) := oq_21 (byt chX11_carryOn_2 2 rfl) (byt chX11_carryOn_2 3 rfl) rfl
theorem dX11_carryOn_36 : decode cX11_carryOn 36 = .ok (.aload_n 0, 1) := oq_42 (byt chX11_carryOn_2 4 rfl)
theorem dX11_carryOn_37 : decode cX11_carryOn 37 = .ok (.iload_n 1, 1) := oq_27 (byt chX11_carryOn_2 5 rfl)
theorem dX11_carryOn_38 : decode cX11_carryOn 38 = .ok (.iload_n 2, 1) := oq_28 (byt chX11_carryOn_2 6 rfl)
theorem dX11_carryOn_39 : decode cX11_carryOn 39 = .ok (.invokevirtual 299, 3) := oq_182 (byt chX11_carryOn_2 7 rfl) (byt chX11_carryOn_2 8 rfl) (byt chX11_carryOn_2 9 rfl) rfl
theorem dX11_carryOn_42 : decode cX11_carryOn 42 = .ok (.if_icmp .gt 77, 3) := oq_163 (byt chX11_carryOn_2 10 rfl) (byt chX11_carryOn_2 11 rfl) (byt chX11_carryOn_2 12 rfl) (by decide +kernel)
theorem dX11_carryOn_45 : decode cX11_carryOn 45 = .ok (.aload_n 0, 1) := oq_42 (byt chX11_carryOn_2 13 rfl)
theorem dX11_carryOn_46 : decode cX11_carryOn 46 = .ok (.getfield 80, 3) := oq_180 (byt chX11_carryOn_2 14 rfl) (byt chX11_carryOn_2 15 rfl) (byt chX11_carryOn_3 0 rfl) rfl
theorem dX11_carryOn_49 : decode cX11_carryOn 49 = .ok (.iload_n 3, 1) := oq_29 (byt chX11_carryOn_3 1 rfl)
theorem dX11_carryOn_50 : decode cX11_carryOn 50 = .ok (.iaload, 1) := oq_46 (byt chX11_carryOn_3 2 rfl)
theorem dX11_carryOn_51 : decode cX11_carryOn 51 = .ok (.ldc_w 417, 3) := oq_19 (byt chX11_carryOn_3 3 rfl) (byt chX11_carryOn_3 4 rfl) (byt chX11_carryOn_3 5 rfl) rfl
theorem dX11_carryOn_54 : decode cX11_carryOn 54 = .ok (.if_icmp .ge 65, 3) := oq_162 (byt chX11_carryOn_3 6 rfl) (byt chX11_carryOn_3 7 rfl) (byt chX11_carryOn_3 8 rfl) (by decide +kernel)
theorem dX11_carryOn_57 : decode cX11_carryOn 57 = .ok (.iload_n 3, 1) := oq_29 (byt chX11_carryOn_3 9 rfl)
theorem dX11_carryOn_58 : decode cX11_carryOn 58 = .ok (.iload 4, 2) := oq_21 (byt chX11_carryOn_3 10 rfl) (byt chX11_carryOn_3 11 rfl) rfl
theorem dX11_carryOn_60 : decode cX11_carryOn 60 = .ok (.iadd, 1) := oq_96 (byt chX11_carryOn_3 12 rfl)
theorem dX11_carryOn_61 : decode cX11_carryOn 61 = .ok (.aload_n 0, 1) := oq_42 (byt chX11_carryOn_3 13 rfl)
theorem dX11_carryOn_62 : decode cX11_carryOn 62 = .ok (.iload_n 1, 1) := oq_27 (byt chX11_carryOn_3 14 rfl)
theorem dX11_carryOn_63 : decode cX11_carryOn 63 = .ok (.iload_n 2, 1) := oq_28 (byt chX11_carryOn_3 15 rfl)
theorem dX11_carryOn_64 : decode cX11_carryOn 64 = .ok (.invokevirtual 302, 3) := oq_182 (byt chX11_carryOn_4 0 rfl) (byt chX11_carryOn_4 1 rfl) (byt chX11_carryOn_4 2 rfl) rfl
theorem dX11_carryOn_67 : decode cX11_carryOn 67 = .ok (.isub, 1) := oq_100 (byt chX11_carryOn_4 3 rfl)
theorem dX11_carryOn_68 : decode cX11_carryOn 68 = .ok (.istore 5, 2) := oq_54 (byt chX11_carryOn_4 4 rfl) (byt chX11_carryOn_4 5 rfl) rfl
theorem dX11_carryOn_70 : decode cX11_carryOn 70 = .ok (.iload 5, 2) := oq_21 (byt chX11_carryOn_4 6 rfl) (byt chX11_carryOn_4 7 rfl) rfl
theorem dX11_carryOn_72 : decode cX11_carryOn 72 = .ok (.iconst 0, 1) := oq_3 (byt chX11_carryOn_4 8 rfl)
theorem dX11_carryOn_73 : decode cX11_carryOn 73 = .ok (.bipush 108, 2) := oq_16 (byt chX11_carryOn_4 9 rfl) (byt chX11_carryOn_4 10 rfl) rfl
theorem dX11_carryOn_75 : decode cX11_carryOn 75 = .ok (.invokestatic 98, 3) := oq_184 (byt chX11_carryOn_4 11 rfl) (byt chX11_carryOn_4 12 rfl) (byt chX11_carryOn_4 13 rfl) rfl
theorem dX11_carryOn_78 : decode cX11_carryOn 78 = .ok (.ifCond .eq 35, 3) := oq_153 (byt chX11_carryOn_4 14 rfl) (byt chX11_carryOn_4 15 rfl) (byt chX11_carryOn_5 0 rfl) (by decide +kernel)
theorem dX11_carryOn_81 : decode cX11_carryOn 81 = .ok (.aload_n 0, 1) := oq_42 (byt chX11_carryOn_5 1 rfl)
theorem dX11_carryOn_82 : decode cX11_carryOn 82 = .ok (.getfield 83, 3) := oq_180 (byt chX11_carryOn_5 2 rfl) (byt chX11_carryOn_5 3 rfl) (byt chX11_carryOn_5 4 rfl) rfl
theorem dX11_carryOn_85 : decode cX11_carryOn 85 = .ok (.iload 5, 2) := oq_21 (byt chX11_carryOn_5 5 rfl) (byt chX11_carryOn_5 6 rfl) rfl
theorem dX11_carryOn_87 : decode cX11_carryOn 87 = .ok (.aload_n 0, 1) := oq_42 (byt chX11_carryOn_5 7 rfl)
theorem dX11_carryOn_88 : decode cX11_carryOn 88 = .ok (.getfield 83, 3) := oq_180 (byt chX11_carryOn_5 8 rfl) (byt chX11_carryOn_5 9 rfl) (byt chX11_carryOn_5 10 rfl) rfl
theorem dX11_carryOn_91 : decode cX11_carryOn 91 = .ok (.iload 5, 2) := oq_21 (byt chX11_carryOn_5 11 rfl) (byt chX11_carryOn_5 12 rfl) rfl
theorem dX11_carryOn_93 : decode cX11_carryOn 93 = .ok (.iaload, 1) := oq_46 (byt chX11_carryOn_5 13 rfl)
theorem dX11_carryOn_94 : decode cX11_carryOn 94 = .ok (.aload_n 0, 1) := oq_42 (byt chX11_carryOn_5 14 rfl)
theorem dX11_carryOn_95 : decode cX11_carryOn 95 = .ok (.getfield 80, 3) := oq_180 (byt chX11_carryOn_5 15 rfl) (byt chX11_carryOn_6 0 rfl) (byt chX11_carryOn_6 1 rfl) rfl
theorem dX11_carryOn_98 : decode cX11_carryOn 98 = .ok (.iload_n 3, 1) := oq_29 (byt chX11_carryOn_6 2 rfl)
theorem dX11_carryOn_99 : decode cX11_carryOn 99 = .ok (.iaload, 1) := oq_46 (byt chX11_carryOn_6 3 rfl)
theorem dX11_carryOn_100 : decode cX11_carryOn 100 = .ok (.iload 5, 2) := oq_21 (byt chX11_carryOn_6 4 rfl) (byt chX11_carryOn_6 5 rfl) rfl
theorem dX11_carryOn_102 : decode cX11_carryOn 102 = .ok (.bipush 54, 2) := oq_16 (byt chX11_carryOn_6 6 rfl) (byt chX11_carryOn_6 7 rfl) rfl
theorem dX11_carryOn_104 : decode cX11_carryOn 104 = .ok (.isub, 1) := oq_100 (byt chX11_carryOn_6 8 rfl)
theorem dX11_carryOn_105 : decode cX11_carryOn 105 = .ok (.invokestatic 418, 3) := oq_184 (byt chX11_carryOn_6 9 rfl) (byt chX11_carryOn_6 10 rfl) (byt chX11_carryOn_6 11 rfl) rfl
theorem dX11_carryOn_108 : decode cX11_carryOn 108 = .ok (.iadd, 1) := oq_96 (byt chX11_carryOn_6 12 rfl)
theorem dX11_carryOn_109 : decode cX11_carryOn 109 = .ok (.invokestatic 399, 3) := oq_184 (byt chX11_carryOn_6 13 rfl) (byt chX11_carryOn_6 14 rfl) (byt chX11_carryOn_6 15 rfl) rfl
theorem dX11_carryOn_112 : decode cX11_carryOn 112 = .ok (.iastore, 1) := oq_79 (byt chX11_carryOn_7 0 rfl)
theorem dX11_carryOn_113 : decode cX11_carryOn 113 = .ok (.iinc 4 1, 3) := oq_132 (byt chX11_carryOn_7 1 rfl) (byt chX11_carryOn_7 2 rfl) (byt chX11_carryOn_7 3 rfl) rfl
theorem dX11_carryOn_116 : decode cX11_carryOn 116 = .ok (.goto (-82), 3) := oq_167 (byt chX11_carryOn_7 4 rfl) (byt chX11_carryOn_7 5 rfl) (byt chX11_carryOn_7 6 rfl) (by decide +kernel)
theorem dX11_carryOn_119 : decode cX11_carryOn 119 = .ok (.iinc 3 1, 3) := oq_132 (byt chX11_carryOn_7 7 rfl) (byt chX11_carryOn_7 8 rfl) (byt chX11_carryOn_7 9 rfl) rfl
theorem dX11_carryOn_122 : decode cX11_carryOn 122 = .ok (.goto (-97), 3) := oq_167 (byt chX11_carryOn_7 10 rfl) (byt chX11_carryOn_7 11 rfl) (byt chX11_carryOn_7 12 rfl) (by decide +kernel)
theorem dX11_carryOn_125 : decode cX11_carryOn 125 = .ok (.iconst 0, 1) := oq_3 (byt chX11_carryOn_7 13 rfl)
theorem dX11_carryOn_126 : decode cX11_carryOn 126 = .ok (.istore_n 3, 1) := oq_62 (byt chX11_carryOn_7 14 rfl)
theorem dX11_carryOn_127 : decode cX11_carryOn 127 = .ok (.iload_n 3, 1) := oq_29 (byt chX11_carryOn_7 15 rfl)
theorem dX11_carryOn_128 : decode cX11_carryOn 128 = .ok (.bipush 108, 2) := oq_16 (byt chX11_carryOn_8 0 rfl) (byt chX11_carryOn_8 1 rfl) rfl
theorem dX11_carryOn_130 : decode cX11_carryOn 130 = .ok (.if_icmp .gt 21, 3) := oq_163 (byt chX11_carryOn_8 2 rfl) (byt chX11_carryOn_8 3 rfl) (byt chX11_carryOn_8 4 rfl) (by decide +kernel)
theorem dX11_carryOn_133 : decode cX11_carryOn 133 = .ok (.aload_n 0, 1) := oq_42 (byt chX11_carryOn_8 5 rfl)
theorem dX11_carryOn_134 : decode cX11_carryOn 134 = .ok (.getfield 80, 3) := oq_180 (byt chX11_carryOn_8 6 rfl) (byt chX11_carryOn_8 7 rfl) (byt chX11_carryOn_8 8 rfl) rfl
theorem dX11_carryOn_137 : decode cX11_carryOn 137 = .ok (.iload_n 3, 1) := oq_29 (byt chX11_carryOn_8 9 rfl)
theorem dX11_carryOn_138 : decode cX11_carryOn 138 = .ok (.aload_n 0, 1) := oq_42 (byt chX11_carryOn_8 10 rfl)
theorem dX11_carryOn_139 : decode cX11_carryOn 139 = .ok (.getfield 83, 3) := oq_180 (byt chX11_carryOn_8 11 rfl) (byt chX11_carryOn_8 12 rfl) (byt chX11_carryOn_8 13 rfl) rfl
theorem dX11_carryOn_142 : decode cX11_carryOn 142 = .ok (.iload_n 3, 1) := oq_29 (byt chX11_carryOn_8 14 rfl)
theorem dX11_carryOn_143 : decode cX11_carryOn 143 = .ok (.iaload, 1) := oq_46 (byt chX11_carryOn_8 15 rfl)
theorem dX11_carryOn_144 : decode cX11_carryOn 144 = .ok (.iastore, 1) := oq_79 (byt chX11_carryOn_9 0 rfl)
theorem dX11_carryOn_145 : decode cX11_carryOn 145 = .ok (.iinc 3 1, 3) := oq_132 (byt chX11_carryOn_9 1 rfl) (byt chX11_carryOn_9 2 rfl) (byt chX11_carryOn_9 3 rfl) rfl
theorem dX11_carryOn_148 : decode cX11_carryOn 148 = .ok (.goto (-21), 3) := oq_167 (byt chX11_carryOn_9 4 rfl) (byt chX11_carryOn_9 5 rfl) (byt chX11_carryOn_9 6 rfl) (by decide +kernel)
theorem dX11_carryOn_151 : decode cX11_carryOn 151 = .ok (.return_, 1) := oq_177 (byt chX11_carryOn_9 7 rfl)
abbrev mX11_carryOn : MI := (yX11_carryOn, cX11_carryOn, 6, none, noE)
theorem okX11_carryOn : cok mX11_carryOn 2 := ⟨tw1684, tw11, by decide, by decide, by decide, by decide +kernel⟩
def fX11_carryOn (M : Mem) (a0 a1 a2 : Int) : Option Mem :=
  iterC (fun (rec1 : (Int × Mem) → Option Mem) (s2 : Int × Mem) => if 108 < s2.1 then (iterC (fun (rec4 : (Int × Mem) → Option Mem) (s5 : Int × Mem) => if 108 < s5.1 then (iterC (fun (rec7 : (Int × Mem) → Option Mem) (s8 : Int × Mem) => if 108 < s8.1 then (some s8.2) else (if s8.2.2.1 a0 = 10 then if s8.2.2.1 (s8.2.1 a0 47) = 12 ∧ (0 : Int) ≤ s8.1 ∧ s8.1 < s8.2.2.2.1 (s8.2.1 a0 47) then if s8.2.2.1 (s8.2.1 a0 46) = 12 ∧ (0 : Int) ≤ s8.1 ∧ s8.1 < s8.2.2.2.1 (s8.2.1 a0 46) then bM (mst s8.2 (s8.2.1 a0 46) s8.1 (s8.2.1 (s8.2.1 a0 47) s8.1)) fun M13 => rec7 (w32 (s8.1 + 1), M13) else none else none else none)) BIG (0, s5.2)) else (iterC (fun (rec15 : (Int × Mem) → Option Mem) (s16 : Int × Mem) => if s16.2.2.1 a0 = 10 then (fX11_spare s16.2 a0 a1 a2).bind fun r17 => if r17 < s16.1 then (rec4 (w32 (s5.1 + 1), s16.2)) else (if s16.2.2.1 (s16.2.1 a0 46) = 12 ∧ (0 : Int) ≤ s5.1 ∧ s5.1 < s16.2.2.2.1 (s16.2.1 a0 46) then if s16.2.1 (s16.2.1 a0 46) s5.1 < 1000000 then ((fX11_lacks s16.2 a0 a1 a2).bind fun r23 => (fX11_in s16.2 (w32 ((w32 (s5.1 + s16.1)) - r23)) 0 108).bind fun r25 => if r25 = 0 then (rec15 (w32 (s16.1 + 1), s16.2)) else (if s16.2.2.1 (s16.2.1 a0 47) = 12 ∧ (0 : Int) ≤ (w32 ((w32 (s5.1 + s16.1)) - r23)) ∧ (w32 ((w32 (s5.1 + s16.1)) - r23)) < s16.2.2.2.1 (s16.2.1 a0 47) then if s16.2.2.1 (s16.2.1 a0 46) = 12 ∧ (0 : Int) ≤ s5.1 ∧ s5.1 < s16.2.2.2.1 (s16.2.1 a0 46) then (fX11_size s16.2 (w32 ((w32 ((w32 (s5.1 + s16.1)) - r23)) - 54))).bind fun r30 => (fX11_lesser s16.2 (s16.2.1 (s16.2.1 a0 47) (w32 ((w32 (s5.1 + s16.1)) - r23))) (w32 ((s16.2.1 (s16.2.1 a0 46) s5.1) + r30))).bind fun r32 => if s16.2.2.1 (s16.2.1 a0 47) = 12 ∧ (0 : Int) ≤ (w32 ((w32 (s5.1 + s16.1)) - r23)) ∧ (w32 ((w32 (s5.1 + s16.1)) - r23)) < s16.2.2.2.1 (s16.2.1 a0 47) then bM (mst s16.2 (s16.2.1 a0 47) (w32 ((w32 (s5.1 + s16.1)) - r23)) r32) fun M35 => rec15 (w32 (s16.1 + 1), M35) else none else none else none)) else (rec4 (w32 (s5.1 + 1), s16.2)) else none) else none) BIG (0, s5.2))) BIG (0, s2.2)) else (if s2.2.2.1 a0 = 10 then if s2.2.2.1 (s2.2.1 a0 47) = 12 ∧ (0 : Int) ≤ s2.1 ∧ s2.1 < s2.2.2.2.1 (s2.2.1 a0 47) then bM (mst s2.2 (s2.2.1 a0 47) s2.1 1000000) fun M39 => rec1 (w32 (s2.1 + 1), M39) else none else none)) BIG (0, M)
set_option maxRecDepth 100000 in
set_option maxHeartbeats 4000000 in
theorem kX11_carryOn (d : Nat) (hd : 2 ≤ d) (M : Mem) (a0 a1 a2 : Int) : Ct mX11_carryOn d 0 0 [pA a0, pI a1, pI a2] M dV (fX11_carryOn M a0 a1 a2) := by
  obtain ⟨d, rfl⟩ : ∃ k, d = k + 1 := ⟨d - 1, by omega⟩
  refine Ct.of 3 (fun _ _ _ => trivial) (by decide +kernel) rfl ?_
  unfold fX11_carryOn
  refine v_iconst dX11_carryOn_0 (by decide) ?_
  refine v_istore_n (ls' := [some (pA a0), some (pI a1), some (pI a2), some (pI 0), none, none]) dX11_carryOn_1 (by decide) rfl ?_
  refine v_loop (fun (s2 : Int × Mem) => [some (pA a0), some (pI a1), some (pI a2), some (pI s2.1), none, none]) (fun (s2 : Int × Mem) => s2.2) (s0 := (0, M)) ?_
  intro rec1 hrec1 s2
  refine v_iload_n dX11_carryOn_2 rfl ?_
  refine v_bipush dX11_carryOn_3 (by decide) ?_
  refine v_icmp_gt (tgt := 23) dX11_carryOn_5 (by decide) (fun c3 => ?_) (fun c3 => ?_)
  · refine v_iconst dX11_carryOn_23 (by decide) ?_
    refine v_istore_n (ls' := [some (pA a0), some (pI a1), some (pI a2), some (pI 0), none, none]) dX11_carryOn_24 (by decide) rfl ?_
    refine v_loop (fun (s5 : Int × Mem) => [some (pA a0), some (pI a1), some (pI a2), some (pI s5.1), none, none]) (fun (s5 : Int × Mem) => s5.2) (s0 := (0, s2.2)) ?_
    intro rec4 hrec4 s5
    refine v_iload_n dX11_carryOn_25 rfl ?_
    refine v_bipush dX11_carryOn_26 (by decide) ?_
    refine v_icmp_gt (tgt := 125) dX11_carryOn_28 (by decide) (fun c6 => ?_) (fun c6 => ?_)
    · refine v_iconst dX11_carryOn_125 (by decide) ?_
      refine v_istore_n (ls' := [some (pA a0), some (pI a1), some (pI a2), some (pI 0), none, none]) dX11_carryOn_126 (by decide) rfl ?_
      refine v_drop [some (pA a0), none, none, some (pI 0), none, none] (ls_s (ls_n (ls_n (ls_s (ls_n (ls_n ls_e)))))) ?_
      refine v_loop (fun (s8 : Int × Mem) => [some (pA a0), none, none, some (pI s8.1), none, none]) (fun (s8 : Int × Mem) => s8.2) (s0 := (0, s5.2)) ?_
      intro rec7 hrec7 s8
      refine v_iload_n dX11_carryOn_127 rfl ?_
      refine v_bipush dX11_carryOn_128 (by decide) ?_
      refine v_icmp_gt (tgt := 151) dX11_carryOn_130 (by decide) (fun c9 => ?_) (fun c9 => ?_)
      · exact v_return dX11_carryOn_151 rfl rfl
      · refine v_aload_n dX11_carryOn_133 rfl ?_
        refine v_if (fun h10 => ?_)
        refine v_get (v := pA (s8.2.1 a0 46)) 10 46 rfl inX11 (by decide) tw1239 dX11_carryOn_134 h10 rfl ?_
        refine v_iload_n dX11_carryOn_137 rfl ?_
        refine v_aload_n dX11_carryOn_138 rfl ?_
        refine v_get (v := pA (s8.2.1 a0 47)) 10 47 rfl inX11 (by decide) tw1240 dX11_carryOn_139 h10 rfl ?_
        refine v_iload_n dX11_carryOn_142 rfl ?_
        refine v_if (fun h11 => ?_)
        refine v_iaload h11 dX11_carryOn_143 ?_
        refine v_if (fun h12 => ?_)
        refine v_iastore h12 dX11_carryOn_144 ?_
        refine v_bM (fun M13 e14 => ?_)
        refine v_iinc (ls' := [some (pA a0), none, none, some (pI (w32 (s8.1 + 1))), none, none]) dX11_carryOn_145 (by decide) rfl rfl ?_
        refine v_goto (tgt := 127) dX11_carryOn_148 (by decide) ?_
        exact hrec7 (w32 (s8.1 + 1), M13)
    · refine v_iconst dX11_carryOn_31 (by decide) ?_
      refine v_istore (ls' := [some (pA a0), some (pI a1), some (pI a2), some (pI s5.1), some (pI 0), none]) dX11_carryOn_32 (by decide) rfl ?_
      refine v_loop (fun (s16 : Int × Mem) => [some (pA a0), some (pI a1), some (pI a2), some (pI s5.1), some (pI s16.1), none]) (fun (s16 : Int × Mem) => s16.2) (s0 := (0, s5.2)) ?_
      intro rec15 hrec15 s16
      refine v_iload dX11_carryOn_34 rfl ?_
      refine v_aload_n dX11_carryOn_36 rfl ?_
      refine v_iload_n dX11_carryOn_37 rfl ?_
      refine v_iload_n dX11_carryOn_38 rfl ?_
      refine v_if (fun h19 => ?_)
      refine v_cV (mi := mX11_carryOn) (c0 := 0) (c1 := 0) (As := [pI a1, pI a2]) (st := [pI s16.1]) (kX11_spare d (by omega) _ _ _ _) rfl h19 rfl okX11_spare (Or.inl tw1523) tw1525 tp58 rfl (Nat.le_of_ble_eq_true rfl) dX11_carryOn_39 (fun r17 => [pI r17, pI s16.1]) (fun r17 => s16.2) (fun _ => rfl) (fun _ => rfl) (fun r17 h18 => ?_) rfl
      refine v_icmp_gt (tgt := 119) dX11_carryOn_42 (by decide) (fun c20 => ?_) (fun c20 => ?_)
      · refine v_iinc (ls' := [some (pA a0), some (pI a1), some (pI a2), some (pI (w32 (s5.1 + 1))), some (pI s16.1), none]) dX11_carryOn_119 (by decide) rfl rfl ?_
        refine v_goto (tgt := 25) dX11_carryOn_122 (by decide) ?_
        exact v_drop [some (pA a0), some (pI a1), some (pI a2), some (pI (w32 (s5.1 + 1))), none, none] (ls_s (ls_s (ls_s (ls_s (ls_n (ls_n ls_e)))))) (hrec4 (w32 (s5.1 + 1), s16.2))
      · refine v_aload_n dX11_carryOn_45 rfl ?_
        refine v_get (v := pA (s16.2.1 a0 46)) 10 46 rfl inX11 (by decide) tw1239 dX11_carryOn_46 h19 rfl ?_
        refine v_iload_n dX11_carryOn_49 rfl ?_
        refine v_if (fun h21 => ?_)
        refine v_iaload h21 dX11_carryOn_50 ?_
        refine v_ldcw (n := 1000000) dX11_carryOn_51 (by decide) tw1680 ?_
        refine v_icmp_ge (tgt := 119) dX11_carryOn_54 (by decide) (fun c22 => ?_) (fun c22 => ?_)
        · refine v_iload_n dX11_carryOn_57 rfl ?_
          refine v_iload dX11_carryOn_58 rfl ?_
          refine v_iadd dX11_carryOn_60 ?_
          refine v_aload_n dX11_carryOn_61 rfl ?_
          refine v_iload_n dX11_carryOn_62 rfl ?_
          refine v_iload_n dX11_carryOn_63 rfl ?_
          refine v_cV (mi := mX11_carryOn) (c0 := 0) (c1 := 0) (As := [pI a1, pI a2]) (st := [pI (w32 (s5.1 + s16.1))]) (kX11_lacks d (by omega) _ _ _ _) rfl h19 rfl okX11_lacks (Or.inl tw1527) tw1529 tp59 rfl (Nat.le_of_ble_eq_true rfl) dX11_carryOn_64 (fun r23 => [pI r23, pI (w32 (s5.1 + s16.1))]) (fun r23 => s16.2) (fun _ => rfl) (fun _ => rfl) (fun r23 h24 => ?_) rfl
          refine v_isub dX11_carryOn_67 ?_
          refine v_istore (ls' := [some (pA a0), some (pI a1), some (pI a2), some (pI s5.1), some (pI s16.1), some (pI (w32 ((w32 (s5.1 + s16.1)) - r23)))]) dX11_carryOn_68 (by decide) rfl ?_
          refine v_iload dX11_carryOn_70 rfl ?_
          refine v_iconst dX11_carryOn_72 (by decide) ?_
          refine v_bipush dX11_carryOn_73 (by decide) ?_
          refine v_cS (mi := mX11_carryOn) (c0 := 0) (c1 := 0) (As := [pI (w32 ((w32 (s5.1 + s16.1)) - r23)), pI 0, pI 108]) (st := []) (kX11_in d (by omega) _ _ _ _) okX11_in (Or.inl tw1360) tw1361 rfl (Nat.le_of_ble_eq_true rfl) dX11_carryOn_75 (fun r25 => [pI r25]) (fun r25 => s16.2) (fun _ => rfl) (fun _ => rfl) (fun r25 h26 => ?_) rfl
          refine v_if_eq (tgt := 113) dX11_carryOn_78 (by decide) (fun c27 => ?_) (fun c27 => ?_)
          · refine v_iinc (ls' := [some (pA a0), some (pI a1), some (pI a2), some (pI s5.1), some (pI (w32 (s16.1 + 1))), some (pI (w32 ((w32 (s5.1 + s16.1)) - r23)))]) dX11_carryOn_113 (by decide) rfl rfl ?_
            refine v_goto (tgt := 34) dX11_carryOn_116 (by decide) ?_
            exact v_drop [some (pA a0), some (pI a1), some (pI a2), some (pI s5.1), some (pI (w32 (s16.1 + 1))), none] (ls_s (ls_s (ls_s (ls_s (ls_s (ls_n ls_e)))))) (hrec15 (w32 (s16.1 + 1), s16.2))
          · refine v_aload_n dX11_carryOn_81 rfl ?_
            refine v_get (v := pA (s16.2.1 a0 47)) 10 47 rfl inX11 (by decide) tw1240 dX11_carryOn_82 h19 rfl ?_
            refine v_iload dX11_carryOn_85 rfl ?_
            refine v_aload_n dX11_carryOn_87 rfl ?_
            refine v_get (v := pA (s16.2.1 a0 47)) 10 47 rfl inX11 (by decide) tw1240 dX11_carryOn_88 h19 rfl ?_
            refine v_iload dX11_carryOn_91 rfl ?_
            refine v_if (fun h28 => ?_)
            refine v_iaload h28 dX11_carryOn_93 ?_
            refine v_aload_n dX11_carryOn_94 rfl ?_
            refine v_get (v := pA (s16.2.1 a0 46)) 10 46 rfl inX11 (by decide) tw1239 dX11_carryOn_95 h19 rfl ?_
            refine v_iload_n dX11_carryOn_98 rfl ?_
            refine v_if (fun h29 => ?_)
            refine v_iaload h29 dX11_carryOn_99 ?_
            refine v_iload dX11_carryOn_100 rfl ?_
            refine v_bipush dX11_carryOn_102 (by decide) ?_
            refine v_isub dX11_carryOn_104 ?_
            refine v_cS (mi := mX11_carryOn) (c0 := 0) (c1 := 0) (As := [pI (w32 ((w32 ((w32 (s5.1 + s16.1)) - r23)) - 54))]) (st := [pI (s16.2.1 (s16.2.1 a0 46) s5.1), pI (s16.2.1 (s16.2.1 a0 47) (w32 ((w32 (s5.1 + s16.1)) - r23))), pI (w32 ((w32 (s5.1 + s16.1)) - r23)), pA (s16.2.1 a0 47)]) (kX11_size d (by omega) _ _) okX11_size (Or.inl tw1685) tw1686 rfl (Nat.le_of_ble_eq_true rfl) dX11_carryOn_105 (fun r30 => [pI r30, pI (s16.2.1 (s16.2.1 a0 46) s5.1), pI (s16.2.1 (s16.2.1 a0 47) (w32 ((w32 (s5.1 + s16.1)) - r23))), pI (w32 ((w32 (s5.1 + s16.1)) - r23)), pA (s16.2.1 a0 47)]) (fun r30 => s16.2) (fun _ => rfl) (fun _ => rfl) (fun r30 h31 => ?_) rfl
            refine v_iadd dX11_carryOn_108 ?_
            refine v_cS (mi := mX11_carryOn) (c0 := 0) (c1 := 0) (As := [pI (s16.2.1 (s16.2.1 a0 47) (w32 ((w32 (s5.1 + s16.1)) - r23))), pI (w32 ((s16.2.1 (s16.2.1 a0 46) s5.1) + r30))]) (st := [pI (w32 ((w32 (s5.1 + s16.1)) - r23)), pA (s16.2.1 a0 47)]) (kX11_lesser d (by omega) _ _ _) okX11_lesser (Or.inl tw1665) tw1666 rfl (Nat.le_of_ble_eq_true rfl) dX11_carryOn_109 (fun r32 => [pI r32, pI (w32 ((w32 (s5.1 + s16.1)) - r23)), pA (s16.2.1 a0 47)]) (fun r32 => s16.2) (fun _ => rfl) (fun _ => rfl) (fun r32 h33 => ?_) rfl
            refine v_if (fun h34 => ?_)
            refine v_iastore h34 dX11_carryOn_112 ?_
            refine v_bM (fun M35 e36 => ?_)
            refine v_iinc (ls' := [some (pA a0), some (pI a1), some (pI a2), some (pI s5.1), some (pI (w32 (s16.1 + 1))), some (pI (w32 ((w32 (s5.1 + s16.1)) - r23)))]) dX11_carryOn_113 (by decide) rfl rfl ?_
            refine v_goto (tgt := 34) dX11_carryOn_116 (by decide) ?_
            exact v_drop [some (pA a0), some (pI a1), some (pI a2), some (pI s5.1), some (pI (w32 (s16.1 + 1))), none] (ls_s (ls_s (ls_s (ls_s (ls_s (ls_n ls_e)))))) (hrec15 (w32 (s16.1 + 1), M35))
        · refine v_iinc (ls' := [some (pA a0), some (pI a1), some (pI a2), some (pI (w32 (s5.1 + 1))), some (pI s16.1), none]) dX11_carryOn_119 (by decide) rfl rfl ?_
          refine v_goto (tgt := 25) dX11_carryOn_122 (by decide) ?_
          exact v_drop [some (pA a0), some (pI a1), some (pI a2), some (pI (w32 (s5.1 + 1))), none, none] (ls_s (ls_s (ls_s (ls_s (ls_n (ls_n ls_e)))))) (hrec4 (w32 (s5.1 + 1), s16.2))
  · refine v_aload_n dX11_carryOn_8 rfl ?_
    refine v_if (fun h37 => ?_)
    refine v_get (v := pA (s2.2.1 a0 47)) 10 47 rfl inX11 (by decide) tw1240 dX11_carryOn_9 h37 rfl ?_
    refine v_iload_n dX11_carryOn_12 rfl ?_
    refine v_ldcw (n := 1000000) dX11_carryOn_13 (by decide) tw1680 ?_
    refine v_if (fun h38 => ?_)
    refine v_iastore h38 dX11_carryOn_16 ?_
    refine v_bM (fun M39 e40 => ?_)
    refine v_iinc (ls' := [some (pA a0), some (pI a1), some (pI a2), some (pI (w32 (s2.1 + 1))), none, none]) dX11_carryOn_17 (by decide) rfl rfl ?_
    refine v_goto (tgt := 2) dX11_carryOn_20 (by decide) ?_
    exact hrec1 (w32 (s2.1 + 1), M39)
theorem chX11_carryGood_0 : (cX11_carryGood.data.toList.drop 0).take 16 = [3, 61, 28, 16, 108, 163, 0, 28, 42, 180, 0, 80, 28, 28, 16, 54] := by decide +kernel
theorem chX11_carryGood_1 : (cX11_carryGood.data.toList.drop 16).take 16 = [160, 0, 7, 3, 167, 0, 6, 19, 1, 161, 79, 132, 2, 1, 167, 255] := by decide +kernel
theorem chX11_carryGood_2 : (cX11_carryGood.data.toList.drop 32).take 16 = [228, 3, 61, 28, 42, 180, 1, 25, 162, 0, 15, 42, 28, 27, 182, 1] := by decide +kernel
theorem chX11_carryGood_3 : (cX11_carryGood.data.toList.drop 48).take 16 = [164, 132, 2, 1, 167, 255, 239, 42, 180, 0, 80, 16, 54, 46, 172] := by decide +kernel
theorem dX11_carryGood_0 : decode cX11_carryGood 0 = .ok (.iconst 0, 1) := oq_3 (byt chX11_carryGood_0 0 rfl)
theorem dX11_carryGood_1 : decode cX11_carryGood 1 = .ok (.istore_n 2, 1) := oq_61 (byt chX11_carryGood_0 1 rfl)
theorem dX11_carryGood_2 : decode cX11_carryGood 2 = .ok (.iload_n 2, 1) := oq_28 (byt chX11_carryGood_0 2 rfl)
theorem dX11_carryGood_3 : decode cX11_carryGood 3 = .ok (.bipush 108, 2) := oq_16 (byt chX11_carryGood_0 3 rfl) (byt chX11_carryGood_0 4 rfl) rfl
theorem dX11_carryGood_5 : decode cX11_carryGood 5 = .ok (.if_icmp .gt 28, 3) := oq_163 (byt chX11_carryGood_0 5 rfl) (byt chX11_carryGood_0 6 rfl) (byt chX11_carryGood_0 7 rfl) (by decide +kernel)
theorem dX11_carryGood_8 : decode cX11_carryGood 8 = .ok (.aload_n 0, 1) := oq_42 (byt chX11_carryGood_0 8 rfl)
theorem dX11_carryGood_9 : decode cX11_carryGood 9 = .ok (.getfield 80, 3) := oq_180 (byt chX11_carryGood_0 9 rfl) (byt chX11_carryGood_0 10 rfl) (byt chX11_carryGood_0 11 rfl) rfl
theorem dX11_carryGood_12 : decode cX11_carryGood 12 = .ok (.iload_n 2, 1) := oq_28 (byt chX11_carryGood_0 12 rfl)
theorem dX11_carryGood_13 : decode cX11_carryGood 13 = .ok (.iload_n 2, 1) := oq_28 (byt chX11_carryGood_0 13 rfl)
theorem dX11_carryGood_14 : decode cX11_carryGood 14 = .ok (.bipush 54, 2) := oq_16 (byt chX11_carryGood_0 14 rfl) (byt chX11_carryGood_0 15 rfl) rfl
theorem dX11_carryGood_16 : decode cX11_carryGood 16 = .ok (.if_icmp .ne 7, 3) := oq_160 (byt chX11_carryGood_1 0 rfl) (byt chX11_carryGood_1 1 rfl) (byt chX11_carryGood_1 2 rfl) (by decide +kernel)
theorem dX11_carryGood_19 : decode cX11_carryGood 19 = .ok (.iconst 0, 1) := oq_3 (byt chX11_carryGood_1 3 rfl)
theorem dX11_carryGood_20 : decode cX11_carryGood 20 = .ok (.goto 6, 3) := oq_167 (byt chX11_carryGood_1 4 rfl) (byt chX11_carryGood_1 5 rfl) (byt chX11_carryGood_1 6 rfl) (by decide +kernel)
theorem dX11_carryGood_23 : decode cX11_carryGood 23 = .ok (.ldc_w 417, 3) := oq_19 (byt chX11_carryGood_1 7 rfl) (byt chX11_carryGood_1 8 rfl) (byt chX11_carryGood_1 9 rfl) rfl
theorem dX11_carryGood_26 : decode cX11_carryGood 26 = .ok (.iastore, 1) := oq_79 (byt chX11_carryGood_1 10 rfl)
theorem dX11_carryGood_27 : decode cX11_carryGood 27 = .ok (.iinc 2 1, 3) := oq_132 (byt chX11_carryGood_1 11 rfl) (byt chX11_carryGood_1 12 rfl) (byt chX11_carryGood_1 13 rfl) rfl
theorem dX11_carryGood_30 : decode cX11_carryGood 30 = .ok (.goto (-28), 3) := oq_167 (byt chX11_carryGood_1 14 rfl) (byt chX11_carryGood_1 15 rfl) (byt chX11_carryGood_2 0 rfl) (by decide +kernel)
theorem dX11_carryGood_33 : decode cX11_carryGood 33 = .ok (.iconst 0, 1) := oq_3 (byt chX11_carryGood_2 1 rfl)
theorem dX11_carryGood_34 : decode cX11_carryGood 34 = .ok (.istore_n 2, 1) := oq_61 (byt chX11_carryGood_2 2 rfl)
theorem dX11_carryGood_35 : decode cX11_carryGood 35 = .ok (.iload_n 2, 1) := oq_28 (byt chX11_carryGood_2 3 rfl)
theorem dX11_carryGood_36 : decode cX11_carryGood 36 = .ok (.aload_n 0, 1) := oq_42 (byt chX11_carryGood_2 4 rfl)
theorem dX11_carryGood_37 : decode cX11_carryGood 37 = .ok (.getfield 281, 3) := oq_180 (byt chX11_carryGood_2 5 rfl) (byt chX11_carryGood_2 6 rfl) (byt chX11_carryGood_2 7 rfl) rfl
theorem dX11_carryGood_40 : decode cX11_carryGood 40 = .ok (.if_icmp .ge 15, 3) := oq_162 (byt chX11_carryGood_2 8 rfl) (byt chX11_carryGood_2 9 rfl) (byt chX11_carryGood_2 10 rfl) (by decide +kernel)
theorem dX11_carryGood_43 : decode cX11_carryGood 43 = .ok (.aload_n 0, 1) := oq_42 (byt chX11_carryGood_2 11 rfl)
theorem dX11_carryGood_44 : decode cX11_carryGood 44 = .ok (.iload_n 2, 1) := oq_28 (byt chX11_carryGood_2 12 rfl)
theorem dX11_carryGood_45 : decode cX11_carryGood 45 = .ok (.iload_n 1, 1) := oq_27 (byt chX11_carryGood_2 13 rfl)
theorem dX11_carryGood_46 : decode cX11_carryGood 46 = .ok (.invokevirtual 420, 3) := oq_182 (byt chX11_carryGood_2 14 rfl) (byt chX11_carryGood_2 15 rfl) (byt chX11_carryGood_3 0 rfl) rfl
theorem dX11_carryGood_49 : decode cX11_carryGood 49 = .ok (.iinc 2 1, 3) := oq_132 (byt chX11_carryGood_3 1 rfl) (byt chX11_carryGood_3 2 rfl) (byt chX11_carryGood_3 3 rfl) rfl
theorem dX11_carryGood_52 : decode cX11_carryGood 52 = .ok (.goto (-17), 3) := oq_167 (byt chX11_carryGood_3 4 rfl) (byt chX11_carryGood_3 5 rfl) (byt chX11_carryGood_3 6 rfl) (by decide +kernel)
theorem dX11_carryGood_55 : decode cX11_carryGood 55 = .ok (.aload_n 0, 1) := oq_42 (byt chX11_carryGood_3 7 rfl)
theorem dX11_carryGood_56 : decode cX11_carryGood 56 = .ok (.getfield 80, 3) := oq_180 (byt chX11_carryGood_3 8 rfl) (byt chX11_carryGood_3 9 rfl) (byt chX11_carryGood_3 10 rfl) rfl
theorem dX11_carryGood_59 : decode cX11_carryGood 59 = .ok (.bipush 54, 2) := oq_16 (byt chX11_carryGood_3 11 rfl) (byt chX11_carryGood_3 12 rfl) rfl
theorem dX11_carryGood_61 : decode cX11_carryGood 61 = .ok (.iaload, 1) := oq_46 (byt chX11_carryGood_3 13 rfl)
theorem dX11_carryGood_62 : decode cX11_carryGood 62 = .ok (.ireturn, 1) := oq_172 (byt chX11_carryGood_3 14 rfl)
abbrev mX11_carryGood : MI := (yX11_carryGood, cX11_carryGood, 3, (some .int), noE)
theorem okX11_carryGood : cok mX11_carryGood 1 := ⟨tw1679, tw11, by decide, by decide, by decide, by decide +kernel⟩
def fX11_carryGood (M : Mem) (a0 a1 : Int) : Option (Int × Mem) :=
  iterC (fun (rec1 : (Int × Mem) → Option (Int × Mem)) (s2 : Int × Mem) => if 108 < s2.1 then (iterC (fun (rec4 : (Int × Mem) → Option (Int × Mem)) (s5 : Int × Mem) => if s5.2.2.1 a0 = 10 then if s5.1 < s5.2.1 a0 25 then ((fX11_carryOn s5.2 a0 s5.1 a1).bind fun r8 => rec4 (w32 (s5.1 + 1), r8)) else (if s5.2.2.1 (s5.2.1 a0 46) = 12 ∧ (0 : Int) ≤ 54 ∧ 54 < s5.2.2.2.1 (s5.2.1 a0 46) then some (s5.2.1 (s5.2.1 a0 46) 54, s5.2) else none) else none) BIG (0, s2.2)) else (if s2.2.2.1 a0 = 10 then jn (fun (t13 : Int) => if s2.2.2.1 (s2.2.1 a0 46) = 12 ∧ (0 : Int) ≤ s2.1 ∧ s2.1 < s2.2.2.2.1 (s2.2.1 a0 46) then bM (mst s2.2 (s2.2.1 a0 46) s2.1 t13) fun M15 => rec1 (w32 (s2.1 + 1), M15) else none) (fun (j12 : Int → Option (Int × Mem)) => if s2.1 = 54 then (j12 0) else (j12 1000000)) else none)) BIG (0, M)
set_option maxRecDepth 100000 in
set_option maxHeartbeats 4000000 in
theorem kX11_carryGood (d : Nat) (hd : 3 ≤ d) (M : Mem) (a0 a1 : Int) : Ct mX11_carryGood d 0 0 [pA a0, pI a1] M dIM (fX11_carryGood M a0 a1) := by
  obtain ⟨d, rfl⟩ : ∃ k, d = k + 1 := ⟨d - 1, by omega⟩
  refine Ct.of 1 (fun _ _ _ => trivial) (by decide +kernel) rfl ?_
  unfold fX11_carryGood
  refine v_iconst dX11_carryGood_0 (by decide) ?_
  refine v_istore_n (ls' := [some (pA a0), some (pI a1), some (pI 0)]) dX11_carryGood_1 (by decide) rfl ?_
  refine v_loop (fun (s2 : Int × Mem) => [some (pA a0), some (pI a1), some (pI s2.1)]) (fun (s2 : Int × Mem) => s2.2) (s0 := (0, M)) ?_
  intro rec1 hrec1 s2
  refine v_iload_n dX11_carryGood_2 rfl ?_
  refine v_bipush dX11_carryGood_3 (by decide) ?_
  refine v_icmp_gt (tgt := 33) dX11_carryGood_5 (by decide) (fun c3 => ?_) (fun c3 => ?_)
  · refine v_iconst dX11_carryGood_33 (by decide) ?_
    refine v_istore_n (ls' := [some (pA a0), some (pI a1), some (pI 0)]) dX11_carryGood_34 (by decide) rfl ?_
    refine v_loop (fun (s5 : Int × Mem) => [some (pA a0), some (pI a1), some (pI s5.1)]) (fun (s5 : Int × Mem) => s5.2) (s0 := (0, s2.2)) ?_
    intro rec4 hrec4 s5
    refine v_iload_n dX11_carryGood_35 rfl ?_
    refine v_aload_n dX11_carryGood_36 rfl ?_
    refine v_if (fun h6 => ?_)
    refine v_get (v := pI (s5.2.1 a0 25)) 10 25 rfl inX11 (by decide) tw1218 dX11_carryGood_37 h6 rfl ?_
    refine v_icmp_ge (tgt := 55) dX11_carryGood_40 (by decide) (fun c7 => ?_) (fun c7 => ?_)
    · refine v_aload_n dX11_carryGood_43 rfl ?_
      refine v_iload_n dX11_carryGood_44 rfl ?_
      refine v_iload_n dX11_carryGood_45 rfl ?_
      refine v_cV (mi := mX11_carryGood) (c0 := 0) (c1 := 0) (As := [pI s5.1, pI a1]) (st := []) (kX11_carryOn d (by omega) _ _ _ _) rfl h6 rfl okX11_carryOn (Or.inl tw1681) tw1683 tp88 rfl (Nat.le_of_ble_eq_true rfl) dX11_carryGood_46 (fun r8 => []) (fun r8 => r8) (fun _ => rfl) (fun _ => rfl) (fun r8 h9 => ?_) rfl
      refine v_iinc (ls' := [some (pA a0), some (pI a1), some (pI (w32 (s5.1 + 1)))]) dX11_carryGood_49 (by decide) rfl rfl ?_
      refine v_goto (tgt := 35) dX11_carryGood_52 (by decide) ?_
      exact hrec4 (w32 (s5.1 + 1), r8)
    · refine v_aload_n dX11_carryGood_55 rfl ?_
      refine v_get (v := pA (s5.2.1 a0 46)) 10 46 rfl inX11 (by decide) tw1239 dX11_carryGood_56 h6 rfl ?_
      refine v_bipush dX11_carryGood_59 (by decide) ?_
      refine v_if (fun h10 => ?_)
      refine v_iaload h10 dX11_carryGood_61 ?_
      exact v_ireturn dX11_carryGood_62 rfl rfl
  · refine v_aload_n dX11_carryGood_8 rfl ?_
    refine v_if (fun h11 => ?_)
    refine v_get (v := pA (s2.2.1 a0 46)) 10 46 rfl inX11 (by decide) tw1239 dX11_carryGood_9 h11 rfl ?_
    refine v_iload_n dX11_carryGood_12 rfl ?_
    refine v_iload_n dX11_carryGood_13 rfl ?_
    refine v_bipush dX11_carryGood_14 (by decide) ?_
    refine v_join (fun (t13 : Int) => [some (pA a0), some (pI a1), some (pI s2.1)]) (fun (t13 : Int) => [pI t13, pI s2.1, pA (s2.2.1 a0 46)]) (fun (t13 : Int) => s2.2) 26 (fun t13 => ?_) (fun j12 hj12 => ?_)
    · refine v_if (fun h14 => ?_)
      refine v_iastore h14 dX11_carryGood_26 ?_
      refine v_bM (fun M15 e16 => ?_)
      refine v_iinc (ls' := [some (pA a0), some (pI a1), some (pI (w32 (s2.1 + 1)))]) dX11_carryGood_27 (by decide) rfl rfl ?_
      refine v_goto (tgt := 2) dX11_carryGood_30 (by decide) ?_
      exact hrec1 (w32 (s2.1 + 1), M15)
    · refine v_icmp_ne (tgt := 23) dX11_carryGood_16 (by decide) (fun c17 => ?_) (fun c17 => ?_)
      · refine v_iconst dX11_carryGood_19 (by decide) ?_
        refine v_goto (tgt := 26) dX11_carryGood_20 (by decide) ?_
        exact hj12 0
      · refine v_ldcw (n := 1000000) dX11_carryGood_23 (by decide) tw1680 ?_
        exact hj12 1000000
theorem chX11_carry_0 : (cX11_carry.data.toList.drop 0).take 16 = [42, 3, 181, 0, 90, 42, 27, 182, 1, 31, 154, 0, 5, 2, 172, 3] := by decide +kernel
theorem chX11_carry_1 : (cX11_carry.data.toList.drop 16).take 16 = [61, 3, 62, 29, 8, 162, 0, 40, 42, 29, 182, 1, 167, 54, 4, 21] := by decide +kernel
theorem chX11_carry_2 : (cX11_carry.data.toList.drop 32).take 16 = [4, 19, 1, 161, 161, 0, 5, 2, 172, 28, 21, 4, 42, 16, 74, 29] := by decide +kernel
theorem chX11_carry_3 : (cX11_carry.data.toList.drop 48).take 16 = [96, 182, 1, 21, 104, 96, 61, 132, 3, 1, 167, 255, 217, 28, 172] := by decide +kernel
theorem dX11_carry_0 : decode cX11_carry 0 = .ok (.aload_n 0, 1) := oq_42 (byt chX11_carry_0 0 rfl)
theorem dX11_carry_1 : decode cX11_carry 1 = .ok (.iconst 0, 1) := oq_3 (byt chX11_carry_0 1 rfl)
theorem dX11_carry_2 : decode cX11_carry 2 = .ok (.putfield 90, 3) := oq_181 (byt chX11_carry_0 2 rfl) (byt chX11_carry_0 3 rfl) (byt chX11_carry_0 4 rfl) rfl
theorem dX11_carry_5 : decode cX11_carry 5 = .ok (.aload_n 0, 1) := oq_42 (byt chX11_carry_0 5 rfl)
theorem dX11_carry_6 : decode cX11_carry 6 = .ok (.iload_n 1, 1) := oq_27 (byt chX11_carry_0 6 rfl)
theorem dX11_carry_7 : decode cX11_carry 7 = .ok (.invokevirtual 287, 3) := oq_182 (byt chX11_carry_0 7 rfl) (byt chX11_carry_0 8 rfl) (byt chX11_carry_0 9 rfl) rfl
theorem dX11_carry_10 : decode cX11_carry 10 = .ok (.ifCond .ne 5, 3) := oq_154 (byt chX11_carry_0 10 rfl) (byt chX11_carry_0 11 rfl) (byt chX11_carry_0 12 rfl) (by decide +kernel)
theorem dX11_carry_13 : decode cX11_carry 13 = .ok (.iconst (-1), 1) := oq_2 (byt chX11_carry_0 13 rfl)
theorem dX11_carry_14 : decode cX11_carry 14 = .ok (.ireturn, 1) := oq_172 (byt chX11_carry_0 14 rfl)
theorem dX11_carry_15 : decode cX11_carry 15 = .ok (.iconst 0, 1) := oq_3 (byt chX11_carry_0 15 rfl)
theorem dX11_carry_16 : decode cX11_carry 16 = .ok (.istore_n 2, 1) := oq_61 (byt chX11_carry_1 0 rfl)
theorem dX11_carry_17 : decode cX11_carry 17 = .ok (.iconst 0, 1) := oq_3 (byt chX11_carry_1 1 rfl)
theorem dX11_carry_18 : decode cX11_carry 18 = .ok (.istore_n 3, 1) := oq_62 (byt chX11_carry_1 2 rfl)
theorem dX11_carry_19 : decode cX11_carry 19 = .ok (.iload_n 3, 1) := oq_29 (byt chX11_carry_1 3 rfl)
theorem dX11_carry_20 : decode cX11_carry 20 = .ok (.iconst 5, 1) := oq_8 (byt chX11_carry_1 4 rfl)
theorem dX11_carry_21 : decode cX11_carry 21 = .ok (.if_icmp .ge 40, 3) := oq_162 (byt chX11_carry_1 5 rfl) (byt chX11_carry_1 6 rfl) (byt chX11_carry_1 7 rfl) (by decide +kernel)
theorem dX11_carry_24 : decode cX11_carry 24 = .ok (.aload_n 0, 1) := oq_42 (byt chX11_carry_1 8 rfl)
theorem dX11_carry_25 : decode cX11_carry 25 = .ok (.iload_n 3, 1) := oq_29 (byt chX11_carry_1 9 rfl)
theorem dX11_carry_26 : decode cX11_carry 26 = .ok (.invokevirtual 423, 3) := oq_182 (byt chX11_carry_1 10 rfl) (byt chX11_carry_1 11 rfl) (byt chX11_carry_1 12 rfl) rfl
theorem dX11_carry_29 : decode cX11_carry 29 = .ok (.istore 4, 2) := oq_54 (byt chX11_carry_1 13 rfl) (byt chX11_carry_1 14 rfl) rfl
theorem dX11_carry_31 : decode cX11_carry 31 = .ok (.iload 4, 2) := oq_21 (byt chX11_carry_1 15 rfl) (byt chX11_carry_2 0 rfl) rfl
theorem dX11_carry_33 : decode cX11_carry 33 = .ok (.ldc_w 417, 3) := oq_19 (byt chX11_carry_2 1 rfl) (byt chX11_carry_2 2 rfl) (byt chX11_carry_2 3 rfl) rfl
theorem dX11_carry_36 : decode cX11_carry 36 = .ok (.if_icmp .lt 5, 3) := oq_161 (byt chX11_carry_2 4 rfl) (byt chX11_carry_2 5 rfl) (byt chX11_carry_2 6 rfl) (by decide +kernel)
theorem dX11_carry_39 : decode cX11_carry 39 = .ok (.iconst (-1), 1) := oq_2 (byt chX11_carry_2 7 rfl)
theorem dX11_carry_40 : decode cX11_carry 40 = .ok (.ireturn, 1) := oq_172 (byt chX11_carry_2 8 rfl)
theorem dX11_carry_41 : decode cX11_carry 41 = .ok (.iload_n 2, 1) := oq_28 (byt chX11_carry_2 9 rfl)
theorem dX11_carry_42 : decode cX11_carry 42 = .ok (.iload 4, 2) := oq_21 (byt chX11_carry_2 10 rfl) (byt chX11_carry_2 11 rfl) rfl
theorem dX11_carry_44 : decode cX11_carry 44 = .ok (.aload_n 0, 1) := oq_42 (byt chX11_carry_2 12 rfl)
theorem dX11_carry_45 : decode cX11_carry 45 = .ok (.bipush 74, 2) := oq_16 (byt chX11_carry_2 13 rfl) (byt chX11_carry_2 14 rfl) rfl
theorem dX11_carry_47 : decode cX11_carry 47 = .ok (.iload_n 3, 1) := oq_29 (byt chX11_carry_2 15 rfl)
theorem dX11_carry_48 : decode cX11_carry 48 = .ok (.iadd, 1) := oq_96 (byt chX11_carry_3 0 rfl)
theorem dX11_carry_49 : decode cX11_carry 49 = .ok (.invokevirtual 277, 3) := oq_182 (byt chX11_carry_3 1 rfl) (byt chX11_carry_3 2 rfl) (byt chX11_carry_3 3 rfl) rfl
theorem dX11_carry_52 : decode cX11_carry 52 = .ok (.imul, 1) := oq_104 (byt chX11_carry_3 4 rfl)
theorem dX11_carry_53 : decode cX11_carry 53 = .ok (.iadd, 1) := oq_96 (byt chX11_carry_3 5 rfl)
theorem dX11_carry_54 : decode cX11_carry 54 = .ok (.istore_n 2, 1) := oq_61 (byt chX11_carry_3 6 rfl)
theorem dX11_carry_55 : decode cX11_carry 55 = .ok (.iinc 3 1, 3) := oq_132 (byt chX11_carry_3 7 rfl) (byt chX11_carry_3 8 rfl) (byt chX11_carry_3 9 rfl) rfl
theorem dX11_carry_58 : decode cX11_carry 58 = .ok (.goto (-39), 3) := oq_167 (byt chX11_carry_3 10 rfl) (byt chX11_carry_3 11 rfl) (byt chX11_carry_3 12 rfl) (by decide +kernel)
theorem dX11_carry_61 : decode cX11_carry 61 = .ok (.iload_n 2, 1) := oq_28 (byt chX11_carry_3 13 rfl)
theorem dX11_carry_62 : decode cX11_carry 62 = .ok (.ireturn, 1) := oq_172 (byt chX11_carry_3 14 rfl)
abbrev mX11_carry : MI := (yX11_carry, cX11_carry, 5, (some .int), noE)
theorem okX11_carry : cok mX11_carry 1 := ⟨tw1675, tw11, by decide, by decide, by decide, by decide +kernel⟩
def fX11_carry (M : Mem) (a0 a1 : Int) : Option (Int × Mem) :=
  if M.2.1 a0 = 10 then bM (mst M a0 0 0) fun M2 => (fX11_hand M2 a0 a1).bind fun r4 => if r4.1 = 0 then (some ((-1), r4.2)) else (iterC (fun (rec7 : (Int × Int × Mem) → Option (Int × Mem)) (s8 : Int × Int × Mem) => if s8.2.1 < 5 then (if s8.2.2.2.1 a0 = 10 then (fX11_carryGood s8.2.2 a0 s8.2.1).bind fun r10 => if r10.1 < 1000000 then (if r10.2.2.1 a0 = 10 then (fX11_of r10.2 a0 (w32 (74 + s8.2.1))).bind fun r14 => rec7 (w32 (s8.1 + (w32 (r10.1 * r14))), w32 (s8.2.1 + 1), r10.2) else none) else (some ((-1), r10.2)) else none) else (some (s8.1, s8.2.2))) BIG (0, 0, r4.2)) else none
set_option maxRecDepth 100000 in
set_option maxHeartbeats 4000000 in
theorem kX11_carry (d : Nat) (hd : 4 ≤ d) (M : Mem) (a0 a1 : Int) : Ct mX11_carry d 0 0 [pA a0, pI a1] M dIM (fX11_carry M a0 a1) := by
  obtain ⟨d, rfl⟩ : ∃ k, d = k + 1 := ⟨d - 1, by omega⟩
  refine Ct.of 3 (fun _ _ _ => trivial) (by decide +kernel) rfl ?_
  unfold fX11_carry
  refine v_aload_n dX11_carry_0 rfl ?_
  refine v_iconst dX11_carry_1 (by decide) ?_
  refine v_if (fun h1 => ?_)
  refine v_put (x := 0) 10 0 rfl inX11 (by decide) tw1193 (Or.inl rfl) rfl dX11_carry_2 h1 rfl id ?_
  refine v_bM (fun M2 e3 => ?_)
  refine v_aload_n dX11_carry_5 rfl ?_
  refine v_iload_n dX11_carry_6 rfl ?_
  refine v_cV (mi := mX11_carry) (c0 := 0) (c1 := 0) (As := [pI a1]) (st := []) (kX11_hand d (by omega) _ _ _) rfl (by rw [e3]; exact h1) rfl okX11_hand (Or.inl tw1500) tw1502 tp54 rfl (Nat.le_of_ble_eq_true rfl) dX11_carry_7 (fun r4 => [pI r4.1]) (fun r4 => r4.2) (fun _ => rfl) (fun _ => rfl) (fun r4 h5 => ?_) rfl
  refine v_if_ne (tgt := 15) dX11_carry_10 (by decide) (fun c6 => ?_) (fun c6 => ?_)
  · refine v_iconst dX11_carry_13 (by decide) ?_
    exact v_ireturn dX11_carry_14 rfl rfl
  · refine v_iconst dX11_carry_15 (by decide) ?_
    refine v_istore_n (ls' := [some (pA a0), some (pI a1), some (pI 0), none, none]) dX11_carry_16 (by decide) rfl ?_
    refine v_iconst dX11_carry_17 (by decide) ?_
    refine v_istore_n (ls' := [some (pA a0), some (pI a1), some (pI 0), some (pI 0), none]) dX11_carry_18 (by decide) rfl ?_
    refine v_drop [some (pA a0), none, some (pI 0), some (pI 0), none] (ls_s (ls_n (ls_s (ls_s (ls_n ls_e))))) ?_
    refine v_loop (fun (s8 : Int × Int × Mem) => [some (pA a0), none, some (pI s8.1), some (pI s8.2.1), none]) (fun (s8 : Int × Int × Mem) => s8.2.2) (s0 := (0, 0, r4.2)) ?_
    intro rec7 hrec7 s8
    refine v_iload_n dX11_carry_19 rfl ?_
    refine v_iconst dX11_carry_20 (by decide) ?_
    refine v_icmp_ge (tgt := 61) dX11_carry_21 (by decide) (fun c9 => ?_) (fun c9 => ?_)
    · refine v_aload_n dX11_carry_24 rfl ?_
      refine v_iload_n dX11_carry_25 rfl ?_
      refine v_if (fun h12 => ?_)
      refine v_cV (mi := mX11_carry) (c0 := 0) (c1 := 0) (As := [pI s8.2.1]) (st := []) (kX11_carryGood d (by omega) _ _ _) rfl h12 rfl okX11_carryGood (Or.inl tw1676) tw1678 tp87 rfl (Nat.le_of_ble_eq_true rfl) dX11_carry_26 (fun r10 => [pI r10.1]) (fun r10 => r10.2) (fun _ => rfl) (fun _ => rfl) (fun r10 h11 => ?_) rfl
      refine v_istore (ls' := [some (pA a0), none, some (pI s8.1), some (pI s8.2.1), some (pI r10.1)]) dX11_carry_29 (by decide) rfl ?_
      refine v_iload dX11_carry_31 rfl ?_
      refine v_ldcw (n := 1000000) dX11_carry_33 (by decide) tw1680 ?_
      refine v_icmp_lt (tgt := 41) dX11_carry_36 (by decide) (fun c13 => ?_) (fun c13 => ?_)
      · refine v_iload_n dX11_carry_41 rfl ?_
        refine v_iload dX11_carry_42 rfl ?_
        refine v_aload_n dX11_carry_44 rfl ?_
        refine v_bipush dX11_carry_45 (by decide) ?_
        refine v_iload_n dX11_carry_47 rfl ?_
        refine v_iadd dX11_carry_48 ?_
        refine v_if (fun h16 => ?_)
        refine v_cV (mi := mX11_carry) (c0 := 0) (c1 := 0) (As := [pI (w32 (74 + s8.2.1))]) (st := [pI r10.1, pI s8.1]) (kX11_of d (by omega) _ _ _) rfl h16 rfl okX11_of (Or.inl tw1504) tw1506 tp55 rfl (Nat.le_of_ble_eq_true rfl) dX11_carry_49 (fun r14 => [pI r14, pI r10.1, pI s8.1]) (fun r14 => r10.2) (fun _ => rfl) (fun _ => rfl) (fun r14 h15 => ?_) rfl
        refine v_imul dX11_carry_52 ?_
        refine v_iadd dX11_carry_53 ?_
        refine v_istore_n (ls' := [some (pA a0), none, some (pI (w32 (s8.1 + (w32 (r10.1 * r14))))), some (pI s8.2.1), some (pI r10.1)]) dX11_carry_54 (by decide) rfl ?_
        refine v_iinc (ls' := [some (pA a0), none, some (pI (w32 (s8.1 + (w32 (r10.1 * r14))))), some (pI (w32 (s8.2.1 + 1))), some (pI r10.1)]) dX11_carry_55 (by decide) rfl rfl ?_
        refine v_goto (tgt := 19) dX11_carry_58 (by decide) ?_
        exact v_drop [some (pA a0), none, some (pI (w32 (s8.1 + (w32 (r10.1 * r14))))), some (pI (w32 (s8.2.1 + 1))), none] (ls_s (ls_n (ls_s (ls_s (ls_n ls_e))))) (hrec7 (w32 (s8.1 + (w32 (r10.1 * r14))), w32 (s8.2.1 + 1), r10.2))
      · refine v_iconst dX11_carry_39 (by decide) ?_
        exact v_ireturn dX11_carry_40 rfl rfl
    · refine v_iload_n dX11_carry_61 rfl ?_
      exact v_ireturn dX11_carry_62 rfl rfl
theorem chX11_roundOf_0 : (cX11_roundOf.data.toList.drop 0).take 16 = [27, 61, 4, 62, 29, 42, 180, 1, 25, 163, 0, 25, 42, 16, 68, 28] := by decide +kernel
theorem chX11_roundOf_1 : (cX11_roundOf.data.toList.drop 16).take 16 = [96, 182, 1, 21, 61, 28, 27, 160, 0, 5, 29, 172, 132, 3, 1, 167] := by decide +kernel
theorem chX11_roundOf_2 : (cX11_roundOf.data.toList.drop 32).take 16 = [255, 229, 2, 172] := by decide +kernel
theorem dX11_roundOf_0 : decode cX11_roundOf 0 = .ok (.iload_n 1, 1) := oq_27 (byt chX11_roundOf_0 0 rfl)
theorem dX11_roundOf_1 : decode cX11_roundOf 1 = .ok (.istore_n 2, 1) := oq_61 (byt chX11_roundOf_0 1 rfl)
theorem dX11_roundOf_2 : decode cX11_roundOf 2 = .ok (.iconst 1, 1) := oq_4 (byt chX11_roundOf_0 2 rfl)
theorem dX11_roundOf_3 : decode cX11_roundOf 3 = .ok (.istore_n 3, 1) := oq_62 (byt chX11_roundOf_0 3 rfl)
theorem dX11_roundOf_4 : decode cX11_roundOf 4 = .ok (.iload_n 3, 1) := oq_29 (byt chX11_roundOf_0 4 rfl)
theorem dX11_roundOf_5 : decode cX11_roundOf 5 = .ok (.aload_n 0, 1) := oq_42 (byt chX11_roundOf_0 5 rfl)
theorem dX11_roundOf_6 : decode cX11_roundOf 6 = .ok (.getfield 281, 3) := oq_180 (byt chX11_roundOf_0 6 rfl) (byt chX11_roundOf_0 7 rfl) (byt chX11_roundOf_0 8 rfl) rfl
theorem dX11_roundOf_9 : decode cX11_roundOf 9 = .ok (.if_icmp .gt 25, 3) := oq_163 (byt chX11_roundOf_0 9 rfl) (byt chX11_roundOf_0 10 rfl) (byt chX11_roundOf_0 11 rfl) (by decide +kernel)
theorem dX11_roundOf_12 : decode cX11_roundOf 12 = .ok (.aload_n 0, 1) := oq_42 (byt chX11_roundOf_0 12 rfl)
theorem dX11_roundOf_13 : decode cX11_roundOf 13 = .ok (.bipush 68, 2) := oq_16 (byt chX11_roundOf_0 13 rfl) (byt chX11_roundOf_0 14 rfl) rfl
theorem dX11_roundOf_15 : decode cX11_roundOf 15 = .ok (.iload_n 2, 1) := oq_28 (byt chX11_roundOf_0 15 rfl)
theorem dX11_roundOf_16 : decode cX11_roundOf 16 = .ok (.iadd, 1) := oq_96 (byt chX11_roundOf_1 0 rfl)
theorem dX11_roundOf_17 : decode cX11_roundOf 17 = .ok (.invokevirtual 277, 3) := oq_182 (byt chX11_roundOf_1 1 rfl) (byt chX11_roundOf_1 2 rfl) (byt chX11_roundOf_1 3 rfl) rfl
theorem dX11_roundOf_20 : decode cX11_roundOf 20 = .ok (.istore_n 2, 1) := oq_61 (byt chX11_roundOf_1 4 rfl)
theorem dX11_roundOf_21 : decode cX11_roundOf 21 = .ok (.iload_n 2, 1) := oq_28 (byt chX11_roundOf_1 5 rfl)
theorem dX11_roundOf_22 : decode cX11_roundOf 22 = .ok (.iload_n 1, 1) := oq_27 (byt chX11_roundOf_1 6 rfl)
theorem dX11_roundOf_23 : decode cX11_roundOf 23 = .ok (.if_icmp .ne 5, 3) := oq_160 (byt chX11_roundOf_1 7 rfl) (byt chX11_roundOf_1 8 rfl) (byt chX11_roundOf_1 9 rfl) (by decide +kernel)
theorem dX11_roundOf_26 : decode cX11_roundOf 26 = .ok (.iload_n 3, 1) := oq_29 (byt chX11_roundOf_1 10 rfl)
theorem dX11_roundOf_27 : decode cX11_roundOf 27 = .ok (.ireturn, 1) := oq_172 (byt chX11_roundOf_1 11 rfl)
theorem dX11_roundOf_28 : decode cX11_roundOf 28 = .ok (.iinc 3 1, 3) := oq_132 (byt chX11_roundOf_1 12 rfl) (byt chX11_roundOf_1 13 rfl) (byt chX11_roundOf_1 14 rfl) rfl
theorem dX11_roundOf_31 : decode cX11_roundOf 31 = .ok (.goto (-27), 3) := oq_167 (byt chX11_roundOf_1 15 rfl) (byt chX11_roundOf_2 0 rfl) (byt chX11_roundOf_2 1 rfl) (by decide +kernel)
theorem dX11_roundOf_34 : decode cX11_roundOf 34 = .ok (.iconst (-1), 1) := oq_2 (byt chX11_roundOf_2 2 rfl)
theorem dX11_roundOf_35 : decode cX11_roundOf 35 = .ok (.ireturn, 1) := oq_172 (byt chX11_roundOf_2 3 rfl)
abbrev mX11_roundOf : MI := (yX11_roundOf, cX11_roundOf, 4, (some .int), noE)
theorem okX11_roundOf : cok mX11_roundOf 1 := ⟨tw1695, tw11, by decide, by decide, by decide, by decide +kernel⟩
def fX11_roundOf (M : Mem) (a0 a1 : Int) : Option Int :=
  iterC (fun (rec1 : (Int × Int) → Option Int) (s2 : Int × Int) => if M.2.1 a0 = 10 then if M.1 a0 25 < s2.2 then (some (-1)) else ((fX11_of M a0 (w32 (68 + s2.1))).bind fun r5 => if r5 = a1 then (some s2.2) else (rec1 (r5, w32 (s2.2 + 1)))) else none) BIG (a1, 1)
set_option maxRecDepth 100000 in
set_option maxHeartbeats 4000000 in
theorem kX11_roundOf (d : Nat) (hd : 1 ≤ d) (M : Mem) (a0 a1 : Int) : Ct mX11_roundOf d 0 0 [pA a0, pI a1] M (dI M) (fX11_roundOf M a0 a1) := by
  obtain ⟨d, rfl⟩ : ∃ k, d = k + 1 := ⟨d - 1, by omega⟩
  refine Ct.of 2 (fun _ _ _ => trivial) (by decide +kernel) rfl ?_
  unfold fX11_roundOf
  refine v_iload_n dX11_roundOf_0 rfl ?_
  refine v_istore_n (ls' := [some (pA a0), some (pI a1), some (pI a1), none]) dX11_roundOf_1 (by decide) rfl ?_
  refine v_iconst dX11_roundOf_2 (by decide) ?_
  refine v_istore_n (ls' := [some (pA a0), some (pI a1), some (pI a1), some (pI 1)]) dX11_roundOf_3 (by decide) rfl ?_
  refine v_loop (fun (s2 : Int × Int) => [some (pA a0), some (pI a1), some (pI s2.1), some (pI s2.2)]) (fun (s2 : Int × Int) => M) (s0 := (a1, 1)) ?_
  intro rec1 hrec1 s2
  refine v_iload_n dX11_roundOf_4 rfl ?_
  refine v_aload_n dX11_roundOf_5 rfl ?_
  refine v_if (fun h3 => ?_)
  refine v_get (v := pI (M.1 a0 25)) 10 25 rfl inX11 (by decide) tw1218 dX11_roundOf_6 h3 rfl ?_
  refine v_icmp_gt (tgt := 34) dX11_roundOf_9 (by decide) (fun c4 => ?_) (fun c4 => ?_)
  · refine v_iconst dX11_roundOf_34 (by decide) ?_
    exact v_ireturn dX11_roundOf_35 rfl rfl
  · refine v_aload_n dX11_roundOf_12 rfl ?_
    refine v_bipush dX11_roundOf_13 (by decide) ?_
    refine v_iload_n dX11_roundOf_15 rfl ?_
    refine v_iadd dX11_roundOf_16 ?_
    refine v_cV (mi := mX11_roundOf) (c0 := 0) (c1 := 0) (As := [pI (w32 (68 + s2.1))]) (st := []) (kX11_of d (by omega) _ _ _) rfl h3 rfl okX11_of (Or.inl tw1504) tw1506 tp55 rfl (Nat.le_of_ble_eq_true rfl) dX11_roundOf_17 (fun r5 => [pI r5]) (fun r5 => M) (fun _ => rfl) (fun _ => rfl) (fun r5 h6 => ?_) rfl
    refine v_istore_n (ls' := [some (pA a0), some (pI a1), some (pI r5), some (pI s2.2)]) dX11_roundOf_20 (by decide) rfl ?_
    refine v_iload_n dX11_roundOf_21 rfl ?_
    refine v_iload_n dX11_roundOf_22 rfl ?_
    refine v_icmp_ne (tgt := 28) dX11_roundOf_23 (by decide) (fun c7 => ?_) (fun c7 => ?_)
    · refine v_iload_n dX11_roundOf_26 rfl ?_
      exact v_ireturn dX11_roundOf_27 rfl rfl
    · refine v_iinc (ls' := [some (pA a0), some (pI a1), some (pI r5), some (pI (w32 (s2.2 + 1)))]) dX11_roundOf_28 (by decide) rfl rfl ?_
      refine v_goto (tgt := 4) dX11_roundOf_31 (by decide) ?_
      exact hrec1 (r5, w32 (s2.2 + 1))
theorem chX11_common_0 : (cX11_common.data.toList.drop 0).take 16 = [26, 61, 27, 62, 29, 153, 0, 16, 28, 29, 112, 54, 4, 29, 61, 21] := by decide +kernel
theorem chX11_common_1 : (cX11_common.data.toList.drop 16).take 16 = [4, 62, 167, 255, 242, 28, 172] := by decide +kernel
theorem dX11_common_0 : decode cX11_common 0 = .ok (.iload_n 0, 1) := oq_26 (byt chX11_common_0 0 rfl)
theorem dX11_common_1 : decode cX11_common 1 = .ok (.istore_n 2, 1) := oq_61 (byt chX11_common_0 1 rfl)
theorem dX11_common_2 : decode cX11_common 2 = .ok (.iload_n 1, 1) := oq_27 (byt chX11_common_0 2 rfl)
theorem dX11_common_3 : decode cX11_common 3 = .ok (.istore_n 3, 1) := oq_62 (byt chX11_common_0 3 rfl)
theorem dX11_common_4 : decode cX11_common 4 = .ok (.iload_n 3, 1) := oq_29 (byt chX11_common_0 4 rfl)
theorem dX11_common_5 : decode cX11_common 5 = .ok (.ifCond .eq 16, 3) := oq_153 (byt chX11_common_0 5 rfl) (byt chX11_common_0 6 rfl) (byt chX11_common_0 7 rfl) (by decide +kernel)
theorem dX11_common_8 : decode cX11_common 8 = .ok (.iload_n 2, 1) := oq_28 (byt chX11_common_0 8 rfl)
theorem dX11_common_9 : decode cX11_common 9 = .ok (.iload_n 3, 1) := oq_29 (byt chX11_common_0 9 rfl)
theorem dX11_common_10 : decode cX11_common 10 = .ok (.irem, 1) := oq_112 (byt chX11_common_0 10 rfl)
theorem dX11_common_11 : decode cX11_common 11 = .ok (.istore 4, 2) := oq_54 (byt chX11_common_0 11 rfl) (byt chX11_common_0 12 rfl) rfl
theorem dX11_common_13 : decode cX11_common 13 = .ok (.iload_n 3, 1) := oq_29 (byt chX11_common_0 13 rfl)
theorem dX11_common_14 : decode cX11_common 14 = .ok (.istore_n 2, 1) := oq_61 (byt chX11_common_0 14 rfl)
theorem dX11_common_15 : decode cX11_common 15 = .ok (.iload 4, 2) := oq_21 (byt chX11_common_0 15 rfl) (byt chX11_common_1 0 rfl) rfl
theorem dX11_common_17 : decode cX11_common 17 = .ok (.istore_n 3, 1) := oq_62 (byt chX11_common_1 1 rfl)
theorem dX11_common_18 : decode cX11_common 18 = .ok (.goto (-14), 3) := oq_167 (byt chX11_common_1 2 rfl) (byt chX11_common_1 3 rfl) (byt chX11_common_1 4 rfl) (by decide +kernel)
theorem dX11_common_21 : decode cX11_common 21 = .ok (.iload_n 2, 1) := oq_28 (byt chX11_common_1 5 rfl)
theorem dX11_common_22 : decode cX11_common 22 = .ok (.ireturn, 1) := oq_172 (byt chX11_common_1 6 rfl)
abbrev mX11_common : MI := (yX11_common, cX11_common, 5, (some .int), noE)
theorem okX11_common : cok mX11_common 2 := ⟨tw1698, tw11, by decide, by decide, by decide, by decide +kernel⟩
def fX11_common (M : Mem) (a0 a1 : Int) : Option Int :=
  iterC (fun (rec1 : (Int × Int) → Option Int) (s2 : Int × Int) => if s2.2 = 0 then (some s2.1) else (if s2.2 ≠ 0 then rec1 (s2.2, s2.1.tmod s2.2) else none)) BIG (a0, a1)
set_option maxRecDepth 100000 in
set_option maxHeartbeats 4000000 in
theorem kX11_common (d : Nat) (hd : 0 ≤ d) (M : Mem) (a0 a1 : Int) : Ct mX11_common d 0 0 [pI a0, pI a1] M (dI M) (fX11_common M a0 a1) := by
  refine Ct.of 3 (fun _ _ _ => trivial) (by decide +kernel) rfl ?_
  unfold fX11_common
  refine v_iload_n dX11_common_0 rfl ?_
  refine v_istore_n (ls' := [some (pI a0), some (pI a1), some (pI a0), none, none]) dX11_common_1 (by decide) rfl ?_
  refine v_iload_n dX11_common_2 rfl ?_
  refine v_istore_n (ls' := [some (pI a0), some (pI a1), some (pI a0), some (pI a1), none]) dX11_common_3 (by decide) rfl ?_
  refine v_drop [none, none, some (pI a0), some (pI a1), none] (ls_n (ls_n (ls_s (ls_s (ls_n ls_e))))) ?_
  refine v_loop (fun (s2 : Int × Int) => [none, none, some (pI s2.1), some (pI s2.2), none]) (fun (s2 : Int × Int) => M) (s0 := (a0, a1)) ?_
  intro rec1 hrec1 s2
  refine v_iload_n dX11_common_4 rfl ?_
  refine v_if_eq (tgt := 21) dX11_common_5 (by decide) (fun c3 => ?_) (fun c3 => ?_)
  · refine v_iload_n dX11_common_21 rfl ?_
    exact v_ireturn dX11_common_22 rfl rfl
  · refine v_iload_n dX11_common_8 rfl ?_
    refine v_iload_n dX11_common_9 rfl ?_
    refine v_if (fun h4 => ?_)
    refine v_irem h4 dX11_common_10 ?_
    refine v_istore (ls' := [none, none, some (pI s2.1), some (pI s2.2), some (pI (s2.1.tmod s2.2))]) dX11_common_11 (by decide) rfl ?_
    refine v_iload_n dX11_common_13 rfl ?_
    refine v_istore_n (ls' := [none, none, some (pI s2.2), some (pI s2.2), some (pI (s2.1.tmod s2.2))]) dX11_common_14 (by decide) rfl ?_
    refine v_iload dX11_common_15 rfl ?_
    refine v_istore_n (ls' := [none, none, some (pI s2.2), some (pI (s2.1.tmod s2.2)), some (pI (s2.1.tmod s2.2))]) dX11_common_17 (by decide) rfl ?_
    refine v_goto (tgt := 4) dX11_common_18 (by decide) ?_
    exact v_drop [none, none, some (pI s2.2), some (pI (s2.1.tmod s2.2)), none] (ls_n (ls_n (ls_s (ls_s (ls_n ls_e))))) (hrec1 (s2.2, s2.1.tmod s2.2))
theorem chX11_round_0 : (cX11_round.data.toList.drop 0).take 16 = [42, 3, 181, 0, 90, 42, 27, 182, 1, 31, 153, 0, 16, 28, 2, 159] := by decide +kernel
theorem chX11_round_1 : (cX11_round.data.toList.drop 16).take 16 = [0, 13, 42, 28, 182, 1, 34, 154, 0, 5, 2, 172, 28, 2, 159, 0] := by decide +kernel
theorem chX11_round_2 : (cX11_round.data.toList.drop 32).take 16 = [9, 42, 28, 182, 1, 170, 172, 4, 62, 3, 54, 4, 21, 4, 42, 180] := by decide +kernel
theorem chX11_round_3 : (cX11_round.data.toList.drop 48).take 16 = [1, 25, 162, 0, 37, 42, 21, 4, 182, 1, 170, 54, 5, 21, 5, 2] := by decide +kernel
theorem chX11_round_4 : (cX11_round.data.toList.drop 64).take 16 = [160, 0, 5, 2, 172, 29, 29, 21, 5, 184, 1, 173, 108, 21, 5, 104] := by decide +kernel
theorem chX11_round_5 : (cX11_round.data.toList.drop 80).take 16 = [62, 132, 4, 1, 167, 255, 216, 29, 172] := by decide +kernel
theorem dX11_round_0 : decode cX11_round 0 = .ok (.aload_n 0, 1) := oq_42 (byt chX11_round_0 0 rfl)
theorem dX11_round_1 : decode cX11_round 1 = .ok (.iconst 0, 1) := oq_3 (byt chX11_round_0 1 rfl)
theorem dX11_round_2 : decode cX11_round 2 = .ok (.putfield 90, 3) := oq_181 (byt chX11_round_0 2 rfl) (byt chX11_round_0 3 rfl) (byt chX11_round_0 4 rfl) rfl
theorem dX11_round_5 : decode cX11_round 5 = .ok (.aload_n 0, 1) := oq_42 (byt chX11_round_0 5 rfl)
theorem dX11_round_6 : decode cX11_round 6 = .ok (.iload_n 1, 1) := oq_27 (byt chX11_round_0 6 rfl)
theorem dX11_round_7 : decode cX11_round 7 = .ok (.invokevirtual 287, 3) := oq_182 (byt chX11_round_0 7 rfl) (byt chX11_round_0 8 rfl) (byt chX11_round_0 9 rfl) rfl
theorem dX11_round_10 : decode cX11_round 10 = .ok (.ifCond .eq 16, 3) := oq_153 (byt chX11_round_0 10 rfl) (byt chX11_round_0 11 rfl) (byt chX11_round_0 12 rfl) (by decide +kernel)
theorem dX11_round_13 : decode cX11_round 13 = .ok (.iload_n 2, 1) := oq_28 (byt chX11_round_0 13 rfl)
theorem dX11_round_14 : decode cX11_round 14 = .ok (.iconst (-1), 1) := oq_2 (byt chX11_round_0 14 rfl)
theorem dX11_round_15 : decode cX11_round 15 = .ok (.if_icmp .eq 13, 3) := oq_159 (byt chX11_round_0 15 rfl) (byt chX11_round_1 0 rfl) (byt chX11_round_1 1 rfl) (by decide +kernel)
theorem dX11_round_18 : decode cX11_round 18 = .ok (.aload_n 0, 1) := oq_42 (byt chX11_round_1 2 rfl)
theorem dX11_round_19 : decode cX11_round 19 = .ok (.iload_n 2, 1) := oq_28 (byt chX11_round_1 3 rfl)
theorem dX11_round_20 : decode cX11_round 20 = .ok (.invokevirtual 290, 3) := oq_182 (byt chX11_round_1 4 rfl) (byt chX11_round_1 5 rfl) (byt chX11_round_1 6 rfl) rfl
theorem dX11_round_23 : decode cX11_round 23 = .ok (.ifCond .ne 5, 3) := oq_154 (byt chX11_round_1 7 rfl) (byt chX11_round_1 8 rfl) (byt chX11_round_1 9 rfl) (by decide +kernel)
theorem dX11_round_26 : decode cX11_round 26 = .ok (.iconst (-1), 1) := oq_2 (byt chX11_round_1 10 rfl)
theorem dX11_round_27 : decode cX11_round 27 = .ok (.ireturn, 1) := oq_172 (byt chX11_round_1 11 rfl)
theorem dX11_round_28 : decode cX11_round 28 = .ok (.iload_n 2, 1) := oq_28 (byt chX11_round_1 12 rfl)
theorem dX11_round_29 : decode cX11_round 29 = .ok (.iconst (-1), 1) := oq_2 (byt chX11_round_1 13 rfl)
theorem dX11_round_30 : decode cX11_round 30 = .ok (.if_icmp .eq 9, 3) := oq_159 (byt chX11_round_1 14 rfl) (byt chX11_round_1 15 rfl) (byt chX11_round_2 0 rfl) (by decide +kernel)
theorem dX11_round_33 : decode cX11_round 33 = .ok (.aload_n 0, 1) := oq_42 (byt chX11_round_2 1 rfl)
theorem dX11_round_34 : decode cX11_round 34 = .ok (.iload_n 2, 1) := oq_28 (byt chX11_round_2 2 rfl)
theorem dX11_round_35 : decode cX11_round 35 = .ok (.invokevirtual 426, 3) := oq_182 (byt chX11_round_2 3 rfl) (byt chX11_round_2 4 rfl) (byt chX11_round_2 5 rfl) rfl
theorem dX11_round_38 : decode cX11_round 38 = .ok (.ireturn, 1) := oq_172 (byt chX11_round_2 6 rfl)
theorem dX11_round_39 : decode cX11_round 39 = .ok (.iconst 1, 1) := oq_4 (byt chX11_round_2 7 rfl)
theorem dX11_round_40 : decode cX11_round 40 = .ok (.istore_n 3, 1) := oq_62 (byt chX11_round_2 8 rfl)
theorem dX11_round_41 : decode cX11_round 41 = .ok (.iconst 0, 1) := oq_3 (byt chX11_round_2 9 rfl)
theorem dX11_round_42 : decode cX11_round 42 = .ok (.istore 4, 2) := oq_54 (byt chX11_round_2 10 rfl) (byt chX11_round_2 11 rfl) rfl
theorem dX11_round_44 : decode cX11_round 44 = .ok (.iload 4, 2) := oq_21 (byt chX11_round_2 12 rfl) (byt chX11_round_2 13 rfl) rfl
theorem dX11_round_46 : decode cX11_round 46 = .ok (.aload_n 0, 1) := oq_42 (byt chX11_round_2 14 rfl)
theorem dX11_round_47 : decode cX11_round 47 = .ok (.getfield 281, 3) := oq_180 (byt chX11_round_2 15 rfl) (byt chX11_round_3 0 rfl) (byt chX11_round_3 1 rfl) rfl
theorem dX11_round_50 : decode cX11_round 50 = .ok (.if_icmp .ge 37, 3) := oq_162 (byt chX11_round_3 2 rfl) (byt chX11_round_3 3 rfl) (byt chX11_round_3 4 rfl) (by decide +kernel)
theorem dX11_round_53 : decode cX11_round 53 = .ok (.aload_n 0, 1) := oq_42 (byt chX11_round_3 5 rfl)
theorem dX11_round_54 : decode cX11_round 54 = .ok (.iload 4, 2) := oq_21 (byt chX11_round_3 6 rfl) (byt chX11_round_3 7 rfl) rfl
theorem dX11_round_56 : decode cX11_round 56 = .ok (.invokevirtual 426, 3) := oq_182 (byt chX11_round_3 8 rfl) (byt chX11_round_3 9 rfl) (byt chX11_round_3 10 rfl) rfl
theorem dX11_round_59 : decode cX11_round 59 = .ok (.istore 5, 2) := oq_54 (byt chX11_round_3 11 rfl) (byt chX11_round_3 12 rfl) rfl
theorem dX11_round_61 : decode cX11_round 61 = .ok (.iload 5, 2) := oq_21 (byt chX11_round_3 13 rfl) (byt chX11_round_3 14 rfl) rfl
theorem dX11_round_63 : decode cX11_round 63 = .ok (.iconst (-1), 1) := oq_2 (byt chX11_round_3 15 rfl)
theorem dX11_round_64 : decode cX11_round 64 = .ok (.if_icmp .ne 5, 3) := oq_160 (byt chX11_round_4 0 rfl) (byt chX11_round_4 1 rfl) (byt chX11_round_4 2 rfl) (by decide +kernel)
theorem dX11_round_67 : decode cX11_round 67 = .ok (.iconst (-1), 1) := oq_2 (byt chX11_round_4 3 rfl)
theorem dX11_round_68 : decode cX11_round 68 = .ok (.ireturn, 1) := oq_172 (byt chX11_round_4 4 rfl)
theorem dX11_round_69 : decode cX11_round 69 = .ok (.iload_n 3, 1) := oq_29 (byt chX11_round_4 5 rfl)
theorem dX11_round_70 : decode cX11_round 70 = .ok (.iload_n 3, 1) := oq_29 (byt chX11_round_4 6 rfl)
theorem dX11_round_71 : decode cX11_round 71 = .ok (.iload 5, 2) := oq_21 (byt chX11_round_4 7 rfl) (byt chX11_round_4 8 rfl) rfl
theorem dX11_round_73 : decode cX11_round 73 = .ok (.invokestatic 429, 3) := oq_184 (byt chX11_round_4 9 rfl) (byt chX11_round_4 10 rfl) (byt chX11_round_4 11 rfl) rfl
theorem dX11_round_76 : decode cX11_round 76 = .ok (.idiv, 1) := oq_108 (byt chX11_round_4 12 rfl)
theorem dX11_round_77 : decode cX11_round 77 = .ok (.iload 5, 2) := oq_21 (byt chX11_round_4 13 rfl) (byt chX11_round_4 14 rfl) rfl
theorem dX11_round_79 : decode cX11_round 79 = .ok (.imul, 1) := oq_104 (byt chX11_round_4 15 rfl)
theorem dX11_round_80 : decode cX11_round 80 = .ok (.istore_n 3, 1) := oq_62 (byt chX11_round_5 0 rfl)
theorem dX11_round_81 : decode cX11_round 81 = .ok (.iinc 4 1, 3) := oq_132 (byt chX11_round_5 1 rfl) (byt chX11_round_5 2 rfl) (byt chX11_round_5 3 rfl) rfl
theorem dX11_round_84 : decode cX11_round 84 = .ok (.goto (-40), 3) := oq_167 (byt chX11_round_5 4 rfl) (byt chX11_round_5 5 rfl) (byt chX11_round_5 6 rfl) (by decide +kernel)
theorem dX11_round_87 : decode cX11_round 87 = .ok (.iload_n 3, 1) := oq_29 (byt chX11_round_5 7 rfl)
theorem dX11_round_88 : decode cX11_round 88 = .ok (.ireturn, 1) := oq_172 (byt chX11_round_5 8 rfl)
abbrev mX11_round : MI := (yX11_round, cX11_round, 6, (some .int), noE)
theorem okX11_round : cok mX11_round 2 := ⟨tw1691, tw11, by decide, by decide, by decide, by decide +kernel⟩
def fX11_round (M : Mem) (a0 a1 a2 : Int) : Option (Int × Mem) :=
  if M.2.1 a0 = 10 then bM (mst M a0 0 0) fun M2 => (fX11_hand M2 a0 a1).bind fun r4 => if r4.1 = 0 then (some ((-1), r4.2)) else (jn (fun (t8 : Unit) => if a2 = (-1) then (iterC (fun (rec10 : (Int × Int) → Option (Int × Mem)) (s11 : Int × Int) => if r4.2.2.1 a0 = 10 then if s11.2 < r4.2.1 a0 25 then ((fX11_roundOf r4.2 a0 s11.2).bind fun r14 => if r14 = (-1) then (some ((-1), r4.2)) else ((fX11_common r4.2 s11.1 r14).bind fun r17 => if r17 ≠ 0 then rec10 (w32 ((w32 (s11.1.tdiv r17)) * r14), w32 (s11.2 + 1)) else none)) else (some (s11.1, r4.2)) else none) BIG (1, 0)) else (if r4.2.2.1 a0 = 10 then (fX11_roundOf r4.2 a0 a2).bind fun r20 => some (r20, r4.2) else none)) (fun (j7 : Unit → Option (Int × Mem)) => if a2 = (-1) then (j7 ()) else (if r4.2.2.1 a0 = 10 then (fX11_isHouse r4.2 a0 a2).bind fun r24 => if r24 = 0 then (some ((-1), r4.2)) else (j7 ()) else none))) else none
set_option maxRecDepth 100000 in
set_option maxHeartbeats 4000000 in
theorem kX11_round (d : Nat) (hd : 3 ≤ d) (M : Mem) (a0 a1 a2 : Int) : Ct mX11_round d 0 0 [pA a0, pI a1, pI a2] M dIM (fX11_round M a0 a1 a2) := by
  obtain ⟨d, rfl⟩ : ∃ k, d = k + 1 := ⟨d - 1, by omega⟩
  refine Ct.of 3 (fun _ _ _ => trivial) (by decide +kernel) rfl ?_
  unfold fX11_round
  refine v_aload_n dX11_round_0 rfl ?_
  refine v_iconst dX11_round_1 (by decide) ?_
  refine v_if (fun h1 => ?_)
  refine v_put (x := 0) 10 0 rfl inX11 (by decide) tw1193 (Or.inl rfl) rfl dX11_round_2 h1 rfl id ?_
  refine v_bM (fun M2 e3 => ?_)
  refine v_aload_n dX11_round_5 rfl ?_
  refine v_iload_n dX11_round_6 rfl ?_
  refine v_cV (mi := mX11_round) (c0 := 0) (c1 := 0) (As := [pI a1]) (st := []) (kX11_hand d (by omega) _ _ _) rfl (by rw [e3]; exact h1) rfl okX11_hand (Or.inl tw1500) tw1502 tp54 rfl (Nat.le_of_ble_eq_true rfl) dX11_round_7 (fun r4 => [pI r4.1]) (fun r4 => r4.2) (fun _ => rfl) (fun _ => rfl) (fun r4 h5 => ?_) rfl
  refine v_if_eq (tgt := 26) dX11_round_10 (by decide) (fun c6 => ?_) (fun c6 => ?_)
  · refine v_iconst dX11_round_26 (by decide) ?_
    exact v_ireturn dX11_round_27 rfl rfl
  · refine v_iload_n dX11_round_13 rfl ?_
    refine v_iconst dX11_round_14 (by decide) ?_
    refine v_join (fun (t8 : Unit) => [some (pA a0), none, some (pI a2), none, none, none]) (fun (t8 : Unit) => []) (fun (t8 : Unit) => r4.2) 28 (fun t8 => ?_) (fun j7 hj7 => ?_)
    · refine v_iload_n dX11_round_28 rfl ?_
      refine v_iconst dX11_round_29 (by decide) ?_
      refine v_icmp_eq (tgt := 39) dX11_round_30 (by decide) (fun c9 => ?_) (fun c9 => ?_)
      · refine v_iconst dX11_round_39 (by decide) ?_
        refine v_istore_n (ls' := [some (pA a0), none, some (pI a2), some (pI 1), none, none]) dX11_round_40 (by decide) rfl ?_
        refine v_iconst dX11_round_41 (by decide) ?_
        refine v_istore (ls' := [some (pA a0), none, some (pI a2), some (pI 1), some (pI 0), none]) dX11_round_42 (by decide) rfl ?_
        refine v_drop [some (pA a0), none, none, some (pI 1), some (pI 0), none] (ls_s (ls_n (ls_n (ls_s (ls_s (ls_n ls_e)))))) ?_
        refine v_loop (fun (s11 : Int × Int) => [some (pA a0), none, none, some (pI s11.1), some (pI s11.2), none]) (fun (s11 : Int × Int) => r4.2) (s0 := (1, 0)) ?_
        intro rec10 hrec10 s11
        refine v_iload dX11_round_44 rfl ?_
        refine v_aload_n dX11_round_46 rfl ?_
        refine v_if (fun h12 => ?_)
        refine v_get (v := pI (r4.2.1 a0 25)) 10 25 rfl inX11 (by decide) tw1218 dX11_round_47 h12 rfl ?_
        refine v_icmp_ge (tgt := 87) dX11_round_50 (by decide) (fun c13 => ?_) (fun c13 => ?_)
        · refine v_aload_n dX11_round_53 rfl ?_
          refine v_iload dX11_round_54 rfl ?_
          refine v_cV (mi := mX11_round) (c0 := 0) (c1 := 0) (As := [pI s11.2]) (st := []) (kX11_roundOf d (by omega) _ _ _) rfl h12 rfl okX11_roundOf (Or.inl tw1692) tw1694 tp89 rfl (Nat.le_of_ble_eq_true rfl) dX11_round_56 (fun r14 => [pI r14]) (fun r14 => r4.2) (fun _ => rfl) (fun _ => rfl) (fun r14 h15 => ?_) rfl
          refine v_istore (ls' := [some (pA a0), none, none, some (pI s11.1), some (pI s11.2), some (pI r14)]) dX11_round_59 (by decide) rfl ?_
          refine v_iload dX11_round_61 rfl ?_
          refine v_iconst dX11_round_63 (by decide) ?_
          refine v_icmp_ne (tgt := 69) dX11_round_64 (by decide) (fun c16 => ?_) (fun c16 => ?_)
          · refine v_iconst dX11_round_67 (by decide) ?_
            exact v_ireturn dX11_round_68 rfl rfl
          · refine v_iload_n dX11_round_69 rfl ?_
            refine v_iload_n dX11_round_70 rfl ?_
            refine v_iload dX11_round_71 rfl ?_
            refine v_cS (mi := mX11_round) (c0 := 0) (c1 := 0) (As := [pI s11.1, pI r14]) (st := [pI s11.1]) (kX11_common d (by omega) _ _ _) okX11_common (Or.inl tw1696) tw1697 rfl (Nat.le_of_ble_eq_true rfl) dX11_round_73 (fun r17 => [pI r17, pI s11.1]) (fun r17 => r4.2) (fun _ => rfl) (fun _ => rfl) (fun r17 h18 => ?_) rfl
            refine v_if (fun h19 => ?_)
            refine v_idiv h19 dX11_round_76 ?_
            refine v_iload dX11_round_77 rfl ?_
            refine v_imul dX11_round_79 ?_
            refine v_istore_n (ls' := [some (pA a0), none, none, some (pI (w32 ((w32 (s11.1.tdiv r17)) * r14))), some (pI s11.2), some (pI r14)]) dX11_round_80 (by decide) rfl ?_
            refine v_iinc (ls' := [some (pA a0), none, none, some (pI (w32 ((w32 (s11.1.tdiv r17)) * r14))), some (pI (w32 (s11.2 + 1))), some (pI r14)]) dX11_round_81 (by decide) rfl rfl ?_
            refine v_goto (tgt := 44) dX11_round_84 (by decide) ?_
            exact v_drop [some (pA a0), none, none, some (pI (w32 ((w32 (s11.1.tdiv r17)) * r14))), some (pI (w32 (s11.2 + 1))), none] (ls_s (ls_n (ls_n (ls_s (ls_s (ls_n ls_e)))))) (hrec10 (w32 ((w32 (s11.1.tdiv r17)) * r14), w32 (s11.2 + 1)))
        · refine v_iload_n dX11_round_87 rfl ?_
          exact v_ireturn dX11_round_88 rfl rfl
      · refine v_aload_n dX11_round_33 rfl ?_
        refine v_iload_n dX11_round_34 rfl ?_
        refine v_if (fun h22 => ?_)
        refine v_cV (mi := mX11_round) (c0 := 0) (c1 := 0) (As := [pI a2]) (st := []) (kX11_roundOf d (by omega) _ _ _) rfl h22 rfl okX11_roundOf (Or.inl tw1692) tw1694 tp89 rfl (Nat.le_of_ble_eq_true rfl) dX11_round_35 (fun r20 => [pI r20]) (fun r20 => r4.2) (fun _ => rfl) (fun _ => rfl) (fun r20 h21 => ?_) rfl
        exact v_ireturn dX11_round_38 rfl rfl
    · refine v_icmp_eq (tgt := 28) dX11_round_15 (by decide) (fun c23 => ?_) (fun c23 => ?_)
      · exact v_drop [some (pA a0), none, some (pI a2), none, none, none] (ls_s (ls_n (ls_s (ls_n (ls_n (ls_n ls_e)))))) (hj7 ())
      · refine v_aload_n dX11_round_18 rfl ?_
        refine v_iload_n dX11_round_19 rfl ?_
        refine v_if (fun h26 => ?_)
        refine v_cV (mi := mX11_round) (c0 := 0) (c1 := 0) (As := [pI a2]) (st := []) (kX11_isHouse d (by omega) _ _ _) rfl h26 rfl okX11_isHouse (Or.inl tw1508) tw1510 tp56 rfl (Nat.le_of_ble_eq_true rfl) dX11_round_20 (fun r24 => [pI r24]) (fun r24 => r4.2) (fun _ => rfl) (fun _ => rfl) (fun r24 h25 => ?_) rfl
        refine v_if_ne (tgt := 28) dX11_round_23 (by decide) (fun c27 => ?_) (fun c27 => ?_)
        · refine v_iconst dX11_round_26 (by decide) ?_
          exact v_ireturn dX11_round_27 rfl rfl
        · exact v_drop [some (pA a0), none, some (pI a2), none, none, none] (ls_s (ls_n (ls_s (ls_n (ls_n (ls_n ls_e)))))) (hj7 ())
theorem chX11_meets_0 : (cX11_meets.data.toList.drop 0).take 16 = [42, 3, 181, 0, 90, 42, 27, 182, 1, 31, 153, 0, 19, 42, 28, 182] := by decide +kernel
theorem chX11_meets_1 : (cX11_meets.data.toList.drop 16).take 16 = [1, 34, 153, 0, 11, 42, 29, 182, 1, 34, 154, 0, 5, 2, 172, 28] := by decide +kernel
theorem chX11_meets_2 : (cX11_meets.data.toList.drop 32).take 16 = [54, 4, 29, 54, 5, 3, 54, 6, 21, 6, 16, 40, 163, 0, 41, 21] := by decide +kernel
theorem chX11_meets_3 : (cX11_meets.data.toList.drop 48).take 16 = [4, 21, 5, 160, 0, 6, 21, 6, 172, 42, 16, 68, 21, 4, 96, 182] := by decide +kernel
theorem chX11_meets_4 : (cX11_meets.data.toList.drop 64).take 16 = [1, 21, 54, 4, 42, 16, 68, 21, 5, 96, 182, 1, 21, 54, 5, 132] := by decide +kernel
theorem chX11_meets_5 : (cX11_meets.data.toList.drop 80).take 16 = [6, 1, 167, 255, 214, 2, 172] := by decide +kernel
theorem dX11_meets_0 : decode cX11_meets 0 = .ok (.aload_n 0, 1) := oq_42 (byt chX11_meets_0 0 rfl)
theorem dX11_meets_1 : decode cX11_meets 1 = .ok (.iconst 0, 1) := oq_3 (byt chX11_meets_0 1 rfl)
theorem dX11_meets_2 : decode cX11_meets 2 = .ok (.putfield 90, 3) := oq_181 (byt chX11_meets_0 2 rfl) (byt chX11_meets_0 3 rfl) (byt chX11_meets_0 4 rfl) rfl
theorem dX11_meets_5 : decode cX11_meets 5 = .ok (.aload_n 0, 1) := oq_42 (byt chX11_meets_0 5 rfl)
theorem dX11_meets_6 : decode cX11_meets 6 = .ok (.iload_n 1, 1) := oq_27 (byt chX11_meets_0 6 rfl)
theorem dX11_meets_7 : decode cX11_meets 7 = .ok (.invokevirtual 287, 3) := oq_182 (byt chX11_meets_0 7 rfl) (byt chX11_meets_0 8 rfl) (byt chX11_meets_0 9 rfl) rfl
theorem dX11_meets_10 : decode cX11_meets 10 = .ok (.ifCond .eq 19, 3) := oq_153 (byt chX11_meets_0 10 rfl) (byt chX11_meets_0 11 rfl) (byt chX11_meets_0 12 rfl) (by decide +kernel)
theorem dX11_meets_13 : decode cX11_meets 13 = .ok (.aload_n 0, 1) := oq_42 (byt chX11_meets_0 13 rfl)
theorem dX11_meets_14 : decode cX11_meets 14 = .ok (.iload_n 2, 1) := oq_28 (byt chX11_meets_0 14 rfl)
theorem dX11_meets_15 : decode cX11_meets 15 = .ok (.invokevirtual 290, 3) := oq_182 (byt chX11_meets_0 15 rfl) (byt chX11_meets_1 0 rfl) (byt chX11_meets_1 1 rfl) rfl
theorem dX11_meets_18 : decode cX11_meets 18 = .ok (.ifCond .eq 11, 3) := oq_153 (byt chX11_meets_1 2 rfl) (byt chX11_meets_1 3 rfl) (byt chX11_meets_1 4 rfl) (by decide +kernel)
theorem dX11_meets_21 : decode cX11_meets 21 = .ok (.aload_n 0, 1) := oq_42 (byt chX11_meets_1 5 rfl)
theorem dX11_meets_22 : decode cX11_meets 22 = .ok (.iload_n 3, 1) := oq_29 (byt chX11_meets_1 6 rfl)
theorem dX11_meets_23 : decode cX11_meets 23 = .ok (.invokevirtual 290, 3) := oq_182 (byt chX11_meets_1 7 rfl) (byt chX11_meets_1 8 rfl) (byt chX11_meets_1 9 rfl) rfl
theorem dX11_meets_26 : decode cX11_meets 26 = .ok (.ifCond .ne 5, 3) := oq_154 (byt chX11_meets_1 10 rfl) (byt chX11_meets_1 11 rfl) (byt chX11_meets_1 12 rfl) (by decide +kernel)
theorem dX11_meets_29 : decode cX11_meets 29 = .ok (.iconst (-1), 1) := oq_2 (byt chX11_meets_1 13 rfl)
theorem dX11_meets_30 : decode cX11_meets 30 = .ok (.ireturn, 1) := oq_172 (byt chX11_meets_1 14 rfl)
theorem dX11_meets_31 : decode cX11_meets 31 = .ok (.iload_n 2, 1) := oq_28 (byt chX11_meets_1 15 rfl)
theorem dX11_meets_32 : decode cX11_meets 32 = .ok (.istore 4, 2) := oq_54 (byt chX11_meets_2 0 rfl) (byt chX11_meets_2 1 rfl) rfl
theorem dX11_meets_34 : decode cX11_meets 34 = .ok (.iload_n 3, 1) := oq_29 (byt chX11_meets_2 2 rfl)
theorem dX11_meets_35 : decode cX11_meets 35 = .ok (.istore 5, 2) := oq_54 (byt chX11_meets_2 3 rfl) (byt chX11_meets_2 4 rfl) rfl
theorem dX11_meets_37 : decode cX11_meets 37 = .ok (.iconst 0, 1) := oq_3 (byt chX11_meets_2 5 rfl)
theorem dX11_meets_38 : decode cX11_meets 38 = .ok (.istore 6, 2) := oq_54 (byt chX11_meets_2 6 rfl) (byt chX11_meets_2 7 rfl) rfl
theorem dX11_meets_40 : decode cX11_meets 40 = .ok (.iload 6, 2) := oq_21 (byt chX11_meets_2 8 rfl) (byt chX11_meets_2 9 rfl) rfl
theorem dX11_meets_42 : decode cX11_meets 42 = .ok (.bipush 40, 2) := oq_16 (byt chX11_meets_2 10 rfl) (byt chX11_meets_2 11 rfl) rfl
theorem dX11_meets_44 : decode cX11_meets 44 = .ok (.if_icmp .gt 41, 3) := oq_163 (byt chX11_meets_2 12 rfl) (byt chX11_meets_2 13 rfl) (byt chX11_meets_2 14 rfl) (by decide +kernel)
theorem dX11_meets_47 : decode cX11_meets 47 = .ok (.iload 4, 2) := oq_21 (byt chX11_meets_2 15 rfl) (byt chX11_meets_3 0 rfl) rfl
theorem dX11_meets_49 : decode cX11_meets 49 = .ok (.iload 5, 2) := oq_21 (byt chX11_meets_3 1 rfl) (byt chX11_meets_3 2 rfl) rfl
theorem dX11_meets_51 : decode cX11_meets 51 = .ok (.if_icmp .ne 6, 3) := oq_160 (byt chX11_meets_3 3 rfl) (byt chX11_meets_3 4 rfl) (byt chX11_meets_3 5 rfl) (by decide +kernel)
theorem dX11_meets_54 : decode cX11_meets 54 = .ok (.iload 6, 2) := oq_21 (byt chX11_meets_3 6 rfl) (byt chX11_meets_3 7 rfl) rfl
theorem dX11_meets_56 : decode cX11_meets 56 = .ok (.ireturn, 1) := oq_172 (byt chX11_meets_3 8 rfl)
theorem dX11_meets_57 : decode cX11_meets 57 = .ok (.aload_n 0, 1) := oq_42 (byt chX11_meets_3 9 rfl)
theorem dX11_meets_58 : decode cX11_meets 58 = .ok (.bipush 68, 2) := oq_16 (byt chX11_meets_3 10 rfl) (byt chX11_meets_3 11 rfl) rfl
theorem dX11_meets_60 : decode cX11_meets 60 = .ok (.iload 4, 2) := oq_21 (byt chX11_meets_3 12 rfl) (byt chX11_meets_3 13 rfl) rfl
theorem dX11_meets_62 : decode cX11_meets 62 = .ok (.iadd, 1) := oq_96 (byt chX11_meets_3 14 rfl)
theorem dX11_meets_63 : decode cX11_meets 63 = .ok (.invokevirtual 277, 3) := oq_182 (byt chX11_meets_3 15 rfl) (byt chX11_meets_4 0 rfl) (byt chX11_meets_4 1 rfl) rfl
theorem dX11_meets_66 : decode cX11_meets 66 = .ok (.istore 4, 2) := oq_54 (byt chX11_meets_4 2 rfl) (byt chX11_meets_4 3 rfl) rfl
theorem dX11_meets_68 : decode cX11_meets 68 = .ok (.aload_n 0, 1) := oq_42 (byt chX11_meets_4 4 rfl)
theorem dX11_meets_69 : decode cX11_meets 69 = .ok (.bipush 68, 2) := oq_16 (byt chX11_meets_4 5 rfl) (byt chX11_meets_4 6 rfl) rfl
theorem dX11_meets_71 : decode cX11_meets 71 = .ok (.iload 5, 2) := oq_21 (byt chX11_meets_4 7 rfl) (byt chX11_meets_4 8 rfl) rfl
theorem dX11_meets_73 : decode cX11_meets 73 = .ok (.iadd, 1) := oq_96 (byt chX11_meets_4 9 rfl)
theorem dX11_meets_74 : decode cX11_meets 74 = .ok (.invokevirtual 277, 3) := oq_182 (byt chX11_meets_4 10 rfl) (byt chX11_meets_4 11 rfl) (byt chX11_meets_4 12 rfl) rfl
theorem dX11_meets_77 : decode cX11_meets 77 = .ok (.istore 5, 2) := oq_54 (byt chX11_meets_4 13 rfl) (byt chX11_meets_4 14 rfl) rfl
theorem dX11_meets_79 : decode cX11_meets 79 = .ok (.iinc 6 1, 3) := oq_132 (byt chX11_meets_4 15 rfl) (byt chX11_meets_5 0 rfl) (byt chX11_meets_5 1 rfl) rfl
theorem dX11_meets_82 : decode cX11_meets 82 = .ok (.goto (-42), 3) := oq_167 (byt chX11_meets_5 2 rfl) (byt chX11_meets_5 3 rfl) (byt chX11_meets_5 4 rfl) (by decide +kernel)
theorem dX11_meets_85 : decode cX11_meets 85 = .ok (.iconst (-1), 1) := oq_2 (byt chX11_meets_5 5 rfl)
theorem dX11_meets_86 : decode cX11_meets 86 = .ok (.ireturn, 1) := oq_172 (byt chX11_meets_5 6 rfl)
abbrev mX11_meets : MI := (yX11_meets, cX11_meets, 7, (some .int), noE)
theorem okX11_meets : cok mX11_meets 3 := ⟨tw1702, tw11, by decide, by decide, by decide, by decide +kernel⟩
def fX11_meets (M : Mem) (a0 a1 a2 a3 : Int) : Option (Int × Mem) :=
  if M.2.1 a0 = 10 then bM (mst M a0 0 0) fun M2 => (fX11_hand M2 a0 a1).bind fun r4 => if r4.1 = 0 then (some ((-1), r4.2)) else (if r4.2.2.1 a0 = 10 then (fX11_isHouse r4.2 a0 a2).bind fun r7 => if r7 = 0 then (some ((-1), r4.2)) else ((fX11_isHouse r4.2 a0 a3).bind fun r11 => if r11 = 0 then (some ((-1), r4.2)) else (iterC (fun (rec14 : (Int × Int × Int) → Option (Int × Mem)) (s15 : Int × Int × Int) => if 40 < s15.2.2 then (some ((-1), r4.2)) else (if s15.1 = s15.2.1 then (some (s15.2.2, r4.2)) else ((fX11_of r4.2 a0 (w32 (68 + s15.1))).bind fun r18 => (fX11_of r4.2 a0 (w32 (68 + s15.2.1))).bind fun r20 => rec14 (r18, r20, w32 (s15.2.2 + 1))))) BIG (a2, a3, 0))) else none) else none
set_option maxRecDepth 100000 in
set_option maxHeartbeats 4000000 in
theorem kX11_meets (d : Nat) (hd : 3 ≤ d) (M : Mem) (a0 a1 a2 a3 : Int) : Ct mX11_meets d 0 0 [pA a0, pI a1, pI a2, pI a3] M dIM (fX11_meets M a0 a1 a2 a3) := by
  obtain ⟨d, rfl⟩ : ∃ k, d = k + 1 := ⟨d - 1, by omega⟩
  refine Ct.of 3 (fun _ _ _ => trivial) (by decide +kernel) rfl ?_
  unfold fX11_meets
  refine v_aload_n dX11_meets_0 rfl ?_
  refine v_iconst dX11_meets_1 (by decide) ?_
  refine v_if (fun h1 => ?_)
  refine v_put (x := 0) 10 0 rfl inX11 (by decide) tw1193 (Or.inl rfl) rfl dX11_meets_2 h1 rfl id ?_
  refine v_bM (fun M2 e3 => ?_)
  refine v_aload_n dX11_meets_5 rfl ?_
  refine v_iload_n dX11_meets_6 rfl ?_
  refine v_cV (mi := mX11_meets) (c0 := 0) (c1 := 0) (As := [pI a1]) (st := []) (kX11_hand d (by omega) _ _ _) rfl (by rw [e3]; exact h1) rfl okX11_hand (Or.inl tw1500) tw1502 tp54 rfl (Nat.le_of_ble_eq_true rfl) dX11_meets_7 (fun r4 => [pI r4.1]) (fun r4 => r4.2) (fun _ => rfl) (fun _ => rfl) (fun r4 h5 => ?_) rfl
  refine v_if_eq (tgt := 29) dX11_meets_10 (by decide) (fun c6 => ?_) (fun c6 => ?_)
  · refine v_iconst dX11_meets_29 (by decide) ?_
    exact v_ireturn dX11_meets_30 rfl rfl
  · refine v_aload_n dX11_meets_13 rfl ?_
    refine v_iload_n dX11_meets_14 rfl ?_
    refine v_if (fun h9 => ?_)
    refine v_cV (mi := mX11_meets) (c0 := 0) (c1 := 0) (As := [pI a2]) (st := []) (kX11_isHouse d (by omega) _ _ _) rfl h9 rfl okX11_isHouse (Or.inl tw1508) tw1510 tp56 rfl (Nat.le_of_ble_eq_true rfl) dX11_meets_15 (fun r7 => [pI r7]) (fun r7 => r4.2) (fun _ => rfl) (fun _ => rfl) (fun r7 h8 => ?_) rfl
    refine v_if_eq (tgt := 29) dX11_meets_18 (by decide) (fun c10 => ?_) (fun c10 => ?_)
    · refine v_iconst dX11_meets_29 (by decide) ?_
      exact v_ireturn dX11_meets_30 rfl rfl
    · refine v_aload_n dX11_meets_21 rfl ?_
      refine v_iload_n dX11_meets_22 rfl ?_
      refine v_cV (mi := mX11_meets) (c0 := 0) (c1 := 0) (As := [pI a3]) (st := []) (kX11_isHouse d (by omega) _ _ _) rfl h9 rfl okX11_isHouse (Or.inl tw1508) tw1510 tp56 rfl (Nat.le_of_ble_eq_true rfl) dX11_meets_23 (fun r11 => [pI r11]) (fun r11 => r4.2) (fun _ => rfl) (fun _ => rfl) (fun r11 h12 => ?_) rfl
      refine v_if_ne (tgt := 31) dX11_meets_26 (by decide) (fun c13 => ?_) (fun c13 => ?_)
      · refine v_iconst dX11_meets_29 (by decide) ?_
        exact v_ireturn dX11_meets_30 rfl rfl
      · refine v_iload_n dX11_meets_31 rfl ?_
        refine v_istore (ls' := [some (pA a0), some (pI a1), some (pI a2), some (pI a3), some (pI a2), none, none]) dX11_meets_32 (by decide) rfl ?_
        refine v_iload_n dX11_meets_34 rfl ?_
        refine v_istore (ls' := [some (pA a0), some (pI a1), some (pI a2), some (pI a3), some (pI a2), some (pI a3), none]) dX11_meets_35 (by decide) rfl ?_
        refine v_iconst dX11_meets_37 (by decide) ?_
        refine v_istore (ls' := [some (pA a0), some (pI a1), some (pI a2), some (pI a3), some (pI a2), some (pI a3), some (pI 0)]) dX11_meets_38 (by decide) rfl ?_
        refine v_drop [some (pA a0), none, none, none, some (pI a2), some (pI a3), some (pI 0)] (ls_s (ls_n (ls_n (ls_n (ls_s (ls_s (ls_s ls_e))))))) ?_
        refine v_loop (fun (s15 : Int × Int × Int) => [some (pA a0), none, none, none, some (pI s15.1), some (pI s15.2.1), some (pI s15.2.2)]) (fun (s15 : Int × Int × Int) => r4.2) (s0 := (a2, a3, 0)) ?_
        intro rec14 hrec14 s15
        refine v_iload dX11_meets_40 rfl ?_
        refine v_bipush dX11_meets_42 (by decide) ?_
        refine v_icmp_gt (tgt := 85) dX11_meets_44 (by decide) (fun c16 => ?_) (fun c16 => ?_)
        · refine v_iconst dX11_meets_85 (by decide) ?_
          exact v_ireturn dX11_meets_86 rfl rfl
        · refine v_iload dX11_meets_47 rfl ?_
          refine v_iload dX11_meets_49 rfl ?_
          refine v_icmp_ne (tgt := 57) dX11_meets_51 (by decide) (fun c17 => ?_) (fun c17 => ?_)
          · refine v_iload dX11_meets_54 rfl ?_
            exact v_ireturn dX11_meets_56 rfl rfl
          · refine v_aload_n dX11_meets_57 rfl ?_
            refine v_bipush dX11_meets_58 (by decide) ?_
            refine v_iload dX11_meets_60 rfl ?_
            refine v_iadd dX11_meets_62 ?_
            refine v_cV (mi := mX11_meets) (c0 := 0) (c1 := 0) (As := [pI (w32 (68 + s15.1))]) (st := []) (kX11_of d (by omega) _ _ _) rfl h9 rfl okX11_of (Or.inl tw1504) tw1506 tp55 rfl (Nat.le_of_ble_eq_true rfl) dX11_meets_63 (fun r18 => [pI r18]) (fun r18 => r4.2) (fun _ => rfl) (fun _ => rfl) (fun r18 h19 => ?_) rfl
            refine v_istore (ls' := [some (pA a0), none, none, none, some (pI r18), some (pI s15.2.1), some (pI s15.2.2)]) dX11_meets_66 (by decide) rfl ?_
            refine v_aload_n dX11_meets_68 rfl ?_
            refine v_bipush dX11_meets_69 (by decide) ?_
            refine v_iload dX11_meets_71 rfl ?_
            refine v_iadd dX11_meets_73 ?_
            refine v_cV (mi := mX11_meets) (c0 := 0) (c1 := 0) (As := [pI (w32 (68 + s15.2.1))]) (st := []) (kX11_of d (by omega) _ _ _) rfl h9 rfl okX11_of (Or.inl tw1504) tw1506 tp55 rfl (Nat.le_of_ble_eq_true rfl) dX11_meets_74 (fun r20 => [pI r20]) (fun r20 => r4.2) (fun _ => rfl) (fun _ => rfl) (fun r20 h21 => ?_) rfl
            refine v_istore (ls' := [some (pA a0), none, none, none, some (pI r18), some (pI r20), some (pI s15.2.2)]) dX11_meets_77 (by decide) rfl ?_
            refine v_iinc (ls' := [some (pA a0), none, none, none, some (pI r18), some (pI r20), some (pI (w32 (s15.2.2 + 1)))]) dX11_meets_79 (by decide) rfl rfl ?_
            refine v_goto (tgt := 40) dX11_meets_82 (by decide) ?_
            exact hrec14 (r18, r20, w32 (s15.2.2 + 1))
theorem chX11_gifts_0 : (cX11_gifts.data.toList.drop 0).take 16 = [42, 180, 0, 35, 16, 47, 42, 180, 1, 176, 104, 46, 172] := by decide +kernel
theorem dX11_gifts_0 : decode cX11_gifts 0 = .ok (.aload_n 0, 1) := oq_42 (byt chX11_gifts_0 0 rfl)
theorem dX11_gifts_1 : decode cX11_gifts 1 = .ok (.getfield 35, 3) := oq_180 (byt chX11_gifts_0 1 rfl) (byt chX11_gifts_0 2 rfl) (byt chX11_gifts_0 3 rfl) rfl
theorem dX11_gifts_4 : decode cX11_gifts 4 = .ok (.bipush 47, 2) := oq_16 (byt chX11_gifts_0 4 rfl) (byt chX11_gifts_0 5 rfl) rfl
theorem dX11_gifts_6 : decode cX11_gifts 6 = .ok (.aload_n 0, 1) := oq_42 (byt chX11_gifts_0 6 rfl)
theorem dX11_gifts_7 : decode cX11_gifts 7 = .ok (.getfield 432, 3) := oq_180 (byt chX11_gifts_0 7 rfl) (byt chX11_gifts_0 8 rfl) (byt chX11_gifts_0 9 rfl) rfl
theorem dX11_gifts_10 : decode cX11_gifts 10 = .ok (.imul, 1) := oq_104 (byt chX11_gifts_0 10 rfl)
theorem dX11_gifts_11 : decode cX11_gifts 11 = .ok (.iaload, 1) := oq_46 (byt chX11_gifts_0 11 rfl)
theorem dX11_gifts_12 : decode cX11_gifts 12 = .ok (.ireturn, 1) := oq_172 (byt chX11_gifts_0 12 rfl)
abbrev mX11_gifts : MI := (yX11_gifts, cX11_gifts, 1, (some .int), noE)
theorem okX11_gifts : cok mX11_gifts 0 := ⟨tw1714, tw11, by decide, by decide, by decide, by decide +kernel⟩
def fX11_gifts (M : Mem) (a0 : Int) : Option Int :=
  if M.2.1 a0 = 10 then if M.2.1 (M.1 a0 9) = 12 ∧ (0 : Int) ≤ (w32 (47 * (M.1 a0 48))) ∧ (w32 (47 * (M.1 a0 48))) < M.2.2.1 (M.1 a0 9) then some (M.1 (M.1 a0 9) (w32 (47 * (M.1 a0 48)))) else none else none
set_option maxRecDepth 100000 in
set_option maxHeartbeats 4000000 in
theorem kX11_gifts (d : Nat) (hd : 0 ≤ d) (M : Mem) (a0 : Int) : Ct mX11_gifts d 0 0 [pA a0] M (dI M) (fX11_gifts M a0) := by
  refine Ct.of 0 (fun _ _ _ => trivial) (by decide +kernel) rfl ?_
  unfold fX11_gifts
  refine v_aload_n dX11_gifts_0 rfl ?_
  refine v_if (fun h1 => ?_)
  refine v_get (v := pA (M.1 a0 9)) 10 9 rfl inX11 (by decide) tw1202 dX11_gifts_1 h1 rfl ?_
  refine v_bipush dX11_gifts_4 (by decide) ?_
  refine v_aload_n dX11_gifts_6 rfl ?_
  refine v_get (v := pI (M.1 a0 48)) 10 48 rfl inX11 (by decide) tw1241 dX11_gifts_7 h1 rfl ?_
  refine v_imul dX11_gifts_10 ?_
  refine v_if (fun h2 => ?_)
  refine v_iaload h2 dX11_gifts_11 ?_
  exact v_ireturn dX11_gifts_12 rfl rfl
theorem chX11_giftOf_0 : (cX11_giftOf.data.toList.drop 0).take 16 = [42, 180, 0, 35, 16, 47, 42, 180, 1, 176, 104, 4, 96, 5, 27, 104] := by decide +kernel
theorem chX11_giftOf_1 : (cX11_giftOf.data.toList.drop 16).take 16 = [96, 28, 96, 46, 172] := by decide +kernel
theorem dX11_giftOf_0 : decode cX11_giftOf 0 = .ok (.aload_n 0, 1) := oq_42 (byt chX11_giftOf_0 0 rfl)
theorem dX11_giftOf_1 : decode cX11_giftOf 1 = .ok (.getfield 35, 3) := oq_180 (byt chX11_giftOf_0 1 rfl) (byt chX11_giftOf_0 2 rfl) (byt chX11_giftOf_0 3 rfl) rfl
theorem dX11_giftOf_4 : decode cX11_giftOf 4 = .ok (.bipush 47, 2) := oq_16 (byt chX11_giftOf_0 4 rfl) (byt chX11_giftOf_0 5 rfl) rfl
theorem dX11_giftOf_6 : decode cX11_giftOf 6 = .ok (.aload_n 0, 1) := oq_42 (byt chX11_giftOf_0 6 rfl)
theorem dX11_giftOf_7 : decode cX11_giftOf 7 = .ok (.getfield 432, 3) := oq_180 (byt chX11_giftOf_0 7 rfl) (byt chX11_giftOf_0 8 rfl) (byt chX11_giftOf_0 9 rfl) rfl
theorem dX11_giftOf_10 : decode cX11_giftOf 10 = .ok (.imul, 1) := oq_104 (byt chX11_giftOf_0 10 rfl)
theorem dX11_giftOf_11 : decode cX11_giftOf 11 = .ok (.iconst 1, 1) := oq_4 (byt chX11_giftOf_0 11 rfl)
theorem dX11_giftOf_12 : decode cX11_giftOf 12 = .ok (.iadd, 1) := oq_96 (byt chX11_giftOf_0 12 rfl)
theorem dX11_giftOf_13 : decode cX11_giftOf 13 = .ok (.iconst 2, 1) := oq_5 (byt chX11_giftOf_0 13 rfl)
theorem dX11_giftOf_14 : decode cX11_giftOf 14 = .ok (.iload_n 1, 1) := oq_27 (byt chX11_giftOf_0 14 rfl)
theorem dX11_giftOf_15 : decode cX11_giftOf 15 = .ok (.imul, 1) := oq_104 (byt chX11_giftOf_0 15 rfl)
theorem dX11_giftOf_16 : decode cX11_giftOf 16 = .ok (.iadd, 1) := oq_96 (byt chX11_giftOf_1 0 rfl)
theorem dX11_giftOf_17 : decode cX11_giftOf 17 = .ok (.iload_n 2, 1) := oq_28 (byt chX11_giftOf_1 1 rfl)
theorem dX11_giftOf_18 : decode cX11_giftOf 18 = .ok (.iadd, 1) := oq_96 (byt chX11_giftOf_1 2 rfl)
theorem dX11_giftOf_19 : decode cX11_giftOf 19 = .ok (.iaload, 1) := oq_46 (byt chX11_giftOf_1 3 rfl)
theorem dX11_giftOf_20 : decode cX11_giftOf 20 = .ok (.ireturn, 1) := oq_172 (byt chX11_giftOf_1 4 rfl)
abbrev mX11_giftOf : MI := (yX11_giftOf, cX11_giftOf, 3, (some .int), noE)
theorem okX11_giftOf : cok mX11_giftOf 2 := ⟨tw1718, tw11, by decide, by decide, by decide, by decide +kernel⟩
def fX11_giftOf (M : Mem) (a0 a1 a2 : Int) : Option Int :=
  if M.2.1 a0 = 10 then if M.2.1 (M.1 a0 9) = 12 ∧ (0 : Int) ≤ (w32 ((w32 ((w32 ((w32 (47 * (M.1 a0 48))) + 1)) + (w32 (2 * a1)))) + a2)) ∧ (w32 ((w32 ((w32 ((w32 (47 * (M.1 a0 48))) + 1)) + (w32 (2 * a1)))) + a2)) < M.2.2.1 (M.1 a0 9) then some (M.1 (M.1 a0 9) (w32 ((w32 ((w32 ((w32 (47 * (M.1 a0 48))) + 1)) + (w32 (2 * a1)))) + a2))) else none else none
set_option maxRecDepth 100000 in
set_option maxHeartbeats 4000000 in
theorem kX11_giftOf (d : Nat) (hd : 0 ≤ d) (M : Mem) (a0 a1 a2 : Int) : Ct mX11_giftOf d 0 0 [pA a0, pI a1, pI a2] M (dI M) (fX11_giftOf M a0 a1 a2) := by
  refine Ct.of 0 (fun _ _ _ => trivial) (by decide +kernel) rfl ?_
  unfold fX11_giftOf
  refine v_aload_n dX11_giftOf_0 rfl ?_
  refine v_if (fun h1 => ?_)
  refine v_get (v := pA (M.1 a0 9)) 10 9 rfl inX11 (by decide) tw1202 dX11_giftOf_1 h1 rfl ?_
  refine v_bipush dX11_giftOf_4 (by decide) ?_
  refine v_aload_n dX11_giftOf_6 rfl ?_
  refine v_get (v := pI (M.1 a0 48)) 10 48 rfl inX11 (by decide) tw1241 dX11_giftOf_7 h1 rfl ?_
  refine v_imul dX11_giftOf_10 ?_
  refine v_iconst dX11_giftOf_11 (by decide) ?_
  refine v_iadd dX11_giftOf_12 ?_
  refine v_iconst dX11_giftOf_13 (by decide) ?_
  refine v_iload_n dX11_giftOf_14 rfl ?_
  refine v_imul dX11_giftOf_15 ?_
  refine v_iadd dX11_giftOf_16 ?_
  refine v_iload_n dX11_giftOf_17 rfl ?_
  refine v_iadd dX11_giftOf_18 ?_
  refine v_if (fun h2 => ?_)
  refine v_iaload h2 dX11_giftOf_19 ?_
  exact v_ireturn dX11_giftOf_20 rfl rfl
theorem chX11_left_0 : (cX11_left.data.toList.drop 0).take 16 = [42, 180, 0, 35, 16, 47, 42, 180, 1, 176, 104, 16, 17, 96, 8, 27] := by decide +kernel
theorem chX11_left_1 : (cX11_left.data.toList.drop 16).take 16 = [104, 96, 28, 96, 46, 172] := by decide +kernel
theorem dX11_left_0 : decode cX11_left 0 = .ok (.aload_n 0, 1) := oq_42 (byt chX11_left_0 0 rfl)
theorem dX11_left_1 : decode cX11_left 1 = .ok (.getfield 35, 3) := oq_180 (byt chX11_left_0 1 rfl) (byt chX11_left_0 2 rfl) (byt chX11_left_0 3 rfl) rfl
theorem dX11_left_4 : decode cX11_left 4 = .ok (.bipush 47, 2) := oq_16 (byt chX11_left_0 4 rfl) (byt chX11_left_0 5 rfl) rfl
theorem dX11_left_6 : decode cX11_left 6 = .ok (.aload_n 0, 1) := oq_42 (byt chX11_left_0 6 rfl)
theorem dX11_left_7 : decode cX11_left 7 = .ok (.getfield 432, 3) := oq_180 (byt chX11_left_0 7 rfl) (byt chX11_left_0 8 rfl) (byt chX11_left_0 9 rfl) rfl
theorem dX11_left_10 : decode cX11_left 10 = .ok (.imul, 1) := oq_104 (byt chX11_left_0 10 rfl)
theorem dX11_left_11 : decode cX11_left 11 = .ok (.bipush 17, 2) := oq_16 (byt chX11_left_0 11 rfl) (byt chX11_left_0 12 rfl) rfl
theorem dX11_left_13 : decode cX11_left 13 = .ok (.iadd, 1) := oq_96 (byt chX11_left_0 13 rfl)
theorem dX11_left_14 : decode cX11_left 14 = .ok (.iconst 5, 1) := oq_8 (byt chX11_left_0 14 rfl)
theorem dX11_left_15 : decode cX11_left 15 = .ok (.iload_n 1, 1) := oq_27 (byt chX11_left_0 15 rfl)
theorem dX11_left_16 : decode cX11_left 16 = .ok (.imul, 1) := oq_104 (byt chX11_left_1 0 rfl)
theorem dX11_left_17 : decode cX11_left 17 = .ok (.iadd, 1) := oq_96 (byt chX11_left_1 1 rfl)
theorem dX11_left_18 : decode cX11_left 18 = .ok (.iload_n 2, 1) := oq_28 (byt chX11_left_1 2 rfl)
theorem dX11_left_19 : decode cX11_left 19 = .ok (.iadd, 1) := oq_96 (byt chX11_left_1 3 rfl)
theorem dX11_left_20 : decode cX11_left 20 = .ok (.iaload, 1) := oq_46 (byt chX11_left_1 4 rfl)
theorem dX11_left_21 : decode cX11_left 21 = .ok (.ireturn, 1) := oq_172 (byt chX11_left_1 5 rfl)
abbrev mX11_left : MI := (yX11_left, cX11_left, 3, (some .int), noE)
theorem okX11_left : cok mX11_left 2 := ⟨tw1722, tw11, by decide, by decide, by decide, by decide +kernel⟩
def fX11_left (M : Mem) (a0 a1 a2 : Int) : Option Int :=
  if M.2.1 a0 = 10 then if M.2.1 (M.1 a0 9) = 12 ∧ (0 : Int) ≤ (w32 ((w32 ((w32 ((w32 (47 * (M.1 a0 48))) + 17)) + (w32 (5 * a1)))) + a2)) ∧ (w32 ((w32 ((w32 ((w32 (47 * (M.1 a0 48))) + 17)) + (w32 (5 * a1)))) + a2)) < M.2.2.1 (M.1 a0 9) then some (M.1 (M.1 a0 9) (w32 ((w32 ((w32 ((w32 (47 * (M.1 a0 48))) + 17)) + (w32 (5 * a1)))) + a2))) else none else none
set_option maxRecDepth 100000 in
set_option maxHeartbeats 4000000 in
theorem kX11_left (d : Nat) (hd : 0 ≤ d) (M : Mem) (a0 a1 a2 : Int) : Ct mX11_left d 0 0 [pA a0, pI a1, pI a2] M (dI M) (fX11_left M a0 a1 a2) := by
  refine Ct.of 0 (fun _ _ _ => trivial) (by decide +kernel) rfl ?_
  unfold fX11_left
  refine v_aload_n dX11_left_0 rfl ?_
  refine v_if (fun h1 => ?_)
  refine v_get (v := pA (M.1 a0 9)) 10 9 rfl inX11 (by decide) tw1202 dX11_left_1 h1 rfl ?_
  refine v_bipush dX11_left_4 (by decide) ?_
  refine v_aload_n dX11_left_6 rfl ?_
  refine v_get (v := pI (M.1 a0 48)) 10 48 rfl inX11 (by decide) tw1241 dX11_left_7 h1 rfl ?_
  refine v_imul dX11_left_10 ?_
  refine v_bipush dX11_left_11 (by decide) ?_
  refine v_iadd dX11_left_13 ?_
  refine v_iconst dX11_left_14 (by decide) ?_
  refine v_iload_n dX11_left_15 rfl ?_
  refine v_imul dX11_left_16 ?_
  refine v_iadd dX11_left_17 ?_
  refine v_iload_n dX11_left_18 rfl ?_
  refine v_iadd dX11_left_19 ?_
  refine v_if (fun h2 => ?_)
  refine v_iaload h2 dX11_left_20 ?_
  exact v_ireturn dX11_left_21 rfl rfl
