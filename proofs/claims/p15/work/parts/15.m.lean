theorem chX5_carryAll_0 : (cX5_carryAll.data.toList.drop 0).take 16 = [43, 184, 0, 57, 154, 0, 5, 2, 172, 3, 61, 3, 62, 29, 8, 162] := by decide +kernel
theorem chX5_carryAll_1 : (cX5_carryAll.data.toList.drop 16).take 16 = [0, 25, 28, 43, 180, 0, 61, 29, 46, 42, 43, 29, 182, 0, 64, 104] := by decide +kernel
theorem chX5_carryAll_2 : (cX5_carryAll.data.toList.drop 32).take 16 = [96, 61, 132, 3, 1, 167, 255, 232, 28, 172] := by decide +kernel
theorem dX5_carryAll_0 : decode cX5_carryAll 0 = .ok (.aload_n 1, 1) := oq_43 (byt chX5_carryAll_0 0 rfl)
theorem dX5_carryAll_1 : decode cX5_carryAll 1 = .ok (.invokestatic 57, 3) := oq_184 (byt chX5_carryAll_0 1 rfl) (byt chX5_carryAll_0 2 rfl) (byt chX5_carryAll_0 3 rfl) rfl
theorem dX5_carryAll_4 : decode cX5_carryAll 4 = .ok (.ifCond .ne 5, 3) := oq_154 (byt chX5_carryAll_0 4 rfl) (byt chX5_carryAll_0 5 rfl) (byt chX5_carryAll_0 6 rfl) (by decide +kernel)
theorem dX5_carryAll_7 : decode cX5_carryAll 7 = .ok (.iconst (-1), 1) := oq_2 (byt chX5_carryAll_0 7 rfl)
theorem dX5_carryAll_8 : decode cX5_carryAll 8 = .ok (.ireturn, 1) := oq_172 (byt chX5_carryAll_0 8 rfl)
theorem dX5_carryAll_9 : decode cX5_carryAll 9 = .ok (.iconst 0, 1) := oq_3 (byt chX5_carryAll_0 9 rfl)
theorem dX5_carryAll_10 : decode cX5_carryAll 10 = .ok (.istore_n 2, 1) := oq_61 (byt chX5_carryAll_0 10 rfl)
theorem dX5_carryAll_11 : decode cX5_carryAll 11 = .ok (.iconst 0, 1) := oq_3 (byt chX5_carryAll_0 11 rfl)
theorem dX5_carryAll_12 : decode cX5_carryAll 12 = .ok (.istore_n 3, 1) := oq_62 (byt chX5_carryAll_0 12 rfl)
theorem dX5_carryAll_13 : decode cX5_carryAll 13 = .ok (.iload_n 3, 1) := oq_29 (byt chX5_carryAll_0 13 rfl)
theorem dX5_carryAll_14 : decode cX5_carryAll 14 = .ok (.iconst 5, 1) := oq_8 (byt chX5_carryAll_0 14 rfl)
theorem dX5_carryAll_15 : decode cX5_carryAll 15 = .ok (.if_icmp .ge 25, 3) := oq_162 (byt chX5_carryAll_0 15 rfl) (byt chX5_carryAll_1 0 rfl) (byt chX5_carryAll_1 1 rfl) (by decide +kernel)
theorem dX5_carryAll_18 : decode cX5_carryAll 18 = .ok (.iload_n 2, 1) := oq_28 (byt chX5_carryAll_1 2 rfl)
theorem dX5_carryAll_19 : decode cX5_carryAll 19 = .ok (.aload_n 1, 1) := oq_43 (byt chX5_carryAll_1 3 rfl)
theorem dX5_carryAll_20 : decode cX5_carryAll 20 = .ok (.getfield 61, 3) := oq_180 (byt chX5_carryAll_1 4 rfl) (byt chX5_carryAll_1 5 rfl) (byt chX5_carryAll_1 6 rfl) rfl
theorem dX5_carryAll_23 : decode cX5_carryAll 23 = .ok (.iload_n 3, 1) := oq_29 (byt chX5_carryAll_1 7 rfl)
theorem dX5_carryAll_24 : decode cX5_carryAll 24 = .ok (.iaload, 1) := oq_46 (byt chX5_carryAll_1 8 rfl)
theorem dX5_carryAll_25 : decode cX5_carryAll 25 = .ok (.aload_n 0, 1) := oq_42 (byt chX5_carryAll_1 9 rfl)
theorem dX5_carryAll_26 : decode cX5_carryAll 26 = .ok (.aload_n 1, 1) := oq_43 (byt chX5_carryAll_1 10 rfl)
theorem dX5_carryAll_27 : decode cX5_carryAll 27 = .ok (.iload_n 3, 1) := oq_29 (byt chX5_carryAll_1 11 rfl)
theorem dX5_carryAll_28 : decode cX5_carryAll 28 = .ok (.invokevirtual 64, 3) := oq_182 (byt chX5_carryAll_1 12 rfl) (byt chX5_carryAll_1 13 rfl) (byt chX5_carryAll_1 14 rfl) rfl
theorem dX5_carryAll_31 : decode cX5_carryAll 31 = .ok (.imul, 1) := oq_104 (byt chX5_carryAll_1 15 rfl)
theorem dX5_carryAll_32 : decode cX5_carryAll 32 = .ok (.iadd, 1) := oq_96 (byt chX5_carryAll_2 0 rfl)
theorem dX5_carryAll_33 : decode cX5_carryAll 33 = .ok (.istore_n 2, 1) := oq_61 (byt chX5_carryAll_2 1 rfl)
theorem dX5_carryAll_34 : decode cX5_carryAll 34 = .ok (.iinc 3 1, 3) := oq_132 (byt chX5_carryAll_2 2 rfl) (byt chX5_carryAll_2 3 rfl) (byt chX5_carryAll_2 4 rfl) rfl
theorem dX5_carryAll_37 : decode cX5_carryAll 37 = .ok (.goto (-24), 3) := oq_167 (byt chX5_carryAll_2 5 rfl) (byt chX5_carryAll_2 6 rfl) (byt chX5_carryAll_2 7 rfl) (by decide +kernel)
theorem dX5_carryAll_40 : decode cX5_carryAll 40 = .ok (.iload_n 2, 1) := oq_28 (byt chX5_carryAll_2 8 rfl)
theorem dX5_carryAll_41 : decode cX5_carryAll 41 = .ok (.ireturn, 1) := oq_172 (byt chX5_carryAll_2 9 rfl)
abbrev mX5_carryAll : MI := (yX5_carryAll, cX5_carryAll, 4, (some .int), noE)
theorem okX5_carryAll : cok mX5_carryAll 1 := ⟨tw893, tw9, by decide, by decide, by decide, by decide +kernel⟩
def fX5_carryAll (M : Mem) (a0 a1 : Int) : Option (Int × Mem) :=
  (fX5_isEnough M a1).bind fun r1 => if r1 = 0 then (some ((-1), M)) else (iterC (fun (rec4 : (Int × Int × Mem) → Option (Int × Mem)) (s5 : Int × Int × Mem) => if s5.2.1 < 5 then (if s5.2.2.2.1 a1 = 7 then if s5.2.2.2.1 (s5.2.2.1 a1 6) = 12 ∧ (0 : Int) ≤ s5.2.1 ∧ s5.2.1 < s5.2.2.2.2.1 (s5.2.2.1 a1 6) then if s5.2.2.2.1 a0 = 5 then (fX5_carryGood s5.2.2 a0 a1 s5.2.1).bind fun r9 => rec4 (w32 (s5.1 + (w32 ((s5.2.2.1 (s5.2.2.1 a1 6) s5.2.1) * r9.1))), w32 (s5.2.1 + 1), r9.2) else none else none else none) else (some (s5.1, s5.2.2))) BIG (0, 0, M))
set_option maxRecDepth 100000 in
set_option maxHeartbeats 4000000 in
theorem kX5_carryAll (d : Nat) (hd : 4 ≤ d) (M : Mem) (a0 a1 : Int) : Ct mX5_carryAll d 0 0 [pA a0, pA a1] M dIM (fX5_carryAll M a0 a1) := by
  obtain ⟨d, rfl⟩ : ∃ k, d = k + 1 := ⟨d - 1, by omega⟩
  refine Ct.of 2 (fun _ _ _ => trivial) (by decide +kernel) rfl ?_
  unfold fX5_carryAll
  refine v_aload_n dX5_carryAll_0 rfl ?_
  refine v_cS (mi := mX5_carryAll) (c0 := 0) (c1 := 0) (As := [pA a1]) (st := []) (kX5_isEnough d (by omega) _ _) okX5_isEnough (Or.inl tw894) tw858 rfl (Nat.le_of_ble_eq_true rfl) dX5_carryAll_1 (fun r1 => [pI r1]) (fun r1 => M) (fun _ => rfl) (fun _ => rfl) (fun r1 h2 => ?_) rfl
  refine v_if_ne (tgt := 9) dX5_carryAll_4 (by decide) (fun c3 => ?_) (fun c3 => ?_)
  · refine v_iconst dX5_carryAll_7 (by decide) ?_
    exact v_ireturn dX5_carryAll_8 rfl rfl
  · refine v_iconst dX5_carryAll_9 (by decide) ?_
    refine v_istore_n (ls' := [some (pA a0), some (pA a1), some (pI 0), none]) dX5_carryAll_10 (by decide) rfl ?_
    refine v_iconst dX5_carryAll_11 (by decide) ?_
    refine v_istore_n (ls' := [some (pA a0), some (pA a1), some (pI 0), some (pI 0)]) dX5_carryAll_12 (by decide) rfl ?_
    refine v_loop (fun (s5 : Int × Int × Mem) => [some (pA a0), some (pA a1), some (pI s5.1), some (pI s5.2.1)]) (fun (s5 : Int × Int × Mem) => s5.2.2) (s0 := (0, 0, M)) ?_
    intro rec4 hrec4 s5
    refine v_iload_n dX5_carryAll_13 rfl ?_
    refine v_iconst dX5_carryAll_14 (by decide) ?_
    refine v_icmp_ge (tgt := 40) dX5_carryAll_15 (by decide) (fun c6 => ?_) (fun c6 => ?_)
    · refine v_iload_n dX5_carryAll_18 rfl ?_
      refine v_aload_n dX5_carryAll_19 rfl ?_
      refine v_if (fun h7 => ?_)
      refine v_get (v := pA (s5.2.2.1 a1 6)) 7 6 rfl inX7 (by decide) tw87 dX5_carryAll_20 h7 rfl ?_
      refine v_iload_n dX5_carryAll_23 rfl ?_
      refine v_if (fun h8 => ?_)
      refine v_iaload h8 dX5_carryAll_24 ?_
      refine v_aload_n dX5_carryAll_25 rfl ?_
      refine v_aload_n dX5_carryAll_26 rfl ?_
      refine v_iload_n dX5_carryAll_27 rfl ?_
      refine v_if (fun h11 => ?_)
      refine v_cV (mi := mX5_carryAll) (c0 := 0) (c1 := 0) (As := [pA a1, pI s5.2.1]) (st := [pI (s5.2.2.1 (s5.2.2.1 a1 6) s5.2.1), pI s5.1]) (kX5_carryGood d (by omega) _ _ _ _) rfl h11 rfl okX5_carryGood (Or.inl tw895) tw897 tp17 rfl (Nat.le_of_ble_eq_true rfl) dX5_carryAll_28 (fun r9 => [pI r9.1, pI (s5.2.2.1 (s5.2.2.1 a1 6) s5.2.1), pI s5.1]) (fun r9 => r9.2) (fun _ => rfl) (fun _ => rfl) (fun r9 h10 => ?_) rfl
      refine v_imul dX5_carryAll_31 ?_
      refine v_iadd dX5_carryAll_32 ?_
      refine v_istore_n (ls' := [some (pA a0), some (pA a1), some (pI (w32 (s5.1 + (w32 ((s5.2.2.1 (s5.2.2.1 a1 6) s5.2.1) * r9.1))))), some (pI s5.2.1)]) dX5_carryAll_33 (by decide) rfl ?_
      refine v_iinc (ls' := [some (pA a0), some (pA a1), some (pI (w32 (s5.1 + (w32 ((s5.2.2.1 (s5.2.2.1 a1 6) s5.2.1) * r9.1))))), some (pI (w32 (s5.2.1 + 1)))]) dX5_carryAll_34 (by decide) rfl rfl ?_
      refine v_goto (tgt := 13) dX5_carryAll_37 (by decide) ?_
      exact hrec4 (w32 (s5.1 + (w32 ((s5.2.2.1 (s5.2.2.1 a1 6) s5.2.1) * r9.1))), w32 (s5.2.1 + 1), r9.2)
    · refine v_iload_n dX5_carryAll_40 rfl ?_
      exact v_ireturn dX5_carryAll_41 rfl rfl
theorem chX2_init_0 : (cX2_init.data.toList.drop 0).take 16 = [42, 183, 0, 3, 42, 8, 188, 10, 181, 0, 9, 42, 3, 181, 0, 15] := by decide +kernel
theorem chX2_init_1 : (cX2_init.data.toList.drop 16).take 16 = [42, 8, 188, 10, 181, 0, 19, 42, 3, 181, 0, 22, 42, 43, 181, 0] := by decide +kernel
theorem chX2_init_2 : (cX2_init.data.toList.drop 32).take 16 = [25, 177] := by decide +kernel
theorem dX2_init_0 : decode cX2_init 0 = .ok (.aload_n 0, 1) := oq_42 (byt chX2_init_0 0 rfl)
theorem dX2_init_1 : decode cX2_init 1 = .ok (.invokespecial 3, 3) := oq_183 (byt chX2_init_0 1 rfl) (byt chX2_init_0 2 rfl) (byt chX2_init_0 3 rfl) rfl
theorem dX2_init_4 : decode cX2_init 4 = .ok (.aload_n 0, 1) := oq_42 (byt chX2_init_0 4 rfl)
theorem dX2_init_5 : decode cX2_init 5 = .ok (.iconst 5, 1) := oq_8 (byt chX2_init_0 5 rfl)
theorem dX2_init_6 : decode cX2_init 6 = .ok (.newarray .int, 2) := by decide +kernel
theorem dX2_init_8 : decode cX2_init 8 = .ok (.putfield 9, 3) := oq_181 (byt chX2_init_0 8 rfl) (byt chX2_init_0 9 rfl) (byt chX2_init_0 10 rfl) rfl
theorem dX2_init_11 : decode cX2_init 11 = .ok (.aload_n 0, 1) := oq_42 (byt chX2_init_0 11 rfl)
theorem dX2_init_12 : decode cX2_init 12 = .ok (.iconst 0, 1) := oq_3 (byt chX2_init_0 12 rfl)
theorem dX2_init_13 : decode cX2_init 13 = .ok (.putfield 15, 3) := oq_181 (byt chX2_init_0 13 rfl) (byt chX2_init_0 14 rfl) (byt chX2_init_0 15 rfl) rfl
theorem dX2_init_16 : decode cX2_init 16 = .ok (.aload_n 0, 1) := oq_42 (byt chX2_init_1 0 rfl)
theorem dX2_init_17 : decode cX2_init 17 = .ok (.iconst 5, 1) := oq_8 (byt chX2_init_1 1 rfl)
theorem dX2_init_18 : decode cX2_init 18 = .ok (.newarray .int, 2) := by decide +kernel
theorem dX2_init_20 : decode cX2_init 20 = .ok (.putfield 19, 3) := oq_181 (byt chX2_init_1 4 rfl) (byt chX2_init_1 5 rfl) (byt chX2_init_1 6 rfl) rfl
theorem dX2_init_23 : decode cX2_init 23 = .ok (.aload_n 0, 1) := oq_42 (byt chX2_init_1 7 rfl)
theorem dX2_init_24 : decode cX2_init 24 = .ok (.iconst 0, 1) := oq_3 (byt chX2_init_1 8 rfl)
theorem dX2_init_25 : decode cX2_init 25 = .ok (.putfield 22, 3) := oq_181 (byt chX2_init_1 9 rfl) (byt chX2_init_1 10 rfl) (byt chX2_init_1 11 rfl) rfl
theorem dX2_init_28 : decode cX2_init 28 = .ok (.aload_n 0, 1) := oq_42 (byt chX2_init_1 12 rfl)
theorem dX2_init_29 : decode cX2_init 29 = .ok (.aload_n 1, 1) := oq_43 (byt chX2_init_1 13 rfl)
theorem dX2_init_30 : decode cX2_init 30 = .ok (.putfield 25, 3) := oq_181 (byt chX2_init_1 14 rfl) (byt chX2_init_1 15 rfl) (byt chX2_init_2 0 rfl) rfl
theorem dX2_init_33 : decode cX2_init 33 = .ok (.return_, 1) := oq_177 (byt chX2_init_2 1 rfl)
abbrev mX2_init : MI := (yX2_init, cX2_init, 2, none, noE)
theorem okX2_init : cok mX2_init 1 := ⟨tw401, tw10, by decide, by decide, by decide, by decide +kernel⟩
def fX2_init (M : Mem) (a0 a1 : Int) : Option Mem :=
  if (0 : Int) ≤ a0 then bM (mnew M 12 5) fun M2 => if M2.2.1 a0 = 2 then if (-1 : Int) ≤ (M.2.2.2 : Int) then bM (mst M2 a0 0 (M.2.2.2 : Int)) fun M6 => bM (mst M6 a0 1 0) fun M8 => bM (mnew M8 12 5) fun M10 => if M10.2.1 a0 = 2 then if (-1 : Int) ≤ (M8.2.2.2 : Int) then bM (mst M10 a0 2 (M8.2.2.2 : Int)) fun M14 => bM (mst M14 a0 4 0) fun M16 => if (-1 : Int) ≤ a1 then bM (mst M16 a0 3 a1) fun M19 => some M19 else none else none else none else none else none else none
set_option maxRecDepth 100000 in
set_option maxHeartbeats 4000000 in
theorem kX2_init (d : Nat) (hd : 1 ≤ d) (M : Mem) (a0 a1 : Int) : Ct mX2_init d 2 10 [pA a0, pA a1] M dV (fX2_init M a0 a1) := by
  obtain ⟨d, rfl⟩ : ∃ k, d = k + 1 := ⟨d - 1, by omega⟩
  refine Ct.of 0 (fun _ _ _ => trivial) (by decide +kernel) rfl ?_
  unfold fX2_init
  refine v_aload_n dX2_init_0 rfl ?_
  refine v_if (fun h1 => ?_)
  refine v_objInit (mi := mX2_init) h1 tw402 tw26 tw27 (Nat.le_of_ble_eq_true rfl) dX2_init_1 ?_
  refine v_aload_n dX2_init_4 rfl ?_
  refine v_iconst dX2_init_5 (by decide) ?_
  refine v_newarray (t := .int) (n := 5) 12 (by decide) (by decide) tw121 dX2_init_6 ?_
  refine v_bM (fun M2 e3 => ?_)
  refine v_if (fun h4 => ?_)
  refine v_if (fun h5 => ?_)
  refine v_put (x := (M.2.2.2 : Int)) 2 0 rfl inX2 (by decide) tw403 (Or.inr ⟨rfl, rfl, rfl⟩) rfl dX2_init_8 h4 rfl (fun _ => h5) ?_
  refine v_bM (fun M6 e7 => ?_)
  refine v_aload_n dX2_init_11 rfl ?_
  refine v_iconst dX2_init_12 (by decide) ?_
  refine v_put (x := 0) 2 1 rfl inX2 (by decide) tw405 (Or.inl rfl) rfl dX2_init_13 (by rw [e7]; exact h4) rfl id ?_
  refine v_bM (fun M8 e9 => ?_)
  refine v_aload_n dX2_init_16 rfl ?_
  refine v_iconst dX2_init_17 (by decide) ?_
  refine v_newarray (t := .int) (n := 5) 12 (by decide) (by decide) tw121 dX2_init_18 ?_
  refine v_bM (fun M10 e11 => ?_)
  refine v_if (fun h12 => ?_)
  refine v_if (fun h13 => ?_)
  refine v_put (x := (M8.2.2.2 : Int)) 2 2 rfl inX2 (by decide) tw407 (Or.inr ⟨rfl, rfl, rfl⟩) rfl dX2_init_20 h12 rfl (fun _ => h13) ?_
  refine v_bM (fun M14 e15 => ?_)
  refine v_aload_n dX2_init_23 rfl ?_
  refine v_iconst dX2_init_24 (by decide) ?_
  refine v_put (x := 0) 2 4 rfl inX2 (by decide) tw409 (Or.inl rfl) rfl dX2_init_25 (by rw [e15]; exact h12) rfl id ?_
  refine v_bM (fun M16 e17 => ?_)
  refine v_aload_n dX2_init_28 rfl ?_
  refine v_aload_n dX2_init_29 rfl ?_
  refine v_if (fun h18 => ?_)
  refine v_put (x := a1) 2 3 rfl inX2 (by decide) tw408 (Or.inl rfl) rfl dX2_init_30 (by rw [e17, e15]; exact h12) rfl (fun _ => h18) ?_
  refine v_bM (fun M19 e20 => ?_)
  exact v_return dX2_init_33 rfl rfl
theorem chX2_keepBetter_0 : (cX2_keepBetter.data.toList.drop 0).take 16 = [27, 42, 180, 0, 15, 164, 0, 19, 42, 27, 181, 0, 15, 42, 180, 0] := by decide +kernel
theorem chX2_keepBetter_1 : (cX2_keepBetter.data.toList.drop 16).take 16 = [19, 42, 180, 0, 9, 184, 0, 61, 177] := by decide +kernel
theorem dX2_keepBetter_0 : decode cX2_keepBetter 0 = .ok (.iload_n 1, 1) := oq_27 (byt chX2_keepBetter_0 0 rfl)
theorem dX2_keepBetter_1 : decode cX2_keepBetter 1 = .ok (.aload_n 0, 1) := oq_42 (byt chX2_keepBetter_0 1 rfl)
theorem dX2_keepBetter_2 : decode cX2_keepBetter 2 = .ok (.getfield 15, 3) := oq_180 (byt chX2_keepBetter_0 2 rfl) (byt chX2_keepBetter_0 3 rfl) (byt chX2_keepBetter_0 4 rfl) rfl
theorem dX2_keepBetter_5 : decode cX2_keepBetter 5 = .ok (.if_icmp .le 19, 3) := oq_164 (byt chX2_keepBetter_0 5 rfl) (byt chX2_keepBetter_0 6 rfl) (byt chX2_keepBetter_0 7 rfl) (by decide +kernel)
theorem dX2_keepBetter_8 : decode cX2_keepBetter 8 = .ok (.aload_n 0, 1) := oq_42 (byt chX2_keepBetter_0 8 rfl)
theorem dX2_keepBetter_9 : decode cX2_keepBetter 9 = .ok (.iload_n 1, 1) := oq_27 (byt chX2_keepBetter_0 9 rfl)
theorem dX2_keepBetter_10 : decode cX2_keepBetter 10 = .ok (.putfield 15, 3) := oq_181 (byt chX2_keepBetter_0 10 rfl) (byt chX2_keepBetter_0 11 rfl) (byt chX2_keepBetter_0 12 rfl) rfl
theorem dX2_keepBetter_13 : decode cX2_keepBetter 13 = .ok (.aload_n 0, 1) := oq_42 (byt chX2_keepBetter_0 13 rfl)
theorem dX2_keepBetter_14 : decode cX2_keepBetter 14 = .ok (.getfield 19, 3) := oq_180 (byt chX2_keepBetter_0 14 rfl) (byt chX2_keepBetter_0 15 rfl) (byt chX2_keepBetter_1 0 rfl) rfl
theorem dX2_keepBetter_17 : decode cX2_keepBetter 17 = .ok (.aload_n 0, 1) := oq_42 (byt chX2_keepBetter_1 1 rfl)
theorem dX2_keepBetter_18 : decode cX2_keepBetter 18 = .ok (.getfield 9, 3) := oq_180 (byt chX2_keepBetter_1 2 rfl) (byt chX2_keepBetter_1 3 rfl) (byt chX2_keepBetter_1 4 rfl) rfl
theorem dX2_keepBetter_21 : decode cX2_keepBetter 21 = .ok (.invokestatic 61, 3) := oq_184 (byt chX2_keepBetter_1 5 rfl) (byt chX2_keepBetter_1 6 rfl) (byt chX2_keepBetter_1 7 rfl) rfl
theorem dX2_keepBetter_24 : decode cX2_keepBetter 24 = .ok (.return_, 1) := oq_177 (byt chX2_keepBetter_1 8 rfl)
abbrev mX2_keepBetter : MI := (yX2_keepBetter, cX2_keepBetter, 2, none, noE)
theorem okX2_keepBetter : cok mX2_keepBetter 1 := ⟨tw1134, tw10, by decide, by decide, by decide, by decide +kernel⟩
def fX2_keepBetter (M : Mem) (a0 a1 : Int) : Option Mem :=
  if M.2.1 a0 = 2 then if M.1 a0 1 < a1 then (bM (mst M a0 1 a1) fun M3 => (fX10_copyRow M3 (M3.1 a0 2) (M3.1 a0 0)).bind fun r5 => some r5) else (some M) else none
set_option maxRecDepth 100000 in
set_option maxHeartbeats 4000000 in
theorem kX2_keepBetter (d : Nat) (hd : 2 ≤ d) (M : Mem) (a0 a1 : Int) : Ct mX2_keepBetter d 0 0 [pA a0, pI a1] M dV (fX2_keepBetter M a0 a1) := by
  obtain ⟨d, rfl⟩ : ∃ k, d = k + 1 := ⟨d - 1, by omega⟩
  refine Ct.of 0 (fun _ _ _ => trivial) (by decide +kernel) rfl ?_
  unfold fX2_keepBetter
  refine v_iload_n dX2_keepBetter_0 rfl ?_
  refine v_aload_n dX2_keepBetter_1 rfl ?_
  refine v_if (fun h1 => ?_)
  refine v_get (v := pI (M.1 a0 1)) 2 1 rfl inX2 (by decide) tw405 dX2_keepBetter_2 h1 rfl ?_
  refine v_icmp_le (tgt := 24) dX2_keepBetter_5 (by decide) (fun c2 => ?_) (fun c2 => ?_)
  · refine v_aload_n dX2_keepBetter_8 rfl ?_
    refine v_iload_n dX2_keepBetter_9 rfl ?_
    refine v_put (x := a1) 2 1 rfl inX2 (by decide) tw405 (Or.inl rfl) rfl dX2_keepBetter_10 h1 rfl id ?_
    refine v_bM (fun M3 e4 => ?_)
    refine v_aload_n dX2_keepBetter_13 rfl ?_
    refine v_get (v := pA (M3.1 a0 2)) 2 2 rfl inX2 (by decide) tw407 dX2_keepBetter_14 (by rw [e4]; exact h1) rfl ?_
    refine v_aload_n dX2_keepBetter_17 rfl ?_
    refine v_get (v := pA (M3.1 a0 0)) 2 0 rfl inX2 (by decide) tw403 dX2_keepBetter_18 (by rw [e4]; exact h1) rfl ?_
    refine v_cS (mi := mX2_keepBetter) (c0 := 0) (c1 := 0) (As := [pA (M3.1 a0 2), pA (M3.1 a0 0)]) (st := []) (kX10_copyRow d (by omega) _ _ _) okX10_copyRow (Or.inr nw25) tw651 rfl (Nat.le_of_ble_eq_true rfl) dX2_keepBetter_21 (fun r5 => []) (fun r5 => r5) (fun _ => rfl) (fun _ => rfl) (fun r5 h6 => ?_) rfl
    exact v_return dX2_keepBetter_24 rfl rfl
  · exact v_return dX2_keepBetter_24 rfl rfl
theorem chX2_pick_0 : (cX2_pick.data.toList.drop 0).take 16 = [27, 8, 161, 0, 10, 42, 21, 4, 182, 0, 37, 177, 28, 42, 180, 0] := by decide +kernel
theorem chX2_pick_1 : (cX2_pick.data.toList.drop 16).take 16 = [25, 180, 0, 41, 42, 180, 0, 22, 27, 184, 0, 46, 46, 184, 0, 50] := by decide +kernel
theorem chX2_pick_2 : (cX2_pick.data.toList.drop 32).take 16 = [54, 5, 21, 5, 54, 6, 21, 6, 155, 0, 66, 29, 21, 6, 42, 180] := by decide +kernel
theorem chX2_pick_3 : (cX2_pick.data.toList.drop 48).take 16 = [0, 25, 180, 0, 55, 27, 46, 104, 100, 54, 7, 21, 7, 155, 0, 39] := by decide +kernel
theorem chX2_pick_4 : (cX2_pick.data.toList.drop 64).take 16 = [42, 180, 0, 19, 27, 21, 6, 79, 42, 27, 4, 96, 28, 21, 6, 100] := by decide +kernel
theorem chX2_pick_5 : (cX2_pick.data.toList.drop 80).take 16 = [21, 7, 21, 4, 21, 6, 42, 180, 0, 25, 180, 0, 58, 27, 46, 104] := by decide +kernel
theorem chX2_pick_6 : (cX2_pick.data.toList.drop 96).take 16 = [96, 184, 0, 33, 132, 6, 255, 167, 255, 191, 177] := by decide +kernel
theorem dX2_pick_0 : decode cX2_pick 0 = .ok (.iload_n 1, 1) := oq_27 (byt chX2_pick_0 0 rfl)
theorem dX2_pick_1 : decode cX2_pick 1 = .ok (.iconst 5, 1) := oq_8 (byt chX2_pick_0 1 rfl)
theorem dX2_pick_2 : decode cX2_pick 2 = .ok (.if_icmp .lt 10, 3) := oq_161 (byt chX2_pick_0 2 rfl) (byt chX2_pick_0 3 rfl) (byt chX2_pick_0 4 rfl) (by decide +kernel)
theorem dX2_pick_5 : decode cX2_pick 5 = .ok (.aload_n 0, 1) := oq_42 (byt chX2_pick_0 5 rfl)
theorem dX2_pick_6 : decode cX2_pick 6 = .ok (.iload 4, 2) := oq_21 (byt chX2_pick_0 6 rfl) (byt chX2_pick_0 7 rfl) rfl
theorem dX2_pick_8 : decode cX2_pick 8 = .ok (.invokevirtual 37, 3) := oq_182 (byt chX2_pick_0 8 rfl) (byt chX2_pick_0 9 rfl) (byt chX2_pick_0 10 rfl) rfl
theorem dX2_pick_11 : decode cX2_pick 11 = .ok (.return_, 1) := oq_177 (byt chX2_pick_0 11 rfl)
theorem dX2_pick_12 : decode cX2_pick 12 = .ok (.iload_n 2, 1) := oq_28 (byt chX2_pick_0 12 rfl)
theorem dX2_pick_13 : decode cX2_pick 13 = .ok (.aload_n 0, 1) := oq_42 (byt chX2_pick_0 13 rfl)
theorem dX2_pick_14 : decode cX2_pick 14 = .ok (.getfield 25, 3) := oq_180 (byt chX2_pick_0 14 rfl) (byt chX2_pick_0 15 rfl) (byt chX2_pick_1 0 rfl) rfl
theorem dX2_pick_17 : decode cX2_pick 17 = .ok (.getfield 41, 3) := oq_180 (byt chX2_pick_1 1 rfl) (byt chX2_pick_1 2 rfl) (byt chX2_pick_1 3 rfl) rfl
theorem dX2_pick_20 : decode cX2_pick 20 = .ok (.aload_n 0, 1) := oq_42 (byt chX2_pick_1 4 rfl)
theorem dX2_pick_21 : decode cX2_pick 21 = .ok (.getfield 22, 3) := oq_180 (byt chX2_pick_1 5 rfl) (byt chX2_pick_1 6 rfl) (byt chX2_pick_1 7 rfl) rfl
theorem dX2_pick_24 : decode cX2_pick 24 = .ok (.iload_n 1, 1) := oq_27 (byt chX2_pick_1 8 rfl)
theorem dX2_pick_25 : decode cX2_pick 25 = .ok (.invokestatic 46, 3) := oq_184 (byt chX2_pick_1 9 rfl) (byt chX2_pick_1 10 rfl) (byt chX2_pick_1 11 rfl) rfl
theorem dX2_pick_28 : decode cX2_pick 28 = .ok (.iaload, 1) := oq_46 (byt chX2_pick_1 12 rfl)
theorem dX2_pick_29 : decode cX2_pick 29 = .ok (.invokestatic 50, 3) := oq_184 (byt chX2_pick_1 13 rfl) (byt chX2_pick_1 14 rfl) (byt chX2_pick_1 15 rfl) rfl
theorem dX2_pick_32 : decode cX2_pick 32 = .ok (.istore 5, 2) := oq_54 (byt chX2_pick_2 0 rfl) (byt chX2_pick_2 1 rfl) rfl
theorem dX2_pick_34 : decode cX2_pick 34 = .ok (.iload 5, 2) := oq_21 (byt chX2_pick_2 2 rfl) (byt chX2_pick_2 3 rfl) rfl
theorem dX2_pick_36 : decode cX2_pick 36 = .ok (.istore 6, 2) := oq_54 (byt chX2_pick_2 4 rfl) (byt chX2_pick_2 5 rfl) rfl
theorem dX2_pick_38 : decode cX2_pick 38 = .ok (.iload 6, 2) := oq_21 (byt chX2_pick_2 6 rfl) (byt chX2_pick_2 7 rfl) rfl
theorem dX2_pick_40 : decode cX2_pick 40 = .ok (.ifCond .lt 66, 3) := oq_155 (byt chX2_pick_2 8 rfl) (byt chX2_pick_2 9 rfl) (byt chX2_pick_2 10 rfl) (by decide +kernel)
theorem dX2_pick_43 : decode cX2_pick 43 = .ok (.iload_n 3, 1) := oq_29 (byt chX2_pick_2 11 rfl)
theorem dX2_pick_44 : decode cX2_pick 44 = .ok (.iload 6, 2) := oq_21 (byt chX2_pick_2 12 rfl) (byt chX2_pick_2 13 rfl) rfl
theorem dX2_pick_46 : decode cX2_pick 46 = .ok (.aload_n 0, 1) := oq_42 (byt chX2_pick_2 14 rfl)
theorem dX2_pick_47 : decode cX2_pick 47 = .ok (.getfield 25, 3) := oq_180 (byt chX2_pick_2 15 rfl) (byt chX2_pick_3 0 rfl) (byt chX2_pick_3 1 rfl) rfl
theorem dX2_pick_50 : decode cX2_pick 50 = .ok (.getfield 55, 3) := oq_180 (byt chX2_pick_3 2 rfl) (byt chX2_pick_3 3 rfl) (byt chX2_pick_3 4 rfl) rfl
theorem dX2_pick_53 : decode cX2_pick 53 = .ok (.iload_n 1, 1) := oq_27 (byt chX2_pick_3 5 rfl)
theorem dX2_pick_54 : decode cX2_pick 54 = .ok (.iaload, 1) := oq_46 (byt chX2_pick_3 6 rfl)
theorem dX2_pick_55 : decode cX2_pick 55 = .ok (.imul, 1) := oq_104 (byt chX2_pick_3 7 rfl)
theorem dX2_pick_56 : decode cX2_pick 56 = .ok (.isub, 1) := oq_100 (byt chX2_pick_3 8 rfl)
theorem dX2_pick_57 : decode cX2_pick 57 = .ok (.istore 7, 2) := oq_54 (byt chX2_pick_3 9 rfl) (byt chX2_pick_3 10 rfl) rfl
theorem dX2_pick_59 : decode cX2_pick 59 = .ok (.iload 7, 2) := oq_21 (byt chX2_pick_3 11 rfl) (byt chX2_pick_3 12 rfl) rfl
theorem dX2_pick_61 : decode cX2_pick 61 = .ok (.ifCond .lt 39, 3) := oq_155 (byt chX2_pick_3 13 rfl) (byt chX2_pick_3 14 rfl) (byt chX2_pick_3 15 rfl) (by decide +kernel)
theorem dX2_pick_64 : decode cX2_pick 64 = .ok (.aload_n 0, 1) := oq_42 (byt chX2_pick_4 0 rfl)
theorem dX2_pick_65 : decode cX2_pick 65 = .ok (.getfield 19, 3) := oq_180 (byt chX2_pick_4 1 rfl) (byt chX2_pick_4 2 rfl) (byt chX2_pick_4 3 rfl) rfl
theorem dX2_pick_68 : decode cX2_pick 68 = .ok (.iload_n 1, 1) := oq_27 (byt chX2_pick_4 4 rfl)
theorem dX2_pick_69 : decode cX2_pick 69 = .ok (.iload 6, 2) := oq_21 (byt chX2_pick_4 5 rfl) (byt chX2_pick_4 6 rfl) rfl
theorem dX2_pick_71 : decode cX2_pick 71 = .ok (.iastore, 1) := oq_79 (byt chX2_pick_4 7 rfl)
theorem dX2_pick_72 : decode cX2_pick 72 = .ok (.aload_n 0, 1) := oq_42 (byt chX2_pick_4 8 rfl)
theorem dX2_pick_73 : decode cX2_pick 73 = .ok (.iload_n 1, 1) := oq_27 (byt chX2_pick_4 9 rfl)
theorem dX2_pick_74 : decode cX2_pick 74 = .ok (.iconst 1, 1) := oq_4 (byt chX2_pick_4 10 rfl)
theorem dX2_pick_75 : decode cX2_pick 75 = .ok (.iadd, 1) := oq_96 (byt chX2_pick_4 11 rfl)
theorem dX2_pick_76 : decode cX2_pick 76 = .ok (.iload_n 2, 1) := oq_28 (byt chX2_pick_4 12 rfl)
theorem dX2_pick_77 : decode cX2_pick 77 = .ok (.iload 6, 2) := oq_21 (byt chX2_pick_4 13 rfl) (byt chX2_pick_4 14 rfl) rfl
theorem dX2_pick_79 : decode cX2_pick 79 = .ok (.isub, 1) := oq_100 (byt chX2_pick_4 15 rfl)
theorem dX2_pick_80 : decode cX2_pick 80 = .ok (.iload 7, 2) := oq_21 (byt chX2_pick_5 0 rfl) (byt chX2_pick_5 1 rfl) rfl
theorem dX2_pick_82 : decode cX2_pick 82 = .ok (.iload 4, 2) := oq_21 (byt chX2_pick_5 2 rfl) (byt chX2_pick_5 3 rfl) rfl
theorem dX2_pick_84 : decode cX2_pick 84 = .ok (.iload 6, 2) := oq_21 (byt chX2_pick_5 4 rfl) (byt chX2_pick_5 5 rfl) rfl
theorem dX2_pick_86 : decode cX2_pick 86 = .ok (.aload_n 0, 1) := oq_42 (byt chX2_pick_5 6 rfl)
theorem dX2_pick_87 : decode cX2_pick 87 = .ok (.getfield 25, 3) := oq_180 (byt chX2_pick_5 7 rfl) (byt chX2_pick_5 8 rfl) (byt chX2_pick_5 9 rfl) rfl
theorem dX2_pick_90 : decode cX2_pick 90 = .ok (.getfield 58, 3) := oq_180 (byt chX2_pick_5 10 rfl) (byt chX2_pick_5 11 rfl) (byt chX2_pick_5 12 rfl) rfl
theorem dX2_pick_93 : decode cX2_pick 93 = .ok (.iload_n 1, 1) := oq_27 (byt chX2_pick_5 13 rfl)
theorem dX2_pick_94 : decode cX2_pick 94 = .ok (.iaload, 1) := oq_46 (byt chX2_pick_5 14 rfl)
theorem dX2_pick_95 : decode cX2_pick 95 = .ok (.imul, 1) := oq_104 (byt chX2_pick_5 15 rfl)
theorem dX2_pick_96 : decode cX2_pick 96 = .ok (.iadd, 1) := oq_96 (byt chX2_pick_6 0 rfl)
theorem dX2_pick_97 : decode cX2_pick 97 = .ok (.invokestatic 33, 3) := oq_184 (byt chX2_pick_6 1 rfl) (byt chX2_pick_6 2 rfl) (byt chX2_pick_6 3 rfl) rfl
theorem dX2_pick_100 : decode cX2_pick 100 = .ok (.iinc 6 (-1), 3) := oq_132 (byt chX2_pick_6 4 rfl) (byt chX2_pick_6 5 rfl) (byt chX2_pick_6 6 rfl) rfl
theorem dX2_pick_103 : decode cX2_pick 103 = .ok (.goto (-65), 3) := oq_167 (byt chX2_pick_6 7 rfl) (byt chX2_pick_6 8 rfl) (byt chX2_pick_6 9 rfl) (by decide +kernel)
theorem dX2_pick_106 : decode cX2_pick 106 = .ok (.return_, 1) := oq_177 (byt chX2_pick_6 10 rfl)
abbrev mX2_pick : MI := (yX2_pick, cX2_pick, 8, none, noE)
theorem okX2_pick : cok mX2_pick 5 := ⟨tw1130, tw10, by decide, by decide, by decide, by decide +kernel⟩
def fX2_pick : Nat → Mem → Int → Int → Int → Int → Int → Option Mem
  | 0, _, _, _, _, _, _ => none
  | fu + 1, M, a0, a1, a2, a3, a4 => if a1 < 5 then (if M.2.1 a0 = 2 then if M.2.1 (M.1 a0 3) = 7 then (fX10_cell M (M.1 a0 4) a1).bind fun r4 => if M.2.1 (M.1 (M.1 a0 3) 2) = 12 ∧ (0 : Int) ≤ r4 ∧ r4 < M.2.2.1 (M.1 (M.1 a0 3) 2) then iterC (fun (rec7 : (Int × Mem) → Option Mem) (s8 : Int × Mem) => if s8.1 < 0 then (some s8.2) else (if s8.2.2.1 a0 = 2 then if s8.2.2.1 (s8.2.1 a0 3) = 7 then if s8.2.2.1 (s8.2.1 (s8.2.1 a0 3) 6) = 12 ∧ (0 : Int) ≤ a1 ∧ a1 < s8.2.2.2.1 (s8.2.1 (s8.2.1 a0 3) 6) then if w32 (a3 - (w32 (s8.1 * (s8.2.1 (s8.2.1 (s8.2.1 a0 3) 6) a1)))) < 0 then (rec7 (w32 (s8.1 + (-1)), s8.2)) else (if s8.2.2.1 (s8.2.1 a0 2) = 12 ∧ (0 : Int) ≤ a1 ∧ a1 < s8.2.2.2.1 (s8.2.1 a0 2) then bM (mst s8.2 (s8.2.1 a0 2) a1 s8.1) fun M15 => if M15.2.1 (M15.1 a0 3) = 7 then if M15.2.1 (M15.1 (M15.1 a0 3) 7) = 12 ∧ (0 : Int) ≤ a1 ∧ a1 < M15.2.2.1 (M15.1 (M15.1 a0 3) 7) then (fX2_pick fu M15 a0 (w32 (a1 + 1)) (w32 (a2 - s8.1)) (w32 (a3 - (w32 (s8.1 * (s8.2.1 (s8.2.1 (s8.2.1 a0 3) 6) a1))))) (w32 (a4 + (w32 (s8.1 * (M15.1 (M15.1 (M15.1 a0 3) 7) a1)))))).bind fun r19 => rec7 (w32 (s8.1 + (-1)), r19) else none else none else none) else none else none else none)) BIG (imin a2 (M.1 (M.1 (M.1 a0 3) 2) r4), M) else none else none else none) else (if M.2.1 a0 = 2 then (fX2_keepBetter M a0 a4).bind fun r21 => some r21 else none)
set_option maxRecDepth 100000 in
set_option maxHeartbeats 4000000 in
theorem kX2_pick : ∀ (fu d : Nat), fu + 4 ≤ d → ∀ (M : Mem) (a0 a1 a2 a3 a4 : Int), Ct mX2_pick d 0 0 [pA a0, pI a1, pI a2, pI a3, pI a4] M dV (fX2_pick fu M a0 a1 a2 a3 a4)
  | 0, d, hd, M, a0, a1, a2, a3, a4 => fun r h => by cases h
  | fu + 1, d, hd, M, a0, a1, a2, a3, a4 => by
    obtain ⟨d, rfl⟩ : ∃ k, d = k + 1 := ⟨d - 1, by omega⟩
    refine Ct.of 3 (fun _ _ _ => trivial) (by decide +kernel) rfl ?_
    unfold fX2_pick
    refine v_iload_n dX2_pick_0 rfl ?_
    refine v_iconst dX2_pick_1 (by decide) ?_
    refine v_icmp_lt (tgt := 12) dX2_pick_2 (by decide) (fun c1 => ?_) (fun c1 => ?_)
    · refine v_iload_n dX2_pick_12 rfl ?_
      refine v_aload_n dX2_pick_13 rfl ?_
      refine v_if (fun h2 => ?_)
      refine v_get (v := pA (M.1 a0 3)) 2 3 rfl inX2 (by decide) tw408 dX2_pick_14 h2 rfl ?_
      refine v_if (fun h3 => ?_)
      refine v_get (v := pA (M.1 (M.1 a0 3) 2)) 7 2 rfl inX7 (by decide) tw68 dX2_pick_17 h3 rfl ?_
      refine v_aload_n dX2_pick_20 rfl ?_
      refine v_get (v := pI (M.1 a0 4)) 2 4 rfl inX2 (by decide) tw409 dX2_pick_21 h2 rfl ?_
      refine v_iload_n dX2_pick_24 rfl ?_
      refine v_cS (mi := mX2_pick) (c0 := 0) (c1 := 0) (As := [pI (M.1 a0 4), pI a1]) (st := [pA (M.1 (M.1 a0 3) 2), pI a2]) (kX10_cell d (by omega) _ _ _) okX10_cell (Or.inr nw26) tw621 rfl (Nat.le_of_ble_eq_true rfl) dX2_pick_25 (fun r4 => [pI r4, pA (M.1 (M.1 a0 3) 2), pI a2]) (fun r4 => M) (fun _ => rfl) (fun _ => rfl) (fun r4 h5 => ?_) rfl
      refine v_if (fun h6 => ?_)
      refine v_iaload h6 dX2_pick_28 ?_
      refine v_mmin (mi := mX2_pick) tw1137 tw469 tw12 tw470 (Nat.le_of_ble_eq_true rfl) dX2_pick_29 ?_
      refine v_istore (ls' := [some (pA a0), some (pI a1), some (pI a2), some (pI a3), some (pI a4), some (pI (imin a2 (M.1 (M.1 (M.1 a0 3) 2) r4))), none, none]) dX2_pick_32 (by decide) rfl ?_
      refine v_iload dX2_pick_34 rfl ?_
      refine v_istore (ls' := [some (pA a0), some (pI a1), some (pI a2), some (pI a3), some (pI a4), some (pI (imin a2 (M.1 (M.1 (M.1 a0 3) 2) r4))), some (pI (imin a2 (M.1 (M.1 (M.1 a0 3) 2) r4))), none]) dX2_pick_36 (by decide) rfl ?_
      refine v_drop [some (pA a0), some (pI a1), some (pI a2), some (pI a3), some (pI a4), none, some (pI (imin a2 (M.1 (M.1 (M.1 a0 3) 2) r4))), none] (ls_s (ls_s (ls_s (ls_s (ls_s (ls_n (ls_s (ls_n ls_e)))))))) ?_
      refine v_loop (fun (s8 : Int × Mem) => [some (pA a0), some (pI a1), some (pI a2), some (pI a3), some (pI a4), none, some (pI s8.1), none]) (fun (s8 : Int × Mem) => s8.2) (s0 := (imin a2 (M.1 (M.1 (M.1 a0 3) 2) r4), M)) ?_
      intro rec7 hrec7 s8
      refine v_iload dX2_pick_38 rfl ?_
      refine v_if_lt (tgt := 106) dX2_pick_40 (by decide) (fun c9 => ?_) (fun c9 => ?_)
      · exact v_return dX2_pick_106 rfl rfl
      · refine v_iload_n dX2_pick_43 rfl ?_
        refine v_iload dX2_pick_44 rfl ?_
        refine v_aload_n dX2_pick_46 rfl ?_
        refine v_if (fun h10 => ?_)
        refine v_get (v := pA (s8.2.1 a0 3)) 2 3 rfl inX2 (by decide) tw408 dX2_pick_47 h10 rfl ?_
        refine v_if (fun h11 => ?_)
        refine v_get (v := pA (s8.2.1 (s8.2.1 a0 3) 6)) 7 6 rfl inX7 (by decide) tw85 dX2_pick_50 h11 rfl ?_
        refine v_iload_n dX2_pick_53 rfl ?_
        refine v_if (fun h12 => ?_)
        refine v_iaload h12 dX2_pick_54 ?_
        refine v_imul dX2_pick_55 ?_
        refine v_isub dX2_pick_56 ?_
        refine v_istore (ls' := [some (pA a0), some (pI a1), some (pI a2), some (pI a3), some (pI a4), none, some (pI s8.1), some (pI (w32 (a3 - (w32 (s8.1 * (s8.2.1 (s8.2.1 (s8.2.1 a0 3) 6) a1))))))]) dX2_pick_57 (by decide) rfl ?_
        refine v_iload dX2_pick_59 rfl ?_
        refine v_if_lt (tgt := 100) dX2_pick_61 (by decide) (fun c13 => ?_) (fun c13 => ?_)
        · refine v_iinc (ls' := [some (pA a0), some (pI a1), some (pI a2), some (pI a3), some (pI a4), none, some (pI (w32 (s8.1 + (-1)))), some (pI (w32 (a3 - (w32 (s8.1 * (s8.2.1 (s8.2.1 (s8.2.1 a0 3) 6) a1))))))]) dX2_pick_100 (by decide) rfl rfl ?_
          refine v_goto (tgt := 38) dX2_pick_103 (by decide) ?_
          exact v_drop [some (pA a0), some (pI a1), some (pI a2), some (pI a3), some (pI a4), none, some (pI (w32 (s8.1 + (-1)))), none] (ls_s (ls_s (ls_s (ls_s (ls_s (ls_n (ls_s (ls_n ls_e)))))))) (hrec7 (w32 (s8.1 + (-1)), s8.2))
        · refine v_aload_n dX2_pick_64 rfl ?_
          refine v_get (v := pA (s8.2.1 a0 2)) 2 2 rfl inX2 (by decide) tw407 dX2_pick_65 h10 rfl ?_
          refine v_iload_n dX2_pick_68 rfl ?_
          refine v_iload dX2_pick_69 rfl ?_
          refine v_if (fun h14 => ?_)
          refine v_iastore h14 dX2_pick_71 ?_
          refine v_bM (fun M15 e16 => ?_)
          refine v_aload_n dX2_pick_72 rfl ?_
          refine v_iload_n dX2_pick_73 rfl ?_
          refine v_iconst dX2_pick_74 (by decide) ?_
          refine v_iadd dX2_pick_75 ?_
          refine v_iload_n dX2_pick_76 rfl ?_
          refine v_iload dX2_pick_77 rfl ?_
          refine v_isub dX2_pick_79 ?_
          refine v_iload dX2_pick_80 rfl ?_
          refine v_iload dX2_pick_82 rfl ?_
          refine v_iload dX2_pick_84 rfl ?_
          refine v_aload_n dX2_pick_86 rfl ?_
          refine v_get (v := pA (M15.1 a0 3)) 2 3 rfl inX2 (by decide) tw408 dX2_pick_87 (by rw [e16]; exact h10) rfl ?_
          refine v_if (fun h17 => ?_)
          refine v_get (v := pA (M15.1 (M15.1 a0 3) 7)) 7 7 rfl inX7 (by decide) tw90 dX2_pick_90 h17 rfl ?_
          refine v_iload_n dX2_pick_93 rfl ?_
          refine v_if (fun h18 => ?_)
          refine v_iaload h18 dX2_pick_94 ?_
          refine v_imul dX2_pick_95 ?_
          refine v_iadd dX2_pick_96 ?_
          refine v_cS (mi := mX2_pick) (c0 := 0) (c1 := 0) (As := [pA a0, pI (w32 (a1 + 1)), pI (w32 (a2 - s8.1)), pI (w32 (a3 - (w32 (s8.1 * (s8.2.1 (s8.2.1 (s8.2.1 a0 3) 6) a1))))), pI (w32 (a4 + (w32 (s8.1 * (M15.1 (M15.1 (M15.1 a0 3) 7) a1)))))]) (st := []) (kX2_pick fu d (by omega) _ _ _ _ _ _) okX2_pick (Or.inl tw1128) tw1129 rfl (Nat.le_of_ble_eq_true rfl) dX2_pick_97 (fun r19 => []) (fun r19 => r19) (fun _ => rfl) (fun _ => rfl) (fun r19 h20 => ?_) rfl
          refine v_iinc (ls' := [some (pA a0), some (pI a1), some (pI a2), some (pI a3), some (pI a4), none, some (pI (w32 (s8.1 + (-1)))), some (pI (w32 (a3 - (w32 (s8.1 * (s8.2.1 (s8.2.1 (s8.2.1 a0 3) 6) a1))))))]) dX2_pick_100 (by decide) rfl rfl ?_
          refine v_goto (tgt := 38) dX2_pick_103 (by decide) ?_
          exact v_drop [some (pA a0), some (pI a1), some (pI a2), some (pI a3), some (pI a4), none, some (pI (w32 (s8.1 + (-1)))), none] (ls_s (ls_s (ls_s (ls_s (ls_s (ls_n (ls_s (ls_n ls_e)))))))) (hrec7 (w32 (s8.1 + (-1)), r19))
    · refine v_aload_n dX2_pick_5 rfl ?_
      refine v_iload dX2_pick_6 rfl ?_
      refine v_if (fun h23 => ?_)
      refine v_cV (mi := mX2_pick) (c0 := 0) (c1 := 0) (As := [pI a4]) (st := []) (kX2_keepBetter d (by omega) _ _ _) rfl h23 rfl okX2_keepBetter (Or.inl tw1131) tw1133 tp26 rfl (Nat.le_of_ble_eq_true rfl) dX2_pick_8 (fun r21 => []) (fun r21 => r21) (fun _ => rfl) (fun _ => rfl) (fun r21 h22 => ?_) rfl
      exact v_return dX2_pick_11 rfl rfl
theorem chX2_choose_0 : (cX2_choose.data.toList.drop 0).take 16 = [42, 43, 181, 0, 25, 42, 28, 181, 0, 22, 42, 2, 181, 0, 15, 42] := by decide +kernel
theorem chX2_choose_1 : (cX2_choose.data.toList.drop 16).take 16 = [180, 0, 9, 3, 184, 0, 29, 42, 180, 0, 19, 3, 184, 0, 29, 42] := by decide +kernel
theorem chX2_choose_2 : (cX2_choose.data.toList.drop 32).take 16 = [3, 29, 21, 4, 3, 184, 0, 33, 177] := by decide +kernel
theorem dX2_choose_0 : decode cX2_choose 0 = .ok (.aload_n 0, 1) := oq_42 (byt chX2_choose_0 0 rfl)
theorem dX2_choose_1 : decode cX2_choose 1 = .ok (.aload_n 1, 1) := oq_43 (byt chX2_choose_0 1 rfl)
theorem dX2_choose_2 : decode cX2_choose 2 = .ok (.putfield 25, 3) := oq_181 (byt chX2_choose_0 2 rfl) (byt chX2_choose_0 3 rfl) (byt chX2_choose_0 4 rfl) rfl
theorem dX2_choose_5 : decode cX2_choose 5 = .ok (.aload_n 0, 1) := oq_42 (byt chX2_choose_0 5 rfl)
theorem dX2_choose_6 : decode cX2_choose 6 = .ok (.iload_n 2, 1) := oq_28 (byt chX2_choose_0 6 rfl)
theorem dX2_choose_7 : decode cX2_choose 7 = .ok (.putfield 22, 3) := oq_181 (byt chX2_choose_0 7 rfl) (byt chX2_choose_0 8 rfl) (byt chX2_choose_0 9 rfl) rfl
theorem dX2_choose_10 : decode cX2_choose 10 = .ok (.aload_n 0, 1) := oq_42 (byt chX2_choose_0 10 rfl)
theorem dX2_choose_11 : decode cX2_choose 11 = .ok (.iconst (-1), 1) := oq_2 (byt chX2_choose_0 11 rfl)
theorem dX2_choose_12 : decode cX2_choose 12 = .ok (.putfield 15, 3) := oq_181 (byt chX2_choose_0 12 rfl) (byt chX2_choose_0 13 rfl) (byt chX2_choose_0 14 rfl) rfl
theorem dX2_choose_15 : decode cX2_choose 15 = .ok (.aload_n 0, 1) := oq_42 (byt chX2_choose_0 15 rfl)
theorem dX2_choose_16 : decode cX2_choose 16 = .ok (.getfield 9, 3) := oq_180 (byt chX2_choose_1 0 rfl) (byt chX2_choose_1 1 rfl) (byt chX2_choose_1 2 rfl) rfl
theorem dX2_choose_19 : decode cX2_choose 19 = .ok (.iconst 0, 1) := oq_3 (byt chX2_choose_1 3 rfl)
theorem dX2_choose_20 : decode cX2_choose 20 = .ok (.invokestatic 29, 3) := oq_184 (byt chX2_choose_1 4 rfl) (byt chX2_choose_1 5 rfl) (byt chX2_choose_1 6 rfl) rfl
theorem dX2_choose_23 : decode cX2_choose 23 = .ok (.aload_n 0, 1) := oq_42 (byt chX2_choose_1 7 rfl)
theorem dX2_choose_24 : decode cX2_choose 24 = .ok (.getfield 19, 3) := oq_180 (byt chX2_choose_1 8 rfl) (byt chX2_choose_1 9 rfl) (byt chX2_choose_1 10 rfl) rfl
theorem dX2_choose_27 : decode cX2_choose 27 = .ok (.iconst 0, 1) := oq_3 (byt chX2_choose_1 11 rfl)
theorem dX2_choose_28 : decode cX2_choose 28 = .ok (.invokestatic 29, 3) := oq_184 (byt chX2_choose_1 12 rfl) (byt chX2_choose_1 13 rfl) (byt chX2_choose_1 14 rfl) rfl
theorem dX2_choose_31 : decode cX2_choose 31 = .ok (.aload_n 0, 1) := oq_42 (byt chX2_choose_1 15 rfl)
theorem dX2_choose_32 : decode cX2_choose 32 = .ok (.iconst 0, 1) := oq_3 (byt chX2_choose_2 0 rfl)
theorem dX2_choose_33 : decode cX2_choose 33 = .ok (.iload_n 3, 1) := oq_29 (byt chX2_choose_2 1 rfl)
theorem dX2_choose_34 : decode cX2_choose 34 = .ok (.iload 4, 2) := oq_21 (byt chX2_choose_2 2 rfl) (byt chX2_choose_2 3 rfl) rfl
theorem dX2_choose_36 : decode cX2_choose 36 = .ok (.iconst 0, 1) := oq_3 (byt chX2_choose_2 4 rfl)
theorem dX2_choose_37 : decode cX2_choose 37 = .ok (.invokestatic 33, 3) := oq_184 (byt chX2_choose_2 5 rfl) (byt chX2_choose_2 6 rfl) (byt chX2_choose_2 7 rfl) rfl
theorem dX2_choose_40 : decode cX2_choose 40 = .ok (.return_, 1) := oq_177 (byt chX2_choose_2 8 rfl)
abbrev mX2_choose : MI := (yX2_choose, cX2_choose, 5, none, noE)
theorem okX2_choose : cok mX2_choose 4 := ⟨tw1126, tw10, by decide, by decide, by decide, by decide +kernel⟩
def fX2_choose (M : Mem) (a0 a1 a2 a3 a4 : Int) : Option Mem :=
  if M.2.1 a0 = 2 then if (-1 : Int) ≤ a1 then bM (mst M a0 3 a1) fun M3 => bM (mst M3 a0 4 a2) fun M5 => bM (mst M5 a0 1 (-1)) fun M7 => (fX10_fillRow M7 (M7.1 a0 0) 0).bind fun r9 => if r9.2.1 a0 = 2 then (fX10_fillRow r9 (r9.1 a0 2) 0).bind fun r12 => (fX2_pick 20 r12 a0 0 a3 a4 0).bind fun r14 => some r14 else none else none else none
set_option maxRecDepth 100000 in
set_option maxHeartbeats 4000000 in
theorem kX2_choose (d : Nat) (hd : 25 ≤ d) (M : Mem) (a0 a1 a2 a3 a4 : Int) : Ct mX2_choose d 0 0 [pA a0, pA a1, pI a2, pI a3, pI a4] M dV (fX2_choose M a0 a1 a2 a3 a4) := by
  obtain ⟨d, rfl⟩ : ∃ k, d = k + 1 := ⟨d - 1, by omega⟩
  refine Ct.of 0 (fun _ _ _ => trivial) (by decide +kernel) rfl ?_
  unfold fX2_choose
  refine v_aload_n dX2_choose_0 rfl ?_
  refine v_aload_n dX2_choose_1 rfl ?_
  refine v_if (fun h1 => ?_)
  refine v_if (fun h2 => ?_)
  refine v_put (x := a1) 2 3 rfl inX2 (by decide) tw408 (Or.inl rfl) rfl dX2_choose_2 h1 rfl (fun _ => h2) ?_
  refine v_bM (fun M3 e4 => ?_)
  refine v_aload_n dX2_choose_5 rfl ?_
  refine v_iload_n dX2_choose_6 rfl ?_
  refine v_put (x := a2) 2 4 rfl inX2 (by decide) tw409 (Or.inl rfl) rfl dX2_choose_7 (by rw [e4]; exact h1) rfl id ?_
  refine v_bM (fun M5 e6 => ?_)
  refine v_aload_n dX2_choose_10 rfl ?_
  refine v_iconst dX2_choose_11 (by decide) ?_
  refine v_put (x := (-1)) 2 1 rfl inX2 (by decide) tw405 (Or.inl rfl) rfl dX2_choose_12 (by rw [e6, e4]; exact h1) rfl id ?_
  refine v_bM (fun M7 e8 => ?_)
  refine v_aload_n dX2_choose_15 rfl ?_
  refine v_get (v := pA (M7.1 a0 0)) 2 0 rfl inX2 (by decide) tw403 dX2_choose_16 (by rw [e8, e6, e4]; exact h1) rfl ?_
  refine v_iconst dX2_choose_19 (by decide) ?_
  refine v_cS (mi := mX2_choose) (c0 := 0) (c1 := 0) (As := [pA (M7.1 a0 0), pI 0]) (st := []) (kX10_fillRow d (by omega) _ _ _) okX10_fillRow (Or.inr nw24) tw52 rfl (Nat.le_of_ble_eq_true rfl) dX2_choose_20 (fun r9 => []) (fun r9 => r9) (fun _ => rfl) (fun _ => rfl) (fun r9 h10 => ?_) rfl
  refine v_aload_n dX2_choose_23 rfl ?_
  refine v_if (fun h11 => ?_)
  refine v_get (v := pA (r9.1 a0 2)) 2 2 rfl inX2 (by decide) tw407 dX2_choose_24 h11 rfl ?_
  refine v_iconst dX2_choose_27 (by decide) ?_
  refine v_cS (mi := mX2_choose) (c0 := 0) (c1 := 0) (As := [pA (r9.1 a0 2), pI 0]) (st := []) (kX10_fillRow d (by omega) _ _ _) okX10_fillRow (Or.inr nw24) tw52 rfl (Nat.le_of_ble_eq_true rfl) dX2_choose_28 (fun r12 => []) (fun r12 => r12) (fun _ => rfl) (fun _ => rfl) (fun r12 h13 => ?_) rfl
  refine v_aload_n dX2_choose_31 rfl ?_
  refine v_iconst dX2_choose_32 (by decide) ?_
  refine v_iload_n dX2_choose_33 rfl ?_
  refine v_iload dX2_choose_34 rfl ?_
  refine v_iconst dX2_choose_36 (by decide) ?_
  refine v_cS (mi := mX2_choose) (c0 := 0) (c1 := 0) (As := [pA a0, pI 0, pI a3, pI a4, pI 0]) (st := []) (kX2_pick 20 d (by omega) _ _ _ _ _ _) okX2_pick (Or.inl tw1128) tw1129 rfl (Nat.le_of_ble_eq_true rfl) dX2_choose_37 (fun r14 => []) (fun r14 => r14) (fun _ => rfl) (fun _ => rfl) (fun r14 h15 => ?_) rfl
  exact v_return dX2_choose_40 rfl rfl
theorem chX3_init_0 : (cX3_init.data.toList.drop 0).take 16 = [42, 183, 0, 3, 42, 3, 181, 0, 9, 42, 2, 181, 0, 15, 42, 187] := by decide +kernel
theorem chX3_init_1 : (cX3_init.data.toList.drop 16).take 16 = [0, 18, 89, 183, 0, 20, 181, 0, 21, 42, 187, 0, 25, 89, 183, 0] := by decide +kernel
theorem chX3_init_2 : (cX3_init.data.toList.drop 32).take 16 = [27, 181, 0, 28, 42, 187, 0, 32, 89, 183, 0, 34, 181, 0, 35, 42] := by decide +kernel
theorem chX3_init_3 : (cX3_init.data.toList.drop 48).take 16 = [187, 0, 39, 89, 183, 0, 41, 181, 0, 42, 42, 1, 181, 0, 46, 42] := by decide +kernel
theorem chX3_init_4 : (cX3_init.data.toList.drop 64).take 16 = [3, 181, 0, 50, 42, 3, 181, 0, 53, 42, 3, 181, 0, 56, 42, 3] := by decide +kernel
theorem chX3_init_5 : (cX3_init.data.toList.drop 80).take 16 = [181, 0, 59, 42, 3, 181, 0, 62, 42, 6, 188, 10, 181, 0, 65, 42] := by decide +kernel
theorem chX3_init_6 : (cX3_init.data.toList.drop 96).take 16 = [3, 181, 0, 69, 42, 2, 181, 0, 73, 42, 2, 181, 0, 76, 177] := by decide +kernel
theorem dX3_init_0 : decode cX3_init 0 = .ok (.aload_n 0, 1) := oq_42 (byt chX3_init_0 0 rfl)
theorem dX3_init_1 : decode cX3_init 1 = .ok (.invokespecial 3, 3) := oq_183 (byt chX3_init_0 1 rfl) (byt chX3_init_0 2 rfl) (byt chX3_init_0 3 rfl) rfl
theorem dX3_init_4 : decode cX3_init 4 = .ok (.aload_n 0, 1) := oq_42 (byt chX3_init_0 4 rfl)
theorem dX3_init_5 : decode cX3_init 5 = .ok (.iconst 0, 1) := oq_3 (byt chX3_init_0 5 rfl)
theorem dX3_init_6 : decode cX3_init 6 = .ok (.putfield 9, 3) := oq_181 (byt chX3_init_0 6 rfl) (byt chX3_init_0 7 rfl) (byt chX3_init_0 8 rfl) rfl
theorem dX3_init_9 : decode cX3_init 9 = .ok (.aload_n 0, 1) := oq_42 (byt chX3_init_0 9 rfl)
theorem dX3_init_10 : decode cX3_init 10 = .ok (.iconst (-1), 1) := oq_2 (byt chX3_init_0 10 rfl)
theorem dX3_init_11 : decode cX3_init 11 = .ok (.putfield 15, 3) := oq_181 (byt chX3_init_0 11 rfl) (byt chX3_init_0 12 rfl) (byt chX3_init_0 13 rfl) rfl
theorem dX3_init_14 : decode cX3_init 14 = .ok (.aload_n 0, 1) := oq_42 (byt chX3_init_0 14 rfl)
theorem dX3_init_15 : decode cX3_init 15 = .ok (.new 18, 3) := oq_187 (byt chX3_init_0 15 rfl) (byt chX3_init_1 0 rfl) (byt chX3_init_1 1 rfl) rfl
theorem dX3_init_18 : decode cX3_init 18 = .ok (.dup, 1) := oq_89 (byt chX3_init_1 2 rfl)
theorem dX3_init_19 : decode cX3_init 19 = .ok (.invokespecial 20, 3) := oq_183 (byt chX3_init_1 3 rfl) (byt chX3_init_1 4 rfl) (byt chX3_init_1 5 rfl) rfl
theorem dX3_init_22 : decode cX3_init 22 = .ok (.putfield 21, 3) := oq_181 (byt chX3_init_1 6 rfl) (byt chX3_init_1 7 rfl) (byt chX3_init_1 8 rfl) rfl
theorem dX3_init_25 : decode cX3_init 25 = .ok (.aload_n 0, 1) := oq_42 (byt chX3_init_1 9 rfl)
theorem dX3_init_26 : decode cX3_init 26 = .ok (.new 25, 3) := oq_187 (byt chX3_init_1 10 rfl) (byt chX3_init_1 11 rfl) (byt chX3_init_1 12 rfl) rfl
theorem dX3_init_29 : decode cX3_init 29 = .ok (.dup, 1) := oq_89 (byt chX3_init_1 13 rfl)
theorem dX3_init_30 : decode cX3_init 30 = .ok (.invokespecial 27, 3) := oq_183 (byt chX3_init_1 14 rfl) (byt chX3_init_1 15 rfl) (byt chX3_init_2 0 rfl) rfl
theorem dX3_init_33 : decode cX3_init 33 = .ok (.putfield 28, 3) := oq_181 (byt chX3_init_2 1 rfl) (byt chX3_init_2 2 rfl) (byt chX3_init_2 3 rfl) rfl
theorem dX3_init_36 : decode cX3_init 36 = .ok (.aload_n 0, 1) := oq_42 (byt chX3_init_2 4 rfl)
theorem dX3_init_37 : decode cX3_init 37 = .ok (.new 32, 3) := oq_187 (byt chX3_init_2 5 rfl) (byt chX3_init_2 6 rfl) (byt chX3_init_2 7 rfl) rfl
theorem dX3_init_40 : decode cX3_init 40 = .ok (.dup, 1) := oq_89 (byt chX3_init_2 8 rfl)
theorem dX3_init_41 : decode cX3_init 41 = .ok (.invokespecial 34, 3) := oq_183 (byt chX3_init_2 9 rfl) (byt chX3_init_2 10 rfl) (byt chX3_init_2 11 rfl) rfl
theorem dX3_init_44 : decode cX3_init 44 = .ok (.putfield 35, 3) := oq_181 (byt chX3_init_2 12 rfl) (byt chX3_init_2 13 rfl) (byt chX3_init_2 14 rfl) rfl
theorem dX3_init_47 : decode cX3_init 47 = .ok (.aload_n 0, 1) := oq_42 (byt chX3_init_2 15 rfl)
theorem dX3_init_48 : decode cX3_init 48 = .ok (.new 39, 3) := oq_187 (byt chX3_init_3 0 rfl) (byt chX3_init_3 1 rfl) (byt chX3_init_3 2 rfl) rfl
theorem dX3_init_51 : decode cX3_init 51 = .ok (.dup, 1) := oq_89 (byt chX3_init_3 3 rfl)
theorem dX3_init_52 : decode cX3_init 52 = .ok (.invokespecial 41, 3) := oq_183 (byt chX3_init_3 4 rfl) (byt chX3_init_3 5 rfl) (byt chX3_init_3 6 rfl) rfl
theorem dX3_init_55 : decode cX3_init 55 = .ok (.putfield 42, 3) := oq_181 (byt chX3_init_3 7 rfl) (byt chX3_init_3 8 rfl) (byt chX3_init_3 9 rfl) rfl
theorem dX3_init_58 : decode cX3_init 58 = .ok (.aload_n 0, 1) := oq_42 (byt chX3_init_3 10 rfl)
theorem dX3_init_59 : decode cX3_init 59 = .ok (.aconst_null, 1) := oq_1 (byt chX3_init_3 11 rfl)
theorem dX3_init_60 : decode cX3_init 60 = .ok (.putfield 46, 3) := oq_181 (byt chX3_init_3 12 rfl) (byt chX3_init_3 13 rfl) (byt chX3_init_3 14 rfl) rfl
theorem dX3_init_63 : decode cX3_init 63 = .ok (.aload_n 0, 1) := oq_42 (byt chX3_init_3 15 rfl)
theorem dX3_init_64 : decode cX3_init 64 = .ok (.iconst 0, 1) := oq_3 (byt chX3_init_4 0 rfl)
theorem dX3_init_65 : decode cX3_init 65 = .ok (.putfield 50, 3) := oq_181 (byt chX3_init_4 1 rfl) (byt chX3_init_4 2 rfl) (byt chX3_init_4 3 rfl) rfl
theorem dX3_init_68 : decode cX3_init 68 = .ok (.aload_n 0, 1) := oq_42 (byt chX3_init_4 4 rfl)
theorem dX3_init_69 : decode cX3_init 69 = .ok (.iconst 0, 1) := oq_3 (byt chX3_init_4 5 rfl)
theorem dX3_init_70 : decode cX3_init 70 = .ok (.putfield 53, 3) := oq_181 (byt chX3_init_4 6 rfl) (byt chX3_init_4 7 rfl) (byt chX3_init_4 8 rfl) rfl
theorem dX3_init_73 : decode cX3_init 73 = .ok (.aload_n 0, 1) := oq_42 (byt chX3_init_4 9 rfl)
theorem dX3_init_74 : decode cX3_init 74 = .ok (.iconst 0, 1) := oq_3 (byt chX3_init_4 10 rfl)
theorem dX3_init_75 : decode cX3_init 75 = .ok (.putfield 56, 3) := oq_181 (byt chX3_init_4 11 rfl) (byt chX3_init_4 12 rfl) (byt chX3_init_4 13 rfl) rfl
theorem dX3_init_78 : decode cX3_init 78 = .ok (.aload_n 0, 1) := oq_42 (byt chX3_init_4 14 rfl)
theorem dX3_init_79 : decode cX3_init 79 = .ok (.iconst 0, 1) := oq_3 (byt chX3_init_4 15 rfl)
theorem dX3_init_80 : decode cX3_init 80 = .ok (.putfield 59, 3) := oq_181 (byt chX3_init_5 0 rfl) (byt chX3_init_5 1 rfl) (byt chX3_init_5 2 rfl) rfl
theorem dX3_init_83 : decode cX3_init 83 = .ok (.aload_n 0, 1) := oq_42 (byt chX3_init_5 3 rfl)
theorem dX3_init_84 : decode cX3_init 84 = .ok (.iconst 0, 1) := oq_3 (byt chX3_init_5 4 rfl)
theorem dX3_init_85 : decode cX3_init 85 = .ok (.putfield 62, 3) := oq_181 (byt chX3_init_5 5 rfl) (byt chX3_init_5 6 rfl) (byt chX3_init_5 7 rfl) rfl
theorem dX3_init_88 : decode cX3_init 88 = .ok (.aload_n 0, 1) := oq_42 (byt chX3_init_5 8 rfl)
theorem dX3_init_89 : decode cX3_init 89 = .ok (.iconst 3, 1) := oq_6 (byt chX3_init_5 9 rfl)
theorem dX3_init_90 : decode cX3_init 90 = .ok (.newarray .int, 2) := by decide +kernel
theorem dX3_init_92 : decode cX3_init 92 = .ok (.putfield 65, 3) := oq_181 (byt chX3_init_5 12 rfl) (byt chX3_init_5 13 rfl) (byt chX3_init_5 14 rfl) rfl
theorem dX3_init_95 : decode cX3_init 95 = .ok (.aload_n 0, 1) := oq_42 (byt chX3_init_5 15 rfl)
theorem dX3_init_96 : decode cX3_init 96 = .ok (.iconst 0, 1) := oq_3 (byt chX3_init_6 0 rfl)
theorem dX3_init_97 : decode cX3_init 97 = .ok (.putfield 69, 3) := oq_181 (byt chX3_init_6 1 rfl) (byt chX3_init_6 2 rfl) (byt chX3_init_6 3 rfl) rfl
theorem dX3_init_100 : decode cX3_init 100 = .ok (.aload_n 0, 1) := oq_42 (byt chX3_init_6 4 rfl)
theorem dX3_init_101 : decode cX3_init 101 = .ok (.iconst (-1), 1) := oq_2 (byt chX3_init_6 5 rfl)
theorem dX3_init_102 : decode cX3_init 102 = .ok (.putfield 73, 3) := oq_181 (byt chX3_init_6 6 rfl) (byt chX3_init_6 7 rfl) (byt chX3_init_6 8 rfl) rfl
theorem dX3_init_105 : decode cX3_init 105 = .ok (.aload_n 0, 1) := oq_42 (byt chX3_init_6 9 rfl)
theorem dX3_init_106 : decode cX3_init 106 = .ok (.iconst (-1), 1) := oq_2 (byt chX3_init_6 10 rfl)
theorem dX3_init_107 : decode cX3_init 107 = .ok (.putfield 76, 3) := oq_181 (byt chX3_init_6 11 rfl) (byt chX3_init_6 12 rfl) (byt chX3_init_6 13 rfl) rfl
theorem dX3_init_110 : decode cX3_init 110 = .ok (.return_, 1) := oq_177 (byt chX3_init_6 14 rfl)
abbrev mX3_init : MI := (yX3_init, cX3_init, 1, none, noE)
theorem okX3_init : cok mX3_init 0 := ⟨tw244, tw7, by decide, by decide, by decide, by decide +kernel⟩
def fX3_init (M : Mem) (a0 : Int) : Option Mem :=
  if (0 : Int) ≤ a0 then if M.2.1 a0 = 3 then bM (mst M a0 0 0) fun M3 => bM (mst M3 a0 1 (-1)) fun M5 => bM (mnew M5 7 10) fun M7 => if (0 : Int) ≤ (M5.2.2.2 : Int) then (fX7_init M7 (M5.2.2.2 : Int)).bind fun r10 => if r10.2.1 a0 = 3 then if (-1 : Int) ≤ (M5.2.2.2 : Int) then bM (mst r10 a0 2 (M5.2.2.2 : Int)) fun M15 => bM (mnew M15 0 3) fun M17 => if (0 : Int) ≤ (M15.2.2.2 : Int) then (fX0_init M17 (M15.2.2.2 : Int)).bind fun r20 => if r20.2.1 a0 = 3 then if (-1 : Int) ≤ (M15.2.2.2 : Int) then bM (mst r20 a0 3 (M15.2.2.2 : Int)) fun M25 => bM (mnew M25 1 5) fun M27 => if (0 : Int) ≤ (M25.2.2.2 : Int) then (fX1_init M27 (M25.2.2.2 : Int)).bind fun r30 => if r30.2.1 a0 = 3 then if (-1 : Int) ≤ (M25.2.2.2 : Int) then bM (mst r30 a0 4 (M25.2.2.2 : Int)) fun M35 => bM (mnew M35 4 4) fun M37 => if (0 : Int) ≤ (M35.2.2.2 : Int) then (fX4_init M37 (M35.2.2.2 : Int)).bind fun r40 => if r40.2.1 a0 = 3 then if (-1 : Int) ≤ (M35.2.2.2 : Int) then bM (mst r40 a0 5 (M35.2.2.2 : Int)) fun M45 => if (-1 : Int) ≤ (-1) then bM (mst M45 a0 6 (-1)) fun M48 => bM (mst M48 a0 7 0) fun M50 => bM (mst M50 a0 8 0) fun M52 => bM (mst M52 a0 9 0) fun M54 => bM (mst M54 a0 10 0) fun M56 => bM (mst M56 a0 11 0) fun M58 => bM (mnew M58 12 3) fun M60 => if M60.2.1 a0 = 3 then if (-1 : Int) ≤ (M58.2.2.2 : Int) then bM (mst M60 a0 12 (M58.2.2.2 : Int)) fun M64 => bM (mst M64 a0 13 0) fun M66 => bM (mst M66 a0 14 (-1)) fun M68 => bM (mst M68 a0 15 (-1)) fun M70 => some M70 else none else none else none else none else none else none else none else none else none else none else none else none else none else none else none else none else none
set_option maxRecDepth 100000 in
set_option maxHeartbeats 4000000 in
theorem kX3_init (d : Nat) (hd : 3 ≤ d) (M : Mem) (a0 : Int) : Ct mX3_init d 20 321 [pA a0] M dV (fX3_init M a0) := by
  obtain ⟨d, rfl⟩ : ∃ k, d = k + 1 := ⟨d - 1, by omega⟩
  refine Ct.of 0 (fun _ _ _ => trivial) (by decide +kernel) rfl ?_
  unfold fX3_init
  refine v_aload_n dX3_init_0 rfl ?_
  refine v_if (fun h1 => ?_)
  refine v_objInit (mi := mX3_init) h1 tw245 tw26 tw27 (Nat.le_of_ble_eq_true rfl) dX3_init_1 ?_
  refine v_aload_n dX3_init_4 rfl ?_
  refine v_iconst dX3_init_5 (by decide) ?_
  refine v_if (fun h2 => ?_)
  refine v_put (x := 0) 3 0 rfl inX3 (by decide) tw254 (Or.inl rfl) rfl dX3_init_6 h2 rfl id ?_
  refine v_bM (fun M3 e4 => ?_)
  refine v_aload_n dX3_init_9 rfl ?_
  refine v_iconst dX3_init_10 (by decide) ?_
  refine v_put (x := (-1)) 3 1 rfl inX3 (by decide) tw256 (Or.inl rfl) rfl dX3_init_11 (by rw [e4]; exact h2) rfl id ?_
  refine v_bM (fun M5 e6 => ?_)
  refine v_aload_n dX3_init_14 rfl ?_
  refine v_new (N := 10) 7 rfl inX7 tw246 tw42 tw3 ftX7 dX3_init_15 ?_
  refine v_bM (fun M7 e8 => ?_)
  have h9 : M7.2.1 (M5.2.2.2 : Int) = 7 := by rw [e8]; exact mnew_k
  refine v_dup dX3_init_18 (by intro z hz; cases hz) ?_
  refine v_if (fun h12 => ?_)
  refine v_cI (mi := mX3_init) (c0 := 8) (c1 := 90) (As := []) (st := [pA (M5.2.2.2 : Int), pA a0]) (kX7_init d (by omega) _ _) h12 okX7_init rfl rfl (Or.inl tw247) tw44 rfl (Nat.le_of_ble_eq_true rfl) dX3_init_19 (fun r10 => [pA (M5.2.2.2 : Int), pA a0]) (fun r10 => r10) (fun _ => rfl) (fun _ => rfl) (fun r10 h11 => ?_) rfl
  refine v_if (fun h13 => ?_)
  refine v_if (fun h14 => ?_)
  refine v_put (x := (M5.2.2.2 : Int)) 3 2 rfl inX3 (by decide) tw258 (Or.inr ⟨rfl, rfl, rfl⟩) rfl dX3_init_22 h13 rfl (fun _ => h14) ?_
  refine v_bM (fun M15 e16 => ?_)
  refine v_aload_n dX3_init_25 rfl ?_
  refine v_new (N := 3) 0 rfl inX0 tw248 tw122 tw4 ftX0 dX3_init_26 ?_
  refine v_bM (fun M17 e18 => ?_)
  have h19 : M17.2.1 (M15.2.2.2 : Int) = 0 := by rw [e18]; exact mnew_k
  refine v_dup dX3_init_29 (by intro z hz; cases hz) ?_
  refine v_if (fun h22 => ?_)
  refine v_cI (mi := mX3_init) (c0 := 0) (c1 := 0) (As := []) (st := [pA (M15.2.2.2 : Int), pA a0]) (kX0_init d (by omega) _ _) h22 okX0_init rfl rfl (Or.inr nw5) tw124 rfl (Nat.le_of_ble_eq_true rfl) dX3_init_30 (fun r20 => [pA (M15.2.2.2 : Int), pA a0]) (fun r20 => r20) (fun _ => rfl) (fun _ => rfl) (fun r20 h21 => ?_) rfl
  refine v_if (fun h23 => ?_)
  refine v_if (fun h24 => ?_)
  refine v_put (x := (M15.2.2.2 : Int)) 3 3 rfl inX3 (by decide) tw260 (Or.inr ⟨rfl, rfl, rfl⟩) rfl dX3_init_33 h23 rfl (fun _ => h24) ?_
  refine v_bM (fun M25 e26 => ?_)
  refine v_aload_n dX3_init_36 rfl ?_
  refine v_new (N := 5) 1 rfl inX1 tw250 tw143 tw5 ftX1 dX3_init_37 ?_
  refine v_bM (fun M27 e28 => ?_)
  have h29 : M27.2.1 (M25.2.2.2 : Int) = 1 := by rw [e28]; exact mnew_k
  refine v_dup dX3_init_40 (by intro z hz; cases hz) ?_
  refine v_if (fun h32 => ?_)
  refine v_cI (mi := mX3_init) (c0 := 4) (c1 := 160) (As := []) (st := [pA (M25.2.2.2 : Int), pA a0]) (kX1_init d (by omega) _ _) h32 okX1_init rfl rfl (Or.inr nw6) tw145 rfl (Nat.le_of_ble_eq_true rfl) dX3_init_41 (fun r30 => [pA (M25.2.2.2 : Int), pA a0]) (fun r30 => r30) (fun _ => rfl) (fun _ => rfl) (fun r30 h31 => ?_) rfl
  refine v_if (fun h33 => ?_)
  refine v_if (fun h34 => ?_)
  refine v_put (x := (M25.2.2.2 : Int)) 3 4 rfl inX3 (by decide) tw262 (Or.inr ⟨rfl, rfl, rfl⟩) rfl dX3_init_44 h33 rfl (fun _ => h34) ?_
  refine v_bM (fun M35 e36 => ?_)
  refine v_aload_n dX3_init_47 rfl ?_
  refine v_new (N := 4) 4 rfl inX4 tw252 tw175 tw6 ftX4 dX3_init_48 ?_
  refine v_bM (fun M37 e38 => ?_)
  have h39 : M37.2.1 (M35.2.2.2 : Int) = 4 := by rw [e38]; exact mnew_k
  refine v_dup dX3_init_51 (by intro z hz; cases hz) ?_
  refine v_if (fun h42 => ?_)
  refine v_cI (mi := mX3_init) (c0 := 3) (c1 := 46) (As := []) (st := [pA (M35.2.2.2 : Int), pA a0]) (kX4_init d (by omega) _ _) h42 okX4_init rfl rfl (Or.inl tw253) tw177 rfl (Nat.le_of_ble_eq_true rfl) dX3_init_52 (fun r40 => [pA (M35.2.2.2 : Int), pA a0]) (fun r40 => r40) (fun _ => rfl) (fun _ => rfl) (fun r40 h41 => ?_) rfl
  refine v_if (fun h43 => ?_)
  refine v_if (fun h44 => ?_)
  refine v_put (x := (M35.2.2.2 : Int)) 3 5 rfl inX3 (by decide) tw264 (Or.inr ⟨rfl, rfl, rfl⟩) rfl dX3_init_55 h43 rfl (fun _ => h44) ?_
  refine v_bM (fun M45 e46 => ?_)
  refine v_aload_n dX3_init_58 rfl ?_
  refine v_null dX3_init_59 ?_
  refine v_if (fun h47 => ?_)
  refine v_put (x := (-1)) 3 6 rfl inX3 (by decide) tw266 (Or.inl rfl) rfl dX3_init_60 (by rw [e46]; exact h43) rfl (fun _ => h47) ?_
  refine v_bM (fun M48 e49 => ?_)
  refine v_aload_n dX3_init_63 rfl ?_
  refine v_iconst dX3_init_64 (by decide) ?_
  refine v_put (x := 0) 3 7 rfl inX3 (by decide) tw267 (Or.inl rfl) rfl dX3_init_65 (by rw [e49, e46]; exact h43) rfl id ?_
  refine v_bM (fun M50 e51 => ?_)
  refine v_aload_n dX3_init_68 rfl ?_
  refine v_iconst dX3_init_69 (by decide) ?_
  refine v_put (x := 0) 3 8 rfl inX3 (by decide) tw268 (Or.inl rfl) rfl dX3_init_70 (by rw [e51, e49, e46]; exact h43) rfl id ?_
  refine v_bM (fun M52 e53 => ?_)
  refine v_aload_n dX3_init_73 rfl ?_
  refine v_iconst dX3_init_74 (by decide) ?_
  refine v_put (x := 0) 3 9 rfl inX3 (by decide) tw269 (Or.inl rfl) rfl dX3_init_75 (by rw [e53, e51, e49, e46]; exact h43) rfl id ?_
  refine v_bM (fun M54 e55 => ?_)
  refine v_aload_n dX3_init_78 rfl ?_
  refine v_iconst dX3_init_79 (by decide) ?_
  refine v_put (x := 0) 3 10 rfl inX3 (by decide) tw270 (Or.inl rfl) rfl dX3_init_80 (by rw [e55, e53, e51, e49, e46]; exact h43) rfl id ?_
  refine v_bM (fun M56 e57 => ?_)
  refine v_aload_n dX3_init_83 rfl ?_
  refine v_iconst dX3_init_84 (by decide) ?_
  refine v_put (x := 0) 3 11 rfl inX3 (by decide) tw271 (Or.inl rfl) rfl dX3_init_85 (by rw [e57, e55, e53, e51, e49, e46]; exact h43) rfl id ?_
  refine v_bM (fun M58 e59 => ?_)
  refine v_aload_n dX3_init_88 rfl ?_
  refine v_iconst dX3_init_89 (by decide) ?_
  refine v_newarray (t := .int) (n := 3) 12 (by decide) (by decide) tw121 dX3_init_90 ?_
  refine v_bM (fun M60 e61 => ?_)
  refine v_if (fun h62 => ?_)
  refine v_if (fun h63 => ?_)
  refine v_put (x := (M58.2.2.2 : Int)) 3 12 rfl inX3 (by decide) tw272 (Or.inr ⟨rfl, rfl, rfl⟩) rfl dX3_init_92 h62 rfl (fun _ => h63) ?_
  refine v_bM (fun M64 e65 => ?_)
  refine v_aload_n dX3_init_95 rfl ?_
  refine v_iconst dX3_init_96 (by decide) ?_
  refine v_put (x := 0) 3 13 rfl inX3 (by decide) tw273 (Or.inl rfl) rfl dX3_init_97 (by rw [e65]; exact h62) rfl (fun _ => by first | exact Or.inl rfl | exact Or.inr rfl) ?_
  refine v_bM (fun M66 e67 => ?_)
  refine v_aload_n dX3_init_100 rfl ?_
  refine v_iconst dX3_init_101 (by decide) ?_
  refine v_put (x := (-1)) 3 14 rfl inX3 (by decide) tw274 (Or.inl rfl) rfl dX3_init_102 (by rw [e67, e65]; exact h62) rfl id ?_
  refine v_bM (fun M68 e69 => ?_)
  refine v_aload_n dX3_init_105 rfl ?_
  refine v_iconst dX3_init_106 (by decide) ?_
  refine v_put (x := (-1)) 3 15 rfl inX3 (by decide) tw275 (Or.inl rfl) rfl dX3_init_107 (by rw [e69, e67, e65]; exact h62) rfl id ?_
  refine v_bM (fun M70 e71 => ?_)
  exact v_return dX3_init_110 rfl rfl
theorem chX3_begin_0 : (cX3_begin.data.toList.drop 0).take 16 = [42, 43, 181, 0, 46, 42, 28, 181, 0, 50, 42, 3, 181, 0, 53, 42] := by decide +kernel
theorem chX3_begin_1 : (cX3_begin.data.toList.drop 16).take 16 = [3, 181, 0, 9, 42, 2, 181, 0, 15, 42, 3, 181, 0, 69, 42, 2] := by decide +kernel
theorem chX3_begin_2 : (cX3_begin.data.toList.drop 32).take 16 = [181, 0, 73, 42, 2, 181, 0, 76, 42, 180, 0, 21, 182, 0, 106, 42] := by decide +kernel
theorem chX3_begin_3 : (cX3_begin.data.toList.drop 48).take 16 = [180, 0, 28, 182, 0, 109, 42, 180, 0, 35, 182, 0, 110, 42, 180, 0] := by decide +kernel
theorem chX3_begin_4 : (cX3_begin.data.toList.drop 64).take 16 = [42, 182, 0, 111, 177] := by decide +kernel
theorem dX3_begin_0 : decode cX3_begin 0 = .ok (.aload_n 0, 1) := oq_42 (byt chX3_begin_0 0 rfl)
theorem dX3_begin_1 : decode cX3_begin 1 = .ok (.aload_n 1, 1) := oq_43 (byt chX3_begin_0 1 rfl)
theorem dX3_begin_2 : decode cX3_begin 2 = .ok (.putfield 46, 3) := oq_181 (byt chX3_begin_0 2 rfl) (byt chX3_begin_0 3 rfl) (byt chX3_begin_0 4 rfl) rfl
theorem dX3_begin_5 : decode cX3_begin 5 = .ok (.aload_n 0, 1) := oq_42 (byt chX3_begin_0 5 rfl)
theorem dX3_begin_6 : decode cX3_begin 6 = .ok (.iload_n 2, 1) := oq_28 (byt chX3_begin_0 6 rfl)
theorem dX3_begin_7 : decode cX3_begin 7 = .ok (.putfield 50, 3) := oq_181 (byt chX3_begin_0 7 rfl) (byt chX3_begin_0 8 rfl) (byt chX3_begin_0 9 rfl) rfl
theorem dX3_begin_10 : decode cX3_begin 10 = .ok (.aload_n 0, 1) := oq_42 (byt chX3_begin_0 10 rfl)
theorem dX3_begin_11 : decode cX3_begin 11 = .ok (.iconst 0, 1) := oq_3 (byt chX3_begin_0 11 rfl)
theorem dX3_begin_12 : decode cX3_begin 12 = .ok (.putfield 53, 3) := oq_181 (byt chX3_begin_0 12 rfl) (byt chX3_begin_0 13 rfl) (byt chX3_begin_0 14 rfl) rfl
theorem dX3_begin_15 : decode cX3_begin 15 = .ok (.aload_n 0, 1) := oq_42 (byt chX3_begin_0 15 rfl)
theorem dX3_begin_16 : decode cX3_begin 16 = .ok (.iconst 0, 1) := oq_3 (byt chX3_begin_1 0 rfl)
theorem dX3_begin_17 : decode cX3_begin 17 = .ok (.putfield 9, 3) := oq_181 (byt chX3_begin_1 1 rfl) (byt chX3_begin_1 2 rfl) (byt chX3_begin_1 3 rfl) rfl
theorem dX3_begin_20 : decode cX3_begin 20 = .ok (.aload_n 0, 1) := oq_42 (byt chX3_begin_1 4 rfl)
theorem dX3_begin_21 : decode cX3_begin 21 = .ok (.iconst (-1), 1) := oq_2 (byt chX3_begin_1 5 rfl)
theorem dX3_begin_22 : decode cX3_begin 22 = .ok (.putfield 15, 3) := oq_181 (byt chX3_begin_1 6 rfl) (byt chX3_begin_1 7 rfl) (byt chX3_begin_1 8 rfl) rfl
theorem dX3_begin_25 : decode cX3_begin 25 = .ok (.aload_n 0, 1) := oq_42 (byt chX3_begin_1 9 rfl)
theorem dX3_begin_26 : decode cX3_begin 26 = .ok (.iconst 0, 1) := oq_3 (byt chX3_begin_1 10 rfl)
theorem dX3_begin_27 : decode cX3_begin 27 = .ok (.putfield 69, 3) := oq_181 (byt chX3_begin_1 11 rfl) (byt chX3_begin_1 12 rfl) (byt chX3_begin_1 13 rfl) rfl
theorem dX3_begin_30 : decode cX3_begin 30 = .ok (.aload_n 0, 1) := oq_42 (byt chX3_begin_1 14 rfl)
theorem dX3_begin_31 : decode cX3_begin 31 = .ok (.iconst (-1), 1) := oq_2 (byt chX3_begin_1 15 rfl)
theorem dX3_begin_32 : decode cX3_begin 32 = .ok (.putfield 73, 3) := oq_181 (byt chX3_begin_2 0 rfl) (byt chX3_begin_2 1 rfl) (byt chX3_begin_2 2 rfl) rfl
theorem dX3_begin_35 : decode cX3_begin 35 = .ok (.aload_n 0, 1) := oq_42 (byt chX3_begin_2 3 rfl)
theorem dX3_begin_36 : decode cX3_begin 36 = .ok (.iconst (-1), 1) := oq_2 (byt chX3_begin_2 4 rfl)
theorem dX3_begin_37 : decode cX3_begin 37 = .ok (.putfield 76, 3) := oq_181 (byt chX3_begin_2 5 rfl) (byt chX3_begin_2 6 rfl) (byt chX3_begin_2 7 rfl) rfl
theorem dX3_begin_40 : decode cX3_begin 40 = .ok (.aload_n 0, 1) := oq_42 (byt chX3_begin_2 8 rfl)
theorem dX3_begin_41 : decode cX3_begin 41 = .ok (.getfield 21, 3) := oq_180 (byt chX3_begin_2 9 rfl) (byt chX3_begin_2 10 rfl) (byt chX3_begin_2 11 rfl) rfl
theorem dX3_begin_44 : decode cX3_begin 44 = .ok (.invokevirtual 106, 3) := oq_182 (byt chX3_begin_2 12 rfl) (byt chX3_begin_2 13 rfl) (byt chX3_begin_2 14 rfl) rfl
theorem dX3_begin_47 : decode cX3_begin 47 = .ok (.aload_n 0, 1) := oq_42 (byt chX3_begin_2 15 rfl)
theorem dX3_begin_48 : decode cX3_begin 48 = .ok (.getfield 28, 3) := oq_180 (byt chX3_begin_3 0 rfl) (byt chX3_begin_3 1 rfl) (byt chX3_begin_3 2 rfl) rfl
theorem dX3_begin_51 : decode cX3_begin 51 = .ok (.invokevirtual 109, 3) := oq_182 (byt chX3_begin_3 3 rfl) (byt chX3_begin_3 4 rfl) (byt chX3_begin_3 5 rfl) rfl
theorem dX3_begin_54 : decode cX3_begin 54 = .ok (.aload_n 0, 1) := oq_42 (byt chX3_begin_3 6 rfl)
theorem dX3_begin_55 : decode cX3_begin 55 = .ok (.getfield 35, 3) := oq_180 (byt chX3_begin_3 7 rfl) (byt chX3_begin_3 8 rfl) (byt chX3_begin_3 9 rfl) rfl
theorem dX3_begin_58 : decode cX3_begin 58 = .ok (.invokevirtual 110, 3) := oq_182 (byt chX3_begin_3 10 rfl) (byt chX3_begin_3 11 rfl) (byt chX3_begin_3 12 rfl) rfl
theorem dX3_begin_61 : decode cX3_begin 61 = .ok (.aload_n 0, 1) := oq_42 (byt chX3_begin_3 13 rfl)
theorem dX3_begin_62 : decode cX3_begin 62 = .ok (.getfield 42, 3) := oq_180 (byt chX3_begin_3 14 rfl) (byt chX3_begin_3 15 rfl) (byt chX3_begin_4 0 rfl) rfl
theorem dX3_begin_65 : decode cX3_begin 65 = .ok (.invokevirtual 111, 3) := oq_182 (byt chX3_begin_4 1 rfl) (byt chX3_begin_4 2 rfl) (byt chX3_begin_4 3 rfl) rfl
theorem dX3_begin_68 : decode cX3_begin 68 = .ok (.return_, 1) := oq_177 (byt chX3_begin_4 4 rfl)
abbrev mX3_begin : MI := (yX3_begin, cX3_begin, 3, none, noE)
theorem okX3_begin : cok mX3_begin 2 := ⟨tw474, tw7, by decide, by decide, by decide, by decide +kernel⟩
def fX3_begin (M : Mem) (a0 a1 a2 : Int) : Option Mem :=
  if M.2.1 a0 = 3 then if (-1 : Int) ≤ a1 then bM (mst M a0 6 a1) fun M3 => bM (mst M3 a0 7 a2) fun M5 => bM (mst M5 a0 8 0) fun M7 => bM (mst M7 a0 0 0) fun M9 => bM (mst M9 a0 1 (-1)) fun M11 => bM (mst M11 a0 13 0) fun M13 => bM (mst M13 a0 14 (-1)) fun M15 => bM (mst M15 a0 15 (-1)) fun M17 => if M17.2.1 (M17.1 a0 2) = 7 then (fX7_clear M17 (M17.1 a0 2)).bind fun r19 => if r19.2.1 a0 = 3 then if r19.2.1 (r19.1 a0 3) = 0 then (fX0_clear r19 (r19.1 a0 3)).bind fun r23 => if r23.2.1 a0 = 3 then if r23.2.1 (r23.1 a0 4) = 1 then (fX1_clear r23 (r23.1 a0 4)).bind fun r27 => if r27.2.1 a0 = 3 then if r27.2.1 (r27.1 a0 5) = 4 then (fX4_clear r27 (r27.1 a0 5)).bind fun r31 => some r31 else none else none else none else none else none else none else none else none else none
set_option maxRecDepth 100000 in
set_option maxHeartbeats 4000000 in
theorem kX3_begin (d : Nat) (hd : 2 ≤ d) (M : Mem) (a0 a1 a2 : Int) : Ct mX3_begin d 0 0 [pA a0, pA a1, pI a2] M dV (fX3_begin M a0 a1 a2) := by
  obtain ⟨d, rfl⟩ : ∃ k, d = k + 1 := ⟨d - 1, by omega⟩
  refine Ct.of 0 (fun _ _ _ => trivial) (by decide +kernel) rfl ?_
  unfold fX3_begin
  refine v_aload_n dX3_begin_0 rfl ?_
  refine v_aload_n dX3_begin_1 rfl ?_
  refine v_if (fun h1 => ?_)
  refine v_if (fun h2 => ?_)
  refine v_put (x := a1) 3 6 rfl inX3 (by decide) tw266 (Or.inl rfl) rfl dX3_begin_2 h1 rfl (fun _ => h2) ?_
  refine v_bM (fun M3 e4 => ?_)
  refine v_aload_n dX3_begin_5 rfl ?_
  refine v_iload_n dX3_begin_6 rfl ?_
  refine v_put (x := a2) 3 7 rfl inX3 (by decide) tw267 (Or.inl rfl) rfl dX3_begin_7 (by rw [e4]; exact h1) rfl id ?_
  refine v_bM (fun M5 e6 => ?_)
  refine v_aload_n dX3_begin_10 rfl ?_
  refine v_iconst dX3_begin_11 (by decide) ?_
  refine v_put (x := 0) 3 8 rfl inX3 (by decide) tw268 (Or.inl rfl) rfl dX3_begin_12 (by rw [e6, e4]; exact h1) rfl id ?_
  refine v_bM (fun M7 e8 => ?_)
  refine v_aload_n dX3_begin_15 rfl ?_
  refine v_iconst dX3_begin_16 (by decide) ?_
  refine v_put (x := 0) 3 0 rfl inX3 (by decide) tw254 (Or.inl rfl) rfl dX3_begin_17 (by rw [e8, e6, e4]; exact h1) rfl id ?_
  refine v_bM (fun M9 e10 => ?_)
  refine v_aload_n dX3_begin_20 rfl ?_
  refine v_iconst dX3_begin_21 (by decide) ?_
  refine v_put (x := (-1)) 3 1 rfl inX3 (by decide) tw256 (Or.inl rfl) rfl dX3_begin_22 (by rw [e10, e8, e6, e4]; exact h1) rfl id ?_
  refine v_bM (fun M11 e12 => ?_)
  refine v_aload_n dX3_begin_25 rfl ?_
  refine v_iconst dX3_begin_26 (by decide) ?_
  refine v_put (x := 0) 3 13 rfl inX3 (by decide) tw273 (Or.inl rfl) rfl dX3_begin_27 (by rw [e12, e10, e8, e6, e4]; exact h1) rfl (fun _ => by first | exact Or.inl rfl | exact Or.inr rfl) ?_
  refine v_bM (fun M13 e14 => ?_)
  refine v_aload_n dX3_begin_30 rfl ?_
  refine v_iconst dX3_begin_31 (by decide) ?_
  refine v_put (x := (-1)) 3 14 rfl inX3 (by decide) tw274 (Or.inl rfl) rfl dX3_begin_32 (by rw [e14, e12, e10, e8, e6, e4]; exact h1) rfl id ?_
  refine v_bM (fun M15 e16 => ?_)
  refine v_aload_n dX3_begin_35 rfl ?_
  refine v_iconst dX3_begin_36 (by decide) ?_
  refine v_put (x := (-1)) 3 15 rfl inX3 (by decide) tw275 (Or.inl rfl) rfl dX3_begin_37 (by rw [e16, e14, e12, e10, e8, e6, e4]; exact h1) rfl id ?_
  refine v_bM (fun M17 e18 => ?_)
  refine v_aload_n dX3_begin_40 rfl ?_
  refine v_get (v := pA (M17.1 a0 2)) 3 2 rfl inX3 (by decide) tw258 dX3_begin_41 (by rw [e18, e16, e14, e12, e10, e8, e6, e4]; exact h1) rfl ?_
  refine v_if (fun h21 => ?_)
  refine v_cV (mi := mX3_begin) (c0 := 0) (c1 := 0) (As := []) (st := []) (kX7_clear d (by omega) _ _) rfl h21 rfl okX7_clear (Or.inl tw475) tw48 tw49 rfl (Nat.le_of_ble_eq_true rfl) dX3_begin_44 (fun r19 => []) (fun r19 => r19) (fun _ => rfl) (fun _ => rfl) (fun r19 h20 => ?_) rfl
  refine v_aload_n dX3_begin_47 rfl ?_
  refine v_if (fun h22 => ?_)
  refine v_get (v := pA (r19.1 a0 3)) 3 3 rfl inX3 (by decide) tw260 dX3_begin_48 h22 rfl ?_
  refine v_if (fun h25 => ?_)
  refine v_cV (mi := mX3_begin) (c0 := 0) (c1 := 0) (As := []) (st := []) (kX0_clear d (by omega) _ _) rfl h25 rfl okX0_clear (Or.inl tw476) tw477 tw478 rfl (Nat.le_of_ble_eq_true rfl) dX3_begin_51 (fun r23 => []) (fun r23 => r23) (fun _ => rfl) (fun _ => rfl) (fun r23 h24 => ?_) rfl
  refine v_aload_n dX3_begin_54 rfl ?_
  refine v_if (fun h26 => ?_)
  refine v_get (v := pA (r23.1 a0 4)) 3 4 rfl inX3 (by decide) tw262 dX3_begin_55 h26 rfl ?_
  refine v_if (fun h29 => ?_)
  refine v_cV (mi := mX3_begin) (c0 := 0) (c1 := 0) (As := []) (st := []) (kX1_clear d (by omega) _ _) rfl h29 rfl okX1_clear (Or.inl tw480) tw481 tw482 rfl (Nat.le_of_ble_eq_true rfl) dX3_begin_58 (fun r27 => []) (fun r27 => r27) (fun _ => rfl) (fun _ => rfl) (fun r27 h28 => ?_) rfl
  refine v_aload_n dX3_begin_61 rfl ?_
  refine v_if (fun h30 => ?_)
  refine v_get (v := pA (r27.1 a0 5)) 3 5 rfl inX3 (by decide) tw264 dX3_begin_62 h30 rfl ?_
  refine v_if (fun h33 => ?_)
  refine v_cV (mi := mX3_begin) (c0 := 0) (c1 := 0) (As := []) (st := []) (kX4_clear d (by omega) _ _) rfl h33 rfl okX4_clear (Or.inl tw484) tw181 tw182 rfl (Nat.le_of_ble_eq_true rfl) dX3_begin_65 (fun r31 => []) (fun r31 => r31) (fun _ => rfl) (fun _ => rfl) (fun r31 h32 => ?_) rfl
  exact v_return dX3_begin_68 rfl rfl
theorem chX3_byteAt_0 : (cX3_byteAt.data.toList.drop 0).take 16 = [42, 180, 0, 46, 198, 0, 33, 27, 155, 0, 29, 27, 42, 180, 0, 50] := by decide +kernel
theorem chX3_byteAt_1 : (cX3_byteAt.data.toList.drop 16).take 16 = [162, 0, 21, 27, 42, 180, 0, 46, 190, 162, 0, 12, 42, 180, 0, 46] := by decide +kernel
theorem chX3_byteAt_2 : (cX3_byteAt.data.toList.drop 32).take 16 = [27, 51, 167, 0, 4, 3, 172] := by decide +kernel
theorem dX3_byteAt_0 : decode cX3_byteAt 0 = .ok (.aload_n 0, 1) := oq_42 (byt chX3_byteAt_0 0 rfl)
theorem dX3_byteAt_1 : decode cX3_byteAt 1 = .ok (.getfield 46, 3) := oq_180 (byt chX3_byteAt_0 1 rfl) (byt chX3_byteAt_0 2 rfl) (byt chX3_byteAt_0 3 rfl) rfl
theorem dX3_byteAt_4 : decode cX3_byteAt 4 = .ok (.ifnull 33, 3) := oq_198 (byt chX3_byteAt_0 4 rfl) (byt chX3_byteAt_0 5 rfl) (byt chX3_byteAt_0 6 rfl) (by decide +kernel)
theorem dX3_byteAt_7 : decode cX3_byteAt 7 = .ok (.iload_n 1, 1) := oq_27 (byt chX3_byteAt_0 7 rfl)
theorem dX3_byteAt_8 : decode cX3_byteAt 8 = .ok (.ifCond .lt 29, 3) := oq_155 (byt chX3_byteAt_0 8 rfl) (byt chX3_byteAt_0 9 rfl) (byt chX3_byteAt_0 10 rfl) (by decide +kernel)
theorem dX3_byteAt_11 : decode cX3_byteAt 11 = .ok (.iload_n 1, 1) := oq_27 (byt chX3_byteAt_0 11 rfl)
theorem dX3_byteAt_12 : decode cX3_byteAt 12 = .ok (.aload_n 0, 1) := oq_42 (byt chX3_byteAt_0 12 rfl)
theorem dX3_byteAt_13 : decode cX3_byteAt 13 = .ok (.getfield 50, 3) := oq_180 (byt chX3_byteAt_0 13 rfl) (byt chX3_byteAt_0 14 rfl) (byt chX3_byteAt_0 15 rfl) rfl
theorem dX3_byteAt_16 : decode cX3_byteAt 16 = .ok (.if_icmp .ge 21, 3) := oq_162 (byt chX3_byteAt_1 0 rfl) (byt chX3_byteAt_1 1 rfl) (byt chX3_byteAt_1 2 rfl) (by decide +kernel)
theorem dX3_byteAt_19 : decode cX3_byteAt 19 = .ok (.iload_n 1, 1) := oq_27 (byt chX3_byteAt_1 3 rfl)
theorem dX3_byteAt_20 : decode cX3_byteAt 20 = .ok (.aload_n 0, 1) := oq_42 (byt chX3_byteAt_1 4 rfl)
theorem dX3_byteAt_21 : decode cX3_byteAt 21 = .ok (.getfield 46, 3) := oq_180 (byt chX3_byteAt_1 5 rfl) (byt chX3_byteAt_1 6 rfl) (byt chX3_byteAt_1 7 rfl) rfl
theorem dX3_byteAt_24 : decode cX3_byteAt 24 = .ok (.arraylength, 1) := oq_190 (byt chX3_byteAt_1 8 rfl)
theorem dX3_byteAt_25 : decode cX3_byteAt 25 = .ok (.if_icmp .ge 12, 3) := oq_162 (byt chX3_byteAt_1 9 rfl) (byt chX3_byteAt_1 10 rfl) (byt chX3_byteAt_1 11 rfl) (by decide +kernel)
theorem dX3_byteAt_28 : decode cX3_byteAt 28 = .ok (.aload_n 0, 1) := oq_42 (byt chX3_byteAt_1 12 rfl)
theorem dX3_byteAt_29 : decode cX3_byteAt 29 = .ok (.getfield 46, 3) := oq_180 (byt chX3_byteAt_1 13 rfl) (byt chX3_byteAt_1 14 rfl) (byt chX3_byteAt_1 15 rfl) rfl
theorem dX3_byteAt_32 : decode cX3_byteAt 32 = .ok (.iload_n 1, 1) := oq_27 (byt chX3_byteAt_2 0 rfl)
theorem dX3_byteAt_33 : decode cX3_byteAt 33 = .ok (.baload, 1) := oq_51 (byt chX3_byteAt_2 1 rfl)
theorem dX3_byteAt_34 : decode cX3_byteAt 34 = .ok (.goto 4, 3) := oq_167 (byt chX3_byteAt_2 2 rfl) (byt chX3_byteAt_2 3 rfl) (byt chX3_byteAt_2 4 rfl) (by decide +kernel)
theorem dX3_byteAt_37 : decode cX3_byteAt 37 = .ok (.iconst 0, 1) := oq_3 (byt chX3_byteAt_2 5 rfl)
theorem dX3_byteAt_38 : decode cX3_byteAt 38 = .ok (.ireturn, 1) := oq_172 (byt chX3_byteAt_2 6 rfl)
abbrev mX3_byteAt : MI := (yX3_byteAt, cX3_byteAt, 2, (some .int), noE)
theorem okX3_byteAt : cok mX3_byteAt 1 := ⟨tw492, tw7, by decide, by decide, by decide, by decide +kernel⟩
def fX3_byteAt (M : Mem) (a0 a1 : Int) : Option Int :=
  if M.2.1 a0 = 3 then if M.1 a0 6 = -1 then (some 0) else (if a1 < 0 then (some 0) else (if a1 < M.1 a0 7 then (if 11 ≤ M.2.1 (M.1 a0 6) then if a1 < M.2.2.1 (M.1 a0 6) then (if (M.2.1 (M.1 a0 6) = 11 ∨ M.2.1 (M.1 a0 6) = 13) ∧ (0 : Int) ≤ a1 ∧ a1 < M.2.2.1 (M.1 a0 6) then some (M.1 (M.1 a0 6) a1) else none) else (some 0) else none) else (some 0))) else none
set_option maxRecDepth 100000 in
set_option maxHeartbeats 4000000 in
theorem kX3_byteAt (d : Nat) (hd : 0 ≤ d) (M : Mem) (a0 a1 : Int) : Ct mX3_byteAt d 0 0 [pA a0, pI a1] M (dI M) (fX3_byteAt M a0 a1) := by
  refine Ct.of 0 (fun _ _ _ => trivial) (by decide +kernel) rfl ?_
  unfold fX3_byteAt
  refine v_aload_n dX3_byteAt_0 rfl ?_
  refine v_if (fun h1 => ?_)
  refine v_get (v := pA (M.1 a0 6)) 3 6 rfl inX3 (by decide) tw266 dX3_byteAt_1 h1 rfl ?_
  refine v_ifnull (tgt := 37) dX3_byteAt_4 (by decide) (fun c2 => ?_) (fun c2 => ?_)
  · refine v_iconst dX3_byteAt_37 (by decide) ?_
    exact v_ireturn dX3_byteAt_38 rfl rfl
  · refine v_iload_n dX3_byteAt_7 rfl ?_
    refine v_if_lt (tgt := 37) dX3_byteAt_8 (by decide) (fun c3 => ?_) (fun c3 => ?_)
    · refine v_iconst dX3_byteAt_37 (by decide) ?_
      exact v_ireturn dX3_byteAt_38 rfl rfl
    · refine v_iload_n dX3_byteAt_11 rfl ?_
      refine v_aload_n dX3_byteAt_12 rfl ?_
      refine v_get (v := pI (M.1 a0 7)) 3 7 rfl inX3 (by decide) tw267 dX3_byteAt_13 h1 rfl ?_
      refine v_icmp_ge (tgt := 37) dX3_byteAt_16 (by decide) (fun c4 => ?_) (fun c4 => ?_)
      · refine v_iload_n dX3_byteAt_19 rfl ?_
        refine v_aload_n dX3_byteAt_20 rfl ?_
        refine v_get (v := pA (M.1 a0 6)) 3 6 rfl inX3 (by decide) tw266 dX3_byteAt_21 h1 rfl ?_
        refine v_if (fun h5 => ?_)
        refine v_alen h5 dX3_byteAt_24 ?_
        refine v_icmp_ge (tgt := 37) dX3_byteAt_25 (by decide) (fun c6 => ?_) (fun c6 => ?_)
        · refine v_aload_n dX3_byteAt_28 rfl ?_
          refine v_get (v := pA (M.1 a0 6)) 3 6 rfl inX3 (by decide) tw266 dX3_byteAt_29 h1 rfl ?_
          refine v_iload_n dX3_byteAt_32 rfl ?_
          refine v_if (fun h7 => ?_)
          refine v_baload h7 dX3_byteAt_33 ?_
          refine v_goto (tgt := 38) dX3_byteAt_34 (by decide) ?_
          exact v_ireturn dX3_byteAt_38 rfl rfl
        · refine v_iconst dX3_byteAt_37 (by decide) ?_
          exact v_ireturn dX3_byteAt_38 rfl rfl
      · refine v_iconst dX3_byteAt_37 (by decide) ?_
        exact v_ireturn dX3_byteAt_38 rfl rfl
theorem chX3_isBlank_0 : (cX3_isBlank.data.toList.drop 0).take 16 = [26, 16, 10, 159, 0, 9, 26, 16, 32, 160, 0, 7, 4, 167, 0, 4] := by decide +kernel
theorem chX3_isBlank_1 : (cX3_isBlank.data.toList.drop 16).take 16 = [3, 172] := by decide +kernel
theorem dX3_isBlank_0 : decode cX3_isBlank 0 = .ok (.iload_n 0, 1) := oq_26 (byt chX3_isBlank_0 0 rfl)
theorem dX3_isBlank_1 : decode cX3_isBlank 1 = .ok (.bipush 10, 2) := oq_16 (byt chX3_isBlank_0 1 rfl) (byt chX3_isBlank_0 2 rfl) rfl
theorem dX3_isBlank_3 : decode cX3_isBlank 3 = .ok (.if_icmp .eq 9, 3) := oq_159 (byt chX3_isBlank_0 3 rfl) (byt chX3_isBlank_0 4 rfl) (byt chX3_isBlank_0 5 rfl) (by decide +kernel)
theorem dX3_isBlank_6 : decode cX3_isBlank 6 = .ok (.iload_n 0, 1) := oq_26 (byt chX3_isBlank_0 6 rfl)
theorem dX3_isBlank_7 : decode cX3_isBlank 7 = .ok (.bipush 32, 2) := oq_16 (byt chX3_isBlank_0 7 rfl) (byt chX3_isBlank_0 8 rfl) rfl
theorem dX3_isBlank_9 : decode cX3_isBlank 9 = .ok (.if_icmp .ne 7, 3) := oq_160 (byt chX3_isBlank_0 9 rfl) (byt chX3_isBlank_0 10 rfl) (byt chX3_isBlank_0 11 rfl) (by decide +kernel)
theorem dX3_isBlank_12 : decode cX3_isBlank 12 = .ok (.iconst 1, 1) := oq_4 (byt chX3_isBlank_0 12 rfl)
theorem dX3_isBlank_13 : decode cX3_isBlank 13 = .ok (.goto 4, 3) := oq_167 (byt chX3_isBlank_0 13 rfl) (byt chX3_isBlank_0 14 rfl) (byt chX3_isBlank_0 15 rfl) (by decide +kernel)
theorem dX3_isBlank_16 : decode cX3_isBlank 16 = .ok (.iconst 0, 1) := oq_3 (byt chX3_isBlank_1 0 rfl)
theorem dX3_isBlank_17 : decode cX3_isBlank 17 = .ok (.ireturn, 1) := oq_172 (byt chX3_isBlank_1 1 rfl)
abbrev mX3_isBlank : MI := (yX3_isBlank, cX3_isBlank, 1, (some .boolean), noE)
theorem okX3_isBlank : cok mX3_isBlank 1 := ⟨tw495, tw7, by decide, by decide, by decide, by decide +kernel⟩
def fX3_isBlank (M : Mem) (a0 : Int) : Option Int :=
  if a0 = 10 then (some 1) else (if a0 = 32 then (some 1) else (some 0))
set_option maxRecDepth 100000 in
set_option maxHeartbeats 4000000 in
theorem kX3_isBlank (d : Nat) (hd : 0 ≤ d) (M : Mem) (a0 : Int) : Ct mX3_isBlank d 0 0 [pI a0] M (dI M) (fX3_isBlank M a0) := by
  refine Ct.of 0 (fun _ _ _ => trivial) (by decide +kernel) rfl ?_
  unfold fX3_isBlank
  refine v_iload_n dX3_isBlank_0 rfl ?_
  refine v_bipush dX3_isBlank_1 (by decide) ?_
  refine v_icmp_eq (tgt := 12) dX3_isBlank_3 (by decide) (fun c1 => ?_) (fun c1 => ?_)
  · refine v_iconst dX3_isBlank_12 (by decide) ?_
    refine v_goto (tgt := 17) dX3_isBlank_13 (by decide) ?_
    exact v_breturn dX3_isBlank_17 rfl (by decide) rfl
  · refine v_iload_n dX3_isBlank_6 rfl ?_
    refine v_bipush dX3_isBlank_7 (by decide) ?_
    refine v_icmp_ne (tgt := 16) dX3_isBlank_9 (by decide) (fun c2 => ?_) (fun c2 => ?_)
    · refine v_iconst dX3_isBlank_12 (by decide) ?_
      refine v_goto (tgt := 17) dX3_isBlank_13 (by decide) ?_
      exact v_breturn dX3_isBlank_17 rfl (by decide) rfl
    · refine v_iconst dX3_isBlank_16 (by decide) ?_
      exact v_breturn dX3_isBlank_17 rfl (by decide) rfl
theorem chX3_isLetter_0 : (cX3_isLetter.data.toList.drop 0).take 16 = [26, 16, 97, 161, 0, 13, 26, 16, 122, 163, 0, 7, 4, 167, 0, 4] := by decide +kernel
theorem chX3_isLetter_1 : (cX3_isLetter.data.toList.drop 16).take 16 = [3, 172] := by decide +kernel
theorem dX3_isLetter_0 : decode cX3_isLetter 0 = .ok (.iload_n 0, 1) := oq_26 (byt chX3_isLetter_0 0 rfl)
theorem dX3_isLetter_1 : decode cX3_isLetter 1 = .ok (.bipush 97, 2) := oq_16 (byt chX3_isLetter_0 1 rfl) (byt chX3_isLetter_0 2 rfl) rfl
theorem dX3_isLetter_3 : decode cX3_isLetter 3 = .ok (.if_icmp .lt 13, 3) := oq_161 (byt chX3_isLetter_0 3 rfl) (byt chX3_isLetter_0 4 rfl) (byt chX3_isLetter_0 5 rfl) (by decide +kernel)
theorem dX3_isLetter_6 : decode cX3_isLetter 6 = .ok (.iload_n 0, 1) := oq_26 (byt chX3_isLetter_0 6 rfl)
theorem dX3_isLetter_7 : decode cX3_isLetter 7 = .ok (.bipush 122, 2) := oq_16 (byt chX3_isLetter_0 7 rfl) (byt chX3_isLetter_0 8 rfl) rfl
theorem dX3_isLetter_9 : decode cX3_isLetter 9 = .ok (.if_icmp .gt 7, 3) := oq_163 (byt chX3_isLetter_0 9 rfl) (byt chX3_isLetter_0 10 rfl) (byt chX3_isLetter_0 11 rfl) (by decide +kernel)
theorem dX3_isLetter_12 : decode cX3_isLetter 12 = .ok (.iconst 1, 1) := oq_4 (byt chX3_isLetter_0 12 rfl)
theorem dX3_isLetter_13 : decode cX3_isLetter 13 = .ok (.goto 4, 3) := oq_167 (byt chX3_isLetter_0 13 rfl) (byt chX3_isLetter_0 14 rfl) (byt chX3_isLetter_0 15 rfl) (by decide +kernel)
theorem dX3_isLetter_16 : decode cX3_isLetter 16 = .ok (.iconst 0, 1) := oq_3 (byt chX3_isLetter_1 0 rfl)
theorem dX3_isLetter_17 : decode cX3_isLetter 17 = .ok (.ireturn, 1) := oq_172 (byt chX3_isLetter_1 1 rfl)
abbrev mX3_isLetter : MI := (yX3_isLetter, cX3_isLetter, 1, (some .boolean), noE)
theorem okX3_isLetter : cok mX3_isLetter 1 := ⟨tw498, tw7, by decide, by decide, by decide, by decide +kernel⟩
def fX3_isLetter (M : Mem) (a0 : Int) : Option Int :=
  if a0 < 97 then (some 0) else (if 122 < a0 then (some 0) else (some 1))
set_option maxRecDepth 100000 in
set_option maxHeartbeats 4000000 in
theorem kX3_isLetter (d : Nat) (hd : 0 ≤ d) (M : Mem) (a0 : Int) : Ct mX3_isLetter d 0 0 [pI a0] M (dI M) (fX3_isLetter M a0) := by
  refine Ct.of 0 (fun _ _ _ => trivial) (by decide +kernel) rfl ?_
  unfold fX3_isLetter
  refine v_iload_n dX3_isLetter_0 rfl ?_
  refine v_bipush dX3_isLetter_1 (by decide) ?_
  refine v_icmp_lt (tgt := 16) dX3_isLetter_3 (by decide) (fun c1 => ?_) (fun c1 => ?_)
  · refine v_iconst dX3_isLetter_16 (by decide) ?_
    exact v_breturn dX3_isLetter_17 rfl (by decide) rfl
  · refine v_iload_n dX3_isLetter_6 rfl ?_
    refine v_bipush dX3_isLetter_7 (by decide) ?_
    refine v_icmp_gt (tgt := 16) dX3_isLetter_9 (by decide) (fun c2 => ?_) (fun c2 => ?_)
    · refine v_iconst dX3_isLetter_16 (by decide) ?_
      exact v_breturn dX3_isLetter_17 rfl (by decide) rfl
    · refine v_iconst dX3_isLetter_12 (by decide) ?_
      refine v_goto (tgt := 17) dX3_isLetter_13 (by decide) ?_
      exact v_breturn dX3_isLetter_17 rfl (by decide) rfl
theorem chX3_isDigit_0 : (cX3_isDigit.data.toList.drop 0).take 16 = [26, 16, 48, 161, 0, 13, 26, 16, 57, 163, 0, 7, 4, 167, 0, 4] := by decide +kernel
theorem chX3_isDigit_1 : (cX3_isDigit.data.toList.drop 16).take 16 = [3, 172] := by decide +kernel
theorem dX3_isDigit_0 : decode cX3_isDigit 0 = .ok (.iload_n 0, 1) := oq_26 (byt chX3_isDigit_0 0 rfl)
theorem dX3_isDigit_1 : decode cX3_isDigit 1 = .ok (.bipush 48, 2) := oq_16 (byt chX3_isDigit_0 1 rfl) (byt chX3_isDigit_0 2 rfl) rfl
theorem dX3_isDigit_3 : decode cX3_isDigit 3 = .ok (.if_icmp .lt 13, 3) := oq_161 (byt chX3_isDigit_0 3 rfl) (byt chX3_isDigit_0 4 rfl) (byt chX3_isDigit_0 5 rfl) (by decide +kernel)
theorem dX3_isDigit_6 : decode cX3_isDigit 6 = .ok (.iload_n 0, 1) := oq_26 (byt chX3_isDigit_0 6 rfl)
theorem dX3_isDigit_7 : decode cX3_isDigit 7 = .ok (.bipush 57, 2) := oq_16 (byt chX3_isDigit_0 7 rfl) (byt chX3_isDigit_0 8 rfl) rfl
theorem dX3_isDigit_9 : decode cX3_isDigit 9 = .ok (.if_icmp .gt 7, 3) := oq_163 (byt chX3_isDigit_0 9 rfl) (byt chX3_isDigit_0 10 rfl) (byt chX3_isDigit_0 11 rfl) (by decide +kernel)
theorem dX3_isDigit_12 : decode cX3_isDigit 12 = .ok (.iconst 1, 1) := oq_4 (byt chX3_isDigit_0 12 rfl)
theorem dX3_isDigit_13 : decode cX3_isDigit 13 = .ok (.goto 4, 3) := oq_167 (byt chX3_isDigit_0 13 rfl) (byt chX3_isDigit_0 14 rfl) (byt chX3_isDigit_0 15 rfl) (by decide +kernel)
theorem dX3_isDigit_16 : decode cX3_isDigit 16 = .ok (.iconst 0, 1) := oq_3 (byt chX3_isDigit_1 0 rfl)
theorem dX3_isDigit_17 : decode cX3_isDigit 17 = .ok (.ireturn, 1) := oq_172 (byt chX3_isDigit_1 1 rfl)
abbrev mX3_isDigit : MI := (yX3_isDigit, cX3_isDigit, 1, (some .boolean), noE)
theorem okX3_isDigit : cok mX3_isDigit 1 := ⟨tw501, tw7, by decide, by decide, by decide, by decide +kernel⟩
def fX3_isDigit (M : Mem) (a0 : Int) : Option Int :=
  if a0 < 48 then (some 0) else (if 57 < a0 then (some 0) else (some 1))
set_option maxRecDepth 100000 in
set_option maxHeartbeats 4000000 in
theorem kX3_isDigit (d : Nat) (hd : 0 ≤ d) (M : Mem) (a0 : Int) : Ct mX3_isDigit d 0 0 [pI a0] M (dI M) (fX3_isDigit M a0) := by
  refine Ct.of 0 (fun _ _ _ => trivial) (by decide +kernel) rfl ?_
  unfold fX3_isDigit
  refine v_iload_n dX3_isDigit_0 rfl ?_
  refine v_bipush dX3_isDigit_1 (by decide) ?_
  refine v_icmp_lt (tgt := 16) dX3_isDigit_3 (by decide) (fun c1 => ?_) (fun c1 => ?_)
  · refine v_iconst dX3_isDigit_16 (by decide) ?_
    exact v_breturn dX3_isDigit_17 rfl (by decide) rfl
  · refine v_iload_n dX3_isDigit_6 rfl ?_
    refine v_bipush dX3_isDigit_7 (by decide) ?_
    refine v_icmp_gt (tgt := 16) dX3_isDigit_9 (by decide) (fun c2 => ?_) (fun c2 => ?_)
    · refine v_iconst dX3_isDigit_16 (by decide) ?_
      exact v_breturn dX3_isDigit_17 rfl (by decide) rfl
    · refine v_iconst dX3_isDigit_12 (by decide) ?_
      refine v_goto (tgt := 17) dX3_isDigit_13 (by decide) ?_
      exact v_breturn dX3_isDigit_17 rfl (by decide) rfl
theorem chX3_stepNumber_0 : (cX3_stepNumber.data.toList.drop 0).take 16 = [42, 3, 181, 0, 62, 42, 180, 0, 53, 42, 180, 0, 50, 162, 0, 59] := by decide +kernel
theorem chX3_stepNumber_1 : (cX3_stepNumber.data.toList.drop 16).take 16 = [42, 42, 180, 0, 53, 182, 0, 195, 184, 0, 254, 153, 0, 45, 42, 17] := by decide +kernel
theorem chX3_stepNumber_2 : (cX3_stepNumber.data.toList.drop 32).take 16 = [3, 231, 16, 10, 42, 180, 0, 62, 104, 42, 42, 180, 0, 53, 182, 0] := by decide +kernel
theorem chX3_stepNumber_3 : (cX3_stepNumber.data.toList.drop 48).take 16 = [195, 96, 16, 48, 100, 184, 0, 79, 181, 0, 62, 42, 89, 180, 0, 53] := by decide +kernel
theorem chX3_stepNumber_4 : (cX3_stepNumber.data.toList.drop 64).take 16 = [4, 96, 181, 0, 53, 167, 255, 192, 42, 42, 180, 0, 53, 42, 180, 0] := by decide +kernel
theorem chX3_stepNumber_5 : (cX3_stepNumber.data.toList.drop 80).take 16 = [59, 100, 5, 163, 0, 7, 5, 167, 0, 4, 7, 181, 0, 56, 177] := by decide +kernel
theorem dX3_stepNumber_0 : decode cX3_stepNumber 0 = .ok (.aload_n 0, 1) := oq_42 (byt chX3_stepNumber_0 0 rfl)
theorem dX3_stepNumber_1 : decode cX3_stepNumber 1 = .ok (.iconst 0, 1) := oq_3 (byt chX3_stepNumber_0 1 rfl)
theorem dX3_stepNumber_2 : decode cX3_stepNumber 2 = .ok (.putfield 62, 3) := oq_181 (byt chX3_stepNumber_0 2 rfl) (byt chX3_stepNumber_0 3 rfl) (byt chX3_stepNumber_0 4 rfl) rfl
theorem dX3_stepNumber_5 : decode cX3_stepNumber 5 = .ok (.aload_n 0, 1) := oq_42 (byt chX3_stepNumber_0 5 rfl)
theorem dX3_stepNumber_6 : decode cX3_stepNumber 6 = .ok (.getfield 53, 3) := oq_180 (byt chX3_stepNumber_0 6 rfl) (byt chX3_stepNumber_0 7 rfl) (byt chX3_stepNumber_0 8 rfl) rfl
theorem dX3_stepNumber_9 : decode cX3_stepNumber 9 = .ok (.aload_n 0, 1) := oq_42 (byt chX3_stepNumber_0 9 rfl)
theorem dX3_stepNumber_10 : decode cX3_stepNumber 10 = .ok (.getfield 50, 3) := oq_180 (byt chX3_stepNumber_0 10 rfl) (byt chX3_stepNumber_0 11 rfl) (byt chX3_stepNumber_0 12 rfl) rfl
theorem dX3_stepNumber_13 : decode cX3_stepNumber 13 = .ok (.if_icmp .ge 59, 3) := oq_162 (byt chX3_stepNumber_0 13 rfl) (byt chX3_stepNumber_0 14 rfl) (byt chX3_stepNumber_0 15 rfl) (by decide +kernel)
theorem dX3_stepNumber_16 : decode cX3_stepNumber 16 = .ok (.aload_n 0, 1) := oq_42 (byt chX3_stepNumber_1 0 rfl)
theorem dX3_stepNumber_17 : decode cX3_stepNumber 17 = .ok (.aload_n 0, 1) := oq_42 (byt chX3_stepNumber_1 1 rfl)
theorem dX3_stepNumber_18 : decode cX3_stepNumber 18 = .ok (.getfield 53, 3) := oq_180 (byt chX3_stepNumber_1 2 rfl) (byt chX3_stepNumber_1 3 rfl) (byt chX3_stepNumber_1 4 rfl) rfl
theorem dX3_stepNumber_21 : decode cX3_stepNumber 21 = .ok (.invokevirtual 195, 3) := oq_182 (byt chX3_stepNumber_1 5 rfl) (byt chX3_stepNumber_1 6 rfl) (byt chX3_stepNumber_1 7 rfl) rfl
theorem dX3_stepNumber_24 : decode cX3_stepNumber 24 = .ok (.invokestatic 254, 3) := oq_184 (byt chX3_stepNumber_1 8 rfl) (byt chX3_stepNumber_1 9 rfl) (byt chX3_stepNumber_1 10 rfl) rfl
theorem dX3_stepNumber_27 : decode cX3_stepNumber 27 = .ok (.ifCond .eq 45, 3) := oq_153 (byt chX3_stepNumber_1 11 rfl) (byt chX3_stepNumber_1 12 rfl) (byt chX3_stepNumber_1 13 rfl) (by decide +kernel)
theorem dX3_stepNumber_30 : decode cX3_stepNumber 30 = .ok (.aload_n 0, 1) := oq_42 (byt chX3_stepNumber_1 14 rfl)
theorem dX3_stepNumber_31 : decode cX3_stepNumber 31 = .ok (.sipush 999, 3) := oq_17 (byt chX3_stepNumber_1 15 rfl) (byt chX3_stepNumber_2 0 rfl) (byt chX3_stepNumber_2 1 rfl) (by decide +kernel)
theorem dX3_stepNumber_34 : decode cX3_stepNumber 34 = .ok (.bipush 10, 2) := oq_16 (byt chX3_stepNumber_2 2 rfl) (byt chX3_stepNumber_2 3 rfl) rfl
theorem dX3_stepNumber_36 : decode cX3_stepNumber 36 = .ok (.aload_n 0, 1) := oq_42 (byt chX3_stepNumber_2 4 rfl)
theorem dX3_stepNumber_37 : decode cX3_stepNumber 37 = .ok (.getfield 62, 3) := oq_180 (byt chX3_stepNumber_2 5 rfl) (byt chX3_stepNumber_2 6 rfl) (byt chX3_stepNumber_2 7 rfl) rfl
theorem dX3_stepNumber_40 : decode cX3_stepNumber 40 = .ok (.imul, 1) := oq_104 (byt chX3_stepNumber_2 8 rfl)
theorem dX3_stepNumber_41 : decode cX3_stepNumber 41 = .ok (.aload_n 0, 1) := oq_42 (byt chX3_stepNumber_2 9 rfl)
theorem dX3_stepNumber_42 : decode cX3_stepNumber 42 = .ok (.aload_n 0, 1) := oq_42 (byt chX3_stepNumber_2 10 rfl)
theorem dX3_stepNumber_43 : decode cX3_stepNumber 43 = .ok (.getfield 53, 3) := oq_180 (byt chX3_stepNumber_2 11 rfl) (byt chX3_stepNumber_2 12 rfl) (byt chX3_stepNumber_2 13 rfl) rfl
theorem dX3_stepNumber_46 : decode cX3_stepNumber 46 = .ok (.invokevirtual 195, 3) := oq_182 (byt chX3_stepNumber_2 14 rfl) (byt chX3_stepNumber_2 15 rfl) (byt chX3_stepNumber_3 0 rfl) rfl
theorem dX3_stepNumber_49 : decode cX3_stepNumber 49 = .ok (.iadd, 1) := oq_96 (byt chX3_stepNumber_3 1 rfl)
theorem dX3_stepNumber_50 : decode cX3_stepNumber 50 = .ok (.bipush 48, 2) := oq_16 (byt chX3_stepNumber_3 2 rfl) (byt chX3_stepNumber_3 3 rfl) rfl
theorem dX3_stepNumber_52 : decode cX3_stepNumber 52 = .ok (.isub, 1) := oq_100 (byt chX3_stepNumber_3 4 rfl)
theorem dX3_stepNumber_53 : decode cX3_stepNumber 53 = .ok (.invokestatic 79, 3) := oq_184 (byt chX3_stepNumber_3 5 rfl) (byt chX3_stepNumber_3 6 rfl) (byt chX3_stepNumber_3 7 rfl) rfl
theorem dX3_stepNumber_56 : decode cX3_stepNumber 56 = .ok (.putfield 62, 3) := oq_181 (byt chX3_stepNumber_3 8 rfl) (byt chX3_stepNumber_3 9 rfl) (byt chX3_stepNumber_3 10 rfl) rfl
theorem dX3_stepNumber_59 : decode cX3_stepNumber 59 = .ok (.aload_n 0, 1) := oq_42 (byt chX3_stepNumber_3 11 rfl)
theorem dX3_stepNumber_60 : decode cX3_stepNumber 60 = .ok (.dup, 1) := oq_89 (byt chX3_stepNumber_3 12 rfl)
theorem dX3_stepNumber_61 : decode cX3_stepNumber 61 = .ok (.getfield 53, 3) := oq_180 (byt chX3_stepNumber_3 13 rfl) (byt chX3_stepNumber_3 14 rfl) (byt chX3_stepNumber_3 15 rfl) rfl
theorem dX3_stepNumber_64 : decode cX3_stepNumber 64 = .ok (.iconst 1, 1) := oq_4 (byt chX3_stepNumber_4 0 rfl)
theorem dX3_stepNumber_65 : decode cX3_stepNumber 65 = .ok (.iadd, 1) := oq_96 (byt chX3_stepNumber_4 1 rfl)
theorem dX3_stepNumber_66 : decode cX3_stepNumber 66 = .ok (.putfield 53, 3) := oq_181 (byt chX3_stepNumber_4 2 rfl) (byt chX3_stepNumber_4 3 rfl) (byt chX3_stepNumber_4 4 rfl) rfl
theorem dX3_stepNumber_69 : decode cX3_stepNumber 69 = .ok (.goto (-64), 3) := oq_167 (byt chX3_stepNumber_4 5 rfl) (byt chX3_stepNumber_4 6 rfl) (byt chX3_stepNumber_4 7 rfl) (by decide +kernel)
theorem dX3_stepNumber_72 : decode cX3_stepNumber 72 = .ok (.aload_n 0, 1) := oq_42 (byt chX3_stepNumber_4 8 rfl)
theorem dX3_stepNumber_73 : decode cX3_stepNumber 73 = .ok (.aload_n 0, 1) := oq_42 (byt chX3_stepNumber_4 9 rfl)
theorem dX3_stepNumber_74 : decode cX3_stepNumber 74 = .ok (.getfield 53, 3) := oq_180 (byt chX3_stepNumber_4 10 rfl) (byt chX3_stepNumber_4 11 rfl) (byt chX3_stepNumber_4 12 rfl) rfl
theorem dX3_stepNumber_77 : decode cX3_stepNumber 77 = .ok (.aload_n 0, 1) := oq_42 (byt chX3_stepNumber_4 13 rfl)
theorem dX3_stepNumber_78 : decode cX3_stepNumber 78 = .ok (.getfield 59, 3) := oq_180 (byt chX3_stepNumber_4 14 rfl) (byt chX3_stepNumber_4 15 rfl) (byt chX3_stepNumber_5 0 rfl) rfl
theorem dX3_stepNumber_81 : decode cX3_stepNumber 81 = .ok (.isub, 1) := oq_100 (byt chX3_stepNumber_5 1 rfl)
theorem dX3_stepNumber_82 : decode cX3_stepNumber 82 = .ok (.iconst 2, 1) := oq_5 (byt chX3_stepNumber_5 2 rfl)
theorem dX3_stepNumber_83 : decode cX3_stepNumber 83 = .ok (.if_icmp .gt 7, 3) := oq_163 (byt chX3_stepNumber_5 3 rfl) (byt chX3_stepNumber_5 4 rfl) (byt chX3_stepNumber_5 5 rfl) (by decide +kernel)
theorem dX3_stepNumber_86 : decode cX3_stepNumber 86 = .ok (.iconst 2, 1) := oq_5 (byt chX3_stepNumber_5 6 rfl)
theorem dX3_stepNumber_87 : decode cX3_stepNumber 87 = .ok (.goto 4, 3) := oq_167 (byt chX3_stepNumber_5 7 rfl) (byt chX3_stepNumber_5 8 rfl) (byt chX3_stepNumber_5 9 rfl) (by decide +kernel)
theorem dX3_stepNumber_90 : decode cX3_stepNumber 90 = .ok (.iconst 4, 1) := oq_7 (byt chX3_stepNumber_5 10 rfl)
theorem dX3_stepNumber_91 : decode cX3_stepNumber 91 = .ok (.putfield 56, 3) := oq_181 (byt chX3_stepNumber_5 11 rfl) (byt chX3_stepNumber_5 12 rfl) (byt chX3_stepNumber_5 13 rfl) rfl
theorem dX3_stepNumber_94 : decode cX3_stepNumber 94 = .ok (.return_, 1) := oq_177 (byt chX3_stepNumber_5 14 rfl)
abbrev mX3_stepNumber : MI := (yX3_stepNumber, cX3_stepNumber, 1, none, noE)
theorem okX3_stepNumber : cok mX3_stepNumber 0 := ⟨tw505, tw7, by decide, by decide, by decide, by decide +kernel⟩
def fX3_stepNumber (M : Mem) (a0 : Int) : Option Mem :=
  if M.2.1 a0 = 3 then bM (mst M a0 11 0) fun M2 => iterC (fun (rec4 : Mem → Option Mem) (s5 : Mem) => if s5.2.1 a0 = 3 then jn (fun (t8 : Unit) => jn (fun (t10 : Int) => bM (mst s5 a0 9 t10) fun M11 => some M11) (fun (j9 : Int → Option Mem) => if 2 < w32 ((s5.1 a0 8) - (s5.1 a0 10)) then (j9 4) else (j9 2))) (fun (j7 : Unit → Option Mem) => if s5.1 a0 8 < s5.1 a0 7 then ((fX3_byteAt s5 a0 (s5.1 a0 8)).bind fun r15 => (fX3_isDigit s5 r15).bind fun r17 => if r17 = 0 then (j7 ()) else ((fX3_byteAt s5 a0 (s5.1 a0 8)).bind fun r20 => bM (mst s5 a0 11 (imin 999 (w32 ((w32 ((w32 (10 * (s5.1 a0 11))) + r20)) - 48)))) fun M22 => bM (mst M22 a0 8 (w32 ((M22.1 a0 8) + 1))) fun M24 => rec4 M24)) else (j7 ())) else none) BIG M2 else none
set_option maxRecDepth 100000 in
set_option maxHeartbeats 4000000 in
theorem kX3_stepNumber (d : Nat) (hd : 1 ≤ d) (M : Mem) (a0 : Int) : Ct mX3_stepNumber d 0 0 [pA a0] M dV (fX3_stepNumber M a0) := by
  obtain ⟨d, rfl⟩ : ∃ k, d = k + 1 := ⟨d - 1, by omega⟩
  refine Ct.of 0 (fun _ _ _ => trivial) (by decide +kernel) rfl ?_
  unfold fX3_stepNumber
  refine v_aload_n dX3_stepNumber_0 rfl ?_
  refine v_iconst dX3_stepNumber_1 (by decide) ?_
  refine v_if (fun h1 => ?_)
  refine v_put (x := 0) 3 11 rfl inX3 (by decide) tw271 (Or.inl rfl) rfl dX3_stepNumber_2 h1 rfl id ?_
  refine v_bM (fun M2 e3 => ?_)
  refine v_loop (fun (s5 : Mem) => [some (pA a0)]) (fun (s5 : Mem) => s5) (s0 := M2) ?_
  intro rec4 hrec4 s5
  refine v_aload_n dX3_stepNumber_5 rfl ?_
  refine v_if (fun h6 => ?_)
  refine v_get (v := pI (s5.1 a0 8)) 3 8 rfl inX3 (by decide) tw268 dX3_stepNumber_6 h6 rfl ?_
  refine v_aload_n dX3_stepNumber_9 rfl ?_
  refine v_get (v := pI (s5.1 a0 7)) 3 7 rfl inX3 (by decide) tw267 dX3_stepNumber_10 h6 rfl ?_
  refine v_join (fun (t8 : Unit) => [some (pA a0)]) (fun (t8 : Unit) => []) (fun (t8 : Unit) => s5) 72 (fun t8 => ?_) (fun j7 hj7 => ?_)
  · refine v_aload_n dX3_stepNumber_72 rfl ?_
    refine v_aload_n dX3_stepNumber_73 rfl ?_
    refine v_get (v := pI (s5.1 a0 8)) 3 8 rfl inX3 (by decide) tw268 dX3_stepNumber_74 h6 rfl ?_
    refine v_aload_n dX3_stepNumber_77 rfl ?_
    refine v_get (v := pI (s5.1 a0 10)) 3 10 rfl inX3 (by decide) tw270 dX3_stepNumber_78 h6 rfl ?_
    refine v_isub dX3_stepNumber_81 ?_
    refine v_iconst dX3_stepNumber_82 (by decide) ?_
    refine v_join (fun (t10 : Int) => [none]) (fun (t10 : Int) => [pI t10, pA a0]) (fun (t10 : Int) => s5) 91 (fun t10 => ?_) (fun j9 hj9 => ?_)
    · refine v_put (x := t10) 3 9 rfl inX3 (by decide) tw269 (Or.inl rfl) rfl dX3_stepNumber_91 h6 rfl id ?_
      refine v_bM (fun M11 e12 => ?_)
      exact v_return dX3_stepNumber_94 rfl rfl
    · refine v_icmp_gt (tgt := 90) dX3_stepNumber_83 (by decide) (fun c13 => ?_) (fun c13 => ?_)
      · refine v_iconst dX3_stepNumber_90 (by decide) ?_
        exact v_drop [none] (ls_n ls_e) (hj9 4)
      · refine v_iconst dX3_stepNumber_86 (by decide) ?_
        refine v_goto (tgt := 91) dX3_stepNumber_87 (by decide) ?_
        exact v_drop [none] (ls_n ls_e) (hj9 2)
  · refine v_icmp_ge (tgt := 72) dX3_stepNumber_13 (by decide) (fun c14 => ?_) (fun c14 => ?_)
    · refine v_aload_n dX3_stepNumber_16 rfl ?_
      refine v_aload_n dX3_stepNumber_17 rfl ?_
      refine v_get (v := pI (s5.1 a0 8)) 3 8 rfl inX3 (by decide) tw268 dX3_stepNumber_18 h6 rfl ?_
      refine v_cV (mi := mX3_stepNumber) (c0 := 0) (c1 := 0) (As := [pI (s5.1 a0 8)]) (st := []) (kX3_byteAt d (by omega) _ _ _) rfl h6 rfl okX3_byteAt (Or.inl tw489) tw491 tp2 rfl (Nat.le_of_ble_eq_true rfl) dX3_stepNumber_21 (fun r15 => [pI r15]) (fun r15 => s5) (fun _ => rfl) (fun _ => rfl) (fun r15 h16 => ?_) rfl
      refine v_cS (mi := mX3_stepNumber) (c0 := 0) (c1 := 0) (As := [pI r15]) (st := []) (kX3_isDigit d (by omega) _ _) okX3_isDigit (Or.inl tw499) tw500 rfl (Nat.le_of_ble_eq_true rfl) dX3_stepNumber_24 (fun r17 => [pI r17]) (fun r17 => s5) (fun _ => rfl) (fun _ => rfl) (fun r17 h18 => ?_) rfl
      refine v_if_eq (tgt := 72) dX3_stepNumber_27 (by decide) (fun c19 => ?_) (fun c19 => ?_)
      · exact hj7 ()
      · refine v_aload_n dX3_stepNumber_30 rfl ?_
        refine v_sipush dX3_stepNumber_31 (by decide) ?_
        refine v_bipush dX3_stepNumber_34 (by decide) ?_
        refine v_aload_n dX3_stepNumber_36 rfl ?_
        refine v_get (v := pI (s5.1 a0 11)) 3 11 rfl inX3 (by decide) tw271 dX3_stepNumber_37 h6 rfl ?_
        refine v_imul dX3_stepNumber_40 ?_
        refine v_aload_n dX3_stepNumber_41 rfl ?_
        refine v_aload_n dX3_stepNumber_42 rfl ?_
        refine v_get (v := pI (s5.1 a0 8)) 3 8 rfl inX3 (by decide) tw268 dX3_stepNumber_43 h6 rfl ?_
        refine v_cV (mi := mX3_stepNumber) (c0 := 0) (c1 := 0) (As := [pI (s5.1 a0 8)]) (st := [pI (w32 (10 * (s5.1 a0 11))), pI 999, pA a0]) (kX3_byteAt d (by omega) _ _ _) rfl h6 rfl okX3_byteAt (Or.inl tw489) tw491 tp2 rfl (Nat.le_of_ble_eq_true rfl) dX3_stepNumber_46 (fun r20 => [pI r20, pI (w32 (10 * (s5.1 a0 11))), pI 999, pA a0]) (fun r20 => s5) (fun _ => rfl) (fun _ => rfl) (fun r20 h21 => ?_) rfl
        refine v_iadd dX3_stepNumber_49 ?_
        refine v_bipush dX3_stepNumber_50 (by decide) ?_
        refine v_isub dX3_stepNumber_52 ?_
        refine v_mmin (mi := mX3_stepNumber) tw468 tw469 tw12 tw470 (Nat.le_of_ble_eq_true rfl) dX3_stepNumber_53 ?_
        refine v_put (x := imin 999 (w32 ((w32 ((w32 (10 * (s5.1 a0 11))) + r20)) - 48))) 3 11 rfl inX3 (by decide) tw271 (Or.inl rfl) rfl dX3_stepNumber_56 h6 rfl id ?_
        refine v_bM (fun M22 e23 => ?_)
        refine v_aload_n dX3_stepNumber_59 rfl ?_
        refine v_dup dX3_stepNumber_60 (by intro z hz; cases hz) ?_
        refine v_get (v := pI (M22.1 a0 8)) 3 8 rfl inX3 (by decide) tw268 dX3_stepNumber_61 (by rw [e23]; exact h6) rfl ?_
        refine v_iconst dX3_stepNumber_64 (by decide) ?_
        refine v_iadd dX3_stepNumber_65 ?_
        refine v_put (x := w32 ((M22.1 a0 8) + 1)) 3 8 rfl inX3 (by decide) tw268 (Or.inl rfl) rfl dX3_stepNumber_66 (by rw [e23]; exact h6) rfl id ?_
        refine v_bM (fun M24 e25 => ?_)
        refine v_goto (tgt := 5) dX3_stepNumber_69 (by decide) ?_
        exact hrec4 M24
    · exact hj7 ()
theorem chX3_step_0 : (cX3_step.data.toList.drop 0).take 16 = [42, 180, 0, 53, 42, 180, 0, 50, 162, 0, 30, 42, 42, 180, 0, 53] := by decide +kernel
theorem chX3_step_1 : (cX3_step.data.toList.drop 16).take 16 = [182, 0, 195, 184, 0, 248, 153, 0, 16, 42, 89, 180, 0, 53, 4, 96] := by decide +kernel
theorem chX3_step_2 : (cX3_step.data.toList.drop 32).take 16 = [181, 0, 53, 167, 255, 221, 42, 42, 180, 0, 53, 181, 0, 59, 42, 42] := by decide +kernel
theorem chX3_step_3 : (cX3_step.data.toList.drop 48).take 16 = [180, 0, 53, 182, 0, 195, 60, 42, 180, 0, 53, 42, 180, 0, 50, 161] := by decide +kernel
theorem chX3_step_4 : (cX3_step.data.toList.drop 64).take 16 = [0, 11, 42, 3, 181, 0, 56, 167, 0, 96, 27, 184, 0, 251, 153, 0] := by decide +kernel
theorem chX3_step_5 : (cX3_step.data.toList.drop 80).take 16 = [46, 42, 4, 181, 0, 56, 42, 180, 0, 53, 42, 180, 0, 50, 162, 0] := by decide +kernel
theorem chX3_step_6 : (cX3_step.data.toList.drop 96).take 16 = [73, 42, 42, 180, 0, 53, 182, 0, 195, 184, 0, 251, 153, 0, 59, 42] := by decide +kernel
theorem chX3_step_7 : (cX3_step.data.toList.drop 112).take 16 = [89, 180, 0, 53, 4, 96, 181, 0, 53, 167, 255, 221, 27, 184, 0, 254] := by decide +kernel
theorem chX3_step_8 : (cX3_step.data.toList.drop 128).take 16 = [153, 0, 10, 42, 182, 1, 1, 167, 0, 32, 27, 16, 59, 160, 0, 21] := by decide +kernel
theorem chX3_step_9 : (cX3_step.data.toList.drop 144).take 16 = [42, 6, 181, 0, 56, 42, 89, 180, 0, 53, 4, 96, 181, 0, 53, 167] := by decide +kernel
theorem chX3_step_10 : (cX3_step.data.toList.drop 160).take 16 = [0, 8, 42, 7, 181, 0, 56, 177] := by decide +kernel
theorem dX3_step_0 : decode cX3_step 0 = .ok (.aload_n 0, 1) := oq_42 (byt chX3_step_0 0 rfl)
theorem dX3_step_1 : decode cX3_step 1 = .ok (.getfield 53, 3) := oq_180 (byt chX3_step_0 1 rfl) (byt chX3_step_0 2 rfl) (byt chX3_step_0 3 rfl) rfl
theorem dX3_step_4 : decode cX3_step 4 = .ok (.aload_n 0, 1) := oq_42 (byt chX3_step_0 4 rfl)
theorem dX3_step_5 : decode cX3_step 5 = .ok (.getfield 50, 3) := oq_180 (byt chX3_step_0 5 rfl) (byt chX3_step_0 6 rfl) (byt chX3_step_0 7 rfl) rfl
theorem dX3_step_8 : decode cX3_step 8 = .ok (.if_icmp .ge 30, 3) := oq_162 (byt chX3_step_0 8 rfl) (byt chX3_step_0 9 rfl) (byt chX3_step_0 10 rfl) (by decide +kernel)
theorem dX3_step_11 : decode cX3_step 11 = .ok (.aload_n 0, 1) := oq_42 (byt chX3_step_0 11 rfl)
theorem dX3_step_12 : decode cX3_step 12 = .ok (.aload_n 0, 1) := oq_42 (byt chX3_step_0 12 rfl)
theorem dX3_step_13 : decode cX3_step 13 = .ok (.getfield 53, 3) := oq_180 (byt chX3_step_0 13 rfl) (byt chX3_step_0 14 rfl) (byt chX3_step_0 15 rfl) rfl
theorem dX3_step_16 : decode cX3_step 16 = .ok (.invokevirtual 195, 3) := oq_182 (byt chX3_step_1 0 rfl) (byt chX3_step_1 1 rfl) (byt chX3_step_1 2 rfl) rfl
theorem dX3_step_19 : decode cX3_step 19 = .ok (.invokestatic 248, 3) := oq_184 (byt chX3_step_1 3 rfl) (byt chX3_step_1 4 rfl) (byt chX3_step_1 5 rfl) rfl
theorem dX3_step_22 : decode cX3_step 22 = .ok (.ifCond .eq 16, 3) := oq_153 (byt chX3_step_1 6 rfl) (byt chX3_step_1 7 rfl) (byt chX3_step_1 8 rfl) (by decide +kernel)
theorem dX3_step_25 : decode cX3_step 25 = .ok (.aload_n 0, 1) := oq_42 (byt chX3_step_1 9 rfl)
theorem dX3_step_26 : decode cX3_step 26 = .ok (.dup, 1) := oq_89 (byt chX3_step_1 10 rfl)
theorem dX3_step_27 : decode cX3_step 27 = .ok (.getfield 53, 3) := oq_180 (byt chX3_step_1 11 rfl) (byt chX3_step_1 12 rfl) (byt chX3_step_1 13 rfl) rfl
theorem dX3_step_30 : decode cX3_step 30 = .ok (.iconst 1, 1) := oq_4 (byt chX3_step_1 14 rfl)
theorem dX3_step_31 : decode cX3_step 31 = .ok (.iadd, 1) := oq_96 (byt chX3_step_1 15 rfl)
theorem dX3_step_32 : decode cX3_step 32 = .ok (.putfield 53, 3) := oq_181 (byt chX3_step_2 0 rfl) (byt chX3_step_2 1 rfl) (byt chX3_step_2 2 rfl) rfl
theorem dX3_step_35 : decode cX3_step 35 = .ok (.goto (-35), 3) := oq_167 (byt chX3_step_2 3 rfl) (byt chX3_step_2 4 rfl) (byt chX3_step_2 5 rfl) (by decide +kernel)
theorem dX3_step_38 : decode cX3_step 38 = .ok (.aload_n 0, 1) := oq_42 (byt chX3_step_2 6 rfl)
theorem dX3_step_39 : decode cX3_step 39 = .ok (.aload_n 0, 1) := oq_42 (byt chX3_step_2 7 rfl)
theorem dX3_step_40 : decode cX3_step 40 = .ok (.getfield 53, 3) := oq_180 (byt chX3_step_2 8 rfl) (byt chX3_step_2 9 rfl) (byt chX3_step_2 10 rfl) rfl
theorem dX3_step_43 : decode cX3_step 43 = .ok (.putfield 59, 3) := oq_181 (byt chX3_step_2 11 rfl) (byt chX3_step_2 12 rfl) (byt chX3_step_2 13 rfl) rfl
theorem dX3_step_46 : decode cX3_step 46 = .ok (.aload_n 0, 1) := oq_42 (byt chX3_step_2 14 rfl)
theorem dX3_step_47 : decode cX3_step 47 = .ok (.aload_n 0, 1) := oq_42 (byt chX3_step_2 15 rfl)
theorem dX3_step_48 : decode cX3_step 48 = .ok (.getfield 53, 3) := oq_180 (byt chX3_step_3 0 rfl) (byt chX3_step_3 1 rfl) (byt chX3_step_3 2 rfl) rfl
theorem dX3_step_51 : decode cX3_step 51 = .ok (.invokevirtual 195, 3) := oq_182 (byt chX3_step_3 3 rfl) (byt chX3_step_3 4 rfl) (byt chX3_step_3 5 rfl) rfl
theorem dX3_step_54 : decode cX3_step 54 = .ok (.istore_n 1, 1) := oq_60 (byt chX3_step_3 6 rfl)
theorem dX3_step_55 : decode cX3_step 55 = .ok (.aload_n 0, 1) := oq_42 (byt chX3_step_3 7 rfl)
theorem dX3_step_56 : decode cX3_step 56 = .ok (.getfield 53, 3) := oq_180 (byt chX3_step_3 8 rfl) (byt chX3_step_3 9 rfl) (byt chX3_step_3 10 rfl) rfl
theorem dX3_step_59 : decode cX3_step 59 = .ok (.aload_n 0, 1) := oq_42 (byt chX3_step_3 11 rfl)
theorem dX3_step_60 : decode cX3_step 60 = .ok (.getfield 50, 3) := oq_180 (byt chX3_step_3 12 rfl) (byt chX3_step_3 13 rfl) (byt chX3_step_3 14 rfl) rfl
theorem dX3_step_63 : decode cX3_step 63 = .ok (.if_icmp .lt 11, 3) := oq_161 (byt chX3_step_3 15 rfl) (byt chX3_step_4 0 rfl) (byt chX3_step_4 1 rfl) (by decide +kernel)
theorem dX3_step_66 : decode cX3_step 66 = .ok (.aload_n 0, 1) := oq_42 (byt chX3_step_4 2 rfl)
theorem dX3_step_67 : decode cX3_step 67 = .ok (.iconst 0, 1) := oq_3 (byt chX3_step_4 3 rfl)
theorem dX3_step_68 : decode cX3_step 68 = .ok (.putfield 56, 3) := oq_181 (byt chX3_step_4 4 rfl) (byt chX3_step_4 5 rfl) (byt chX3_step_4 6 rfl) rfl
theorem dX3_step_71 : decode cX3_step 71 = .ok (.goto 96, 3) := oq_167 (byt chX3_step_4 7 rfl) (byt chX3_step_4 8 rfl) (byt chX3_step_4 9 rfl) (by decide +kernel)
theorem dX3_step_74 : decode cX3_step 74 = .ok (.iload_n 1, 1) := oq_27 (byt chX3_step_4 10 rfl)
theorem dX3_step_75 : decode cX3_step 75 = .ok (.invokestatic 251, 3) := oq_184 (byt chX3_step_4 11 rfl) (byt chX3_step_4 12 rfl) (byt chX3_step_4 13 rfl) rfl
theorem dX3_step_78 : decode cX3_step 78 = .ok (.ifCond .eq 46, 3) := oq_153 (byt chX3_step_4 14 rfl) (byt chX3_step_4 15 rfl) (byt chX3_step_5 0 rfl) (by decide +kernel)
theorem dX3_step_81 : decode cX3_step 81 = .ok (.aload_n 0, 1) := oq_42 (byt chX3_step_5 1 rfl)
theorem dX3_step_82 : decode cX3_step 82 = .ok (.iconst 1, 1) := oq_4 (byt chX3_step_5 2 rfl)
theorem dX3_step_83 : decode cX3_step 83 = .ok (.putfield 56, 3) := oq_181 (byt chX3_step_5 3 rfl) (byt chX3_step_5 4 rfl) (byt chX3_step_5 5 rfl) rfl
theorem dX3_step_86 : decode cX3_step 86 = .ok (.aload_n 0, 1) := oq_42 (byt chX3_step_5 6 rfl)
theorem dX3_step_87 : decode cX3_step 87 = .ok (.getfield 53, 3) := oq_180 (byt chX3_step_5 7 rfl) (byt chX3_step_5 8 rfl) (byt chX3_step_5 9 rfl) rfl
theorem dX3_step_90 : decode cX3_step 90 = .ok (.aload_n 0, 1) := oq_42 (byt chX3_step_5 10 rfl)
theorem dX3_step_91 : decode cX3_step 91 = .ok (.getfield 50, 3) := oq_180 (byt chX3_step_5 11 rfl) (byt chX3_step_5 12 rfl) (byt chX3_step_5 13 rfl) rfl
theorem dX3_step_94 : decode cX3_step 94 = .ok (.if_icmp .ge 73, 3) := oq_162 (byt chX3_step_5 14 rfl) (byt chX3_step_5 15 rfl) (byt chX3_step_6 0 rfl) (by decide +kernel)
theorem dX3_step_97 : decode cX3_step 97 = .ok (.aload_n 0, 1) := oq_42 (byt chX3_step_6 1 rfl)
theorem dX3_step_98 : decode cX3_step 98 = .ok (.aload_n 0, 1) := oq_42 (byt chX3_step_6 2 rfl)
theorem dX3_step_99 : decode cX3_step 99 = .ok (.getfield 53, 3) := oq_180 (byt chX3_step_6 3 rfl) (byt chX3_step_6 4 rfl) (byt chX3_step_6 5 rfl) rfl
theorem dX3_step_102 : decode cX3_step 102 = .ok (.invokevirtual 195, 3) := oq_182 (byt chX3_step_6 6 rfl) (byt chX3_step_6 7 rfl) (byt chX3_step_6 8 rfl) rfl
theorem dX3_step_105 : decode cX3_step 105 = .ok (.invokestatic 251, 3) := oq_184 (byt chX3_step_6 9 rfl) (byt chX3_step_6 10 rfl) (byt chX3_step_6 11 rfl) rfl
theorem dX3_step_108 : decode cX3_step 108 = .ok (.ifCond .eq 59, 3) := oq_153 (byt chX3_step_6 12 rfl) (byt chX3_step_6 13 rfl) (byt chX3_step_6 14 rfl) (by decide +kernel)
theorem dX3_step_111 : decode cX3_step 111 = .ok (.aload_n 0, 1) := oq_42 (byt chX3_step_6 15 rfl)
theorem dX3_step_112 : decode cX3_step 112 = .ok (.dup, 1) := oq_89 (byt chX3_step_7 0 rfl)
theorem dX3_step_113 : decode cX3_step 113 = .ok (.getfield 53, 3) := oq_180 (byt chX3_step_7 1 rfl) (byt chX3_step_7 2 rfl) (byt chX3_step_7 3 rfl) rfl
theorem dX3_step_116 : decode cX3_step 116 = .ok (.iconst 1, 1) := oq_4 (byt chX3_step_7 4 rfl)
theorem dX3_step_117 : decode cX3_step 117 = .ok (.iadd, 1) := oq_96 (byt chX3_step_7 5 rfl)
theorem dX3_step_118 : decode cX3_step 118 = .ok (.putfield 53, 3) := oq_181 (byt chX3_step_7 6 rfl) (byt chX3_step_7 7 rfl) (byt chX3_step_7 8 rfl) rfl
theorem dX3_step_121 : decode cX3_step 121 = .ok (.goto (-35), 3) := oq_167 (byt chX3_step_7 9 rfl) (byt chX3_step_7 10 rfl) (byt chX3_step_7 11 rfl) (by decide +kernel)
theorem dX3_step_124 : decode cX3_step 124 = .ok (.iload_n 1, 1) := oq_27 (byt chX3_step_7 12 rfl)
theorem dX3_step_125 : decode cX3_step 125 = .ok (.invokestatic 254, 3) := oq_184 (byt chX3_step_7 13 rfl) (byt chX3_step_7 14 rfl) (byt chX3_step_7 15 rfl) rfl
theorem dX3_step_128 : decode cX3_step 128 = .ok (.ifCond .eq 10, 3) := oq_153 (byt chX3_step_8 0 rfl) (byt chX3_step_8 1 rfl) (byt chX3_step_8 2 rfl) (by decide +kernel)
theorem dX3_step_131 : decode cX3_step 131 = .ok (.aload_n 0, 1) := oq_42 (byt chX3_step_8 3 rfl)
theorem dX3_step_132 : decode cX3_step 132 = .ok (.invokevirtual 257, 3) := oq_182 (byt chX3_step_8 4 rfl) (byt chX3_step_8 5 rfl) (byt chX3_step_8 6 rfl) rfl
theorem dX3_step_135 : decode cX3_step 135 = .ok (.goto 32, 3) := oq_167 (byt chX3_step_8 7 rfl) (byt chX3_step_8 8 rfl) (byt chX3_step_8 9 rfl) (by decide +kernel)
theorem dX3_step_138 : decode cX3_step 138 = .ok (.iload_n 1, 1) := oq_27 (byt chX3_step_8 10 rfl)
theorem dX3_step_139 : decode cX3_step 139 = .ok (.bipush 59, 2) := oq_16 (byt chX3_step_8 11 rfl) (byt chX3_step_8 12 rfl) rfl
theorem dX3_step_141 : decode cX3_step 141 = .ok (.if_icmp .ne 21, 3) := oq_160 (byt chX3_step_8 13 rfl) (byt chX3_step_8 14 rfl) (byt chX3_step_8 15 rfl) (by decide +kernel)
theorem dX3_step_144 : decode cX3_step 144 = .ok (.aload_n 0, 1) := oq_42 (byt chX3_step_9 0 rfl)
theorem dX3_step_145 : decode cX3_step 145 = .ok (.iconst 3, 1) := oq_6 (byt chX3_step_9 1 rfl)
theorem dX3_step_146 : decode cX3_step 146 = .ok (.putfield 56, 3) := oq_181 (byt chX3_step_9 2 rfl) (byt chX3_step_9 3 rfl) (byt chX3_step_9 4 rfl) rfl
theorem dX3_step_149 : decode cX3_step 149 = .ok (.aload_n 0, 1) := oq_42 (byt chX3_step_9 5 rfl)
theorem dX3_step_150 : decode cX3_step 150 = .ok (.dup, 1) := oq_89 (byt chX3_step_9 6 rfl)
theorem dX3_step_151 : decode cX3_step 151 = .ok (.getfield 53, 3) := oq_180 (byt chX3_step_9 7 rfl) (byt chX3_step_9 8 rfl) (byt chX3_step_9 9 rfl) rfl
theorem dX3_step_154 : decode cX3_step 154 = .ok (.iconst 1, 1) := oq_4 (byt chX3_step_9 10 rfl)
theorem dX3_step_155 : decode cX3_step 155 = .ok (.iadd, 1) := oq_96 (byt chX3_step_9 11 rfl)
theorem dX3_step_156 : decode cX3_step 156 = .ok (.putfield 53, 3) := oq_181 (byt chX3_step_9 12 rfl) (byt chX3_step_9 13 rfl) (byt chX3_step_9 14 rfl) rfl
theorem dX3_step_159 : decode cX3_step 159 = .ok (.goto 8, 3) := oq_167 (byt chX3_step_9 15 rfl) (byt chX3_step_10 0 rfl) (byt chX3_step_10 1 rfl) (by decide +kernel)
theorem dX3_step_162 : decode cX3_step 162 = .ok (.aload_n 0, 1) := oq_42 (byt chX3_step_10 2 rfl)
theorem dX3_step_163 : decode cX3_step 163 = .ok (.iconst 4, 1) := oq_7 (byt chX3_step_10 3 rfl)
theorem dX3_step_164 : decode cX3_step 164 = .ok (.putfield 56, 3) := oq_181 (byt chX3_step_10 4 rfl) (byt chX3_step_10 5 rfl) (byt chX3_step_10 6 rfl) rfl
theorem dX3_step_167 : decode cX3_step 167 = .ok (.return_, 1) := oq_177 (byt chX3_step_10 7 rfl)
abbrev mX3_step : MI := (yX3_step, cX3_step, 2, none, noE)
theorem okX3_step : cok mX3_step 0 := ⟨tw488, tw7, by decide, by decide, by decide, by decide +kernel⟩
def fX3_step (M : Mem) (a0 : Int) : Option Mem :=
  iterC (fun (rec1 : Mem → Option Mem) (s2 : Mem) => if s2.2.1 a0 = 3 then jn (fun (t5 : Unit) => bM (mst s2 a0 10 (s2.1 a0 8)) fun M6 => (fX3_byteAt M6 a0 (M6.1 a0 8)).bind fun r8 => if M6.1 a0 8 < M6.1 a0 7 then ((fX3_isLetter M6 r8).bind fun r11 => if r11 = 0 then ((fX3_isDigit M6 r8).bind fun r14 => if r14 = 0 then (if r8 = 59 then (bM (mst M6 a0 9 3) fun M18 => bM (mst M18 a0 8 (w32 ((M18.1 a0 8) + 1))) fun M20 => some M20) else (bM (mst M6 a0 9 4) fun M22 => some M22)) else ((fX3_stepNumber M6 a0).bind fun r24 => some r24)) else (bM (mst M6 a0 9 1) fun M26 => iterC (fun (rec28 : Mem → Option Mem) (s29 : Mem) => if s29.2.1 a0 = 3 then if s29.1 a0 8 < s29.1 a0 7 then ((fX3_byteAt s29 a0 (s29.1 a0 8)).bind fun r32 => (fX3_isLetter s29 r32).bind fun r34 => if r34 = 0 then (some s29) else (bM (mst s29 a0 8 (w32 ((s29.1 a0 8) + 1))) fun M37 => rec28 M37)) else (some s29) else none) BIG M26)) else (bM (mst M6 a0 9 0) fun M39 => some M39)) (fun (j4 : Unit → Option Mem) => if s2.1 a0 8 < s2.1 a0 7 then ((fX3_byteAt s2 a0 (s2.1 a0 8)).bind fun r42 => (fX3_isBlank s2 r42).bind fun r44 => if r44 = 0 then (j4 ()) else (bM (mst s2 a0 8 (w32 ((s2.1 a0 8) + 1))) fun M47 => rec1 M47)) else (j4 ())) else none) BIG M
set_option maxRecDepth 100000 in
set_option maxHeartbeats 4000000 in
theorem kX3_step (d : Nat) (hd : 2 ≤ d) (M : Mem) (a0 : Int) : Ct mX3_step d 0 0 [pA a0] M dV (fX3_step M a0) := by
  obtain ⟨d, rfl⟩ : ∃ k, d = k + 1 := ⟨d - 1, by omega⟩
  refine Ct.of 1 (fun _ _ _ => trivial) (by decide +kernel) rfl ?_
  unfold fX3_step
  refine v_loop (fun (s2 : Mem) => [some (pA a0), none]) (fun (s2 : Mem) => s2) (s0 := M) ?_
  intro rec1 hrec1 s2
  refine v_aload_n dX3_step_0 rfl ?_
  refine v_if (fun h3 => ?_)
  refine v_get (v := pI (s2.1 a0 8)) 3 8 rfl inX3 (by decide) tw268 dX3_step_1 h3 rfl ?_
  refine v_aload_n dX3_step_4 rfl ?_
  refine v_get (v := pI (s2.1 a0 7)) 3 7 rfl inX3 (by decide) tw267 dX3_step_5 h3 rfl ?_
  refine v_join (fun (t5 : Unit) => [some (pA a0), none]) (fun (t5 : Unit) => []) (fun (t5 : Unit) => s2) 38 (fun t5 => ?_) (fun j4 hj4 => ?_)
  · refine v_aload_n dX3_step_38 rfl ?_
    refine v_aload_n dX3_step_39 rfl ?_
    refine v_get (v := pI (s2.1 a0 8)) 3 8 rfl inX3 (by decide) tw268 dX3_step_40 h3 rfl ?_
    refine v_put (x := s2.1 a0 8) 3 10 rfl inX3 (by decide) tw270 (Or.inl rfl) rfl dX3_step_43 h3 rfl id ?_
    refine v_bM (fun M6 e7 => ?_)
    refine v_aload_n dX3_step_46 rfl ?_
    refine v_aload_n dX3_step_47 rfl ?_
    refine v_get (v := pI (M6.1 a0 8)) 3 8 rfl inX3 (by decide) tw268 dX3_step_48 (by rw [e7]; exact h3) rfl ?_
    refine v_cV (mi := mX3_step) (c0 := 0) (c1 := 0) (As := [pI (M6.1 a0 8)]) (st := []) (kX3_byteAt d (by omega) _ _ _) rfl (by rw [e7]; exact h3) rfl okX3_byteAt (Or.inl tw489) tw491 tp2 rfl (Nat.le_of_ble_eq_true rfl) dX3_step_51 (fun r8 => [pI r8]) (fun r8 => M6) (fun _ => rfl) (fun _ => rfl) (fun r8 h9 => ?_) rfl
    refine v_istore_n (ls' := [some (pA a0), some (pI r8)]) dX3_step_54 (by decide) rfl ?_
    refine v_aload_n dX3_step_55 rfl ?_
    refine v_get (v := pI (M6.1 a0 8)) 3 8 rfl inX3 (by decide) tw268 dX3_step_56 (by rw [e7]; exact h3) rfl ?_
    refine v_aload_n dX3_step_59 rfl ?_
    refine v_get (v := pI (M6.1 a0 7)) 3 7 rfl inX3 (by decide) tw267 dX3_step_60 (by rw [e7]; exact h3) rfl ?_
    refine v_icmp_lt (tgt := 74) dX3_step_63 (by decide) (fun c10 => ?_) (fun c10 => ?_)
    · refine v_iload_n dX3_step_74 rfl ?_
      refine v_cS (mi := mX3_step) (c0 := 0) (c1 := 0) (As := [pI r8]) (st := []) (kX3_isLetter d (by omega) _ _) okX3_isLetter (Or.inl tw496) tw497 rfl (Nat.le_of_ble_eq_true rfl) dX3_step_75 (fun r11 => [pI r11]) (fun r11 => M6) (fun _ => rfl) (fun _ => rfl) (fun r11 h12 => ?_) rfl
      refine v_if_eq (tgt := 124) dX3_step_78 (by decide) (fun c13 => ?_) (fun c13 => ?_)
      · refine v_iload_n dX3_step_124 rfl ?_
        refine v_cS (mi := mX3_step) (c0 := 0) (c1 := 0) (As := [pI r8]) (st := []) (kX3_isDigit d (by omega) _ _) okX3_isDigit (Or.inl tw499) tw500 rfl (Nat.le_of_ble_eq_true rfl) dX3_step_125 (fun r14 => [pI r14]) (fun r14 => M6) (fun _ => rfl) (fun _ => rfl) (fun r14 h15 => ?_) rfl
        refine v_if_eq (tgt := 138) dX3_step_128 (by decide) (fun c16 => ?_) (fun c16 => ?_)
        · refine v_iload_n dX3_step_138 rfl ?_
          refine v_bipush dX3_step_139 (by decide) ?_
          refine v_icmp_ne (tgt := 162) dX3_step_141 (by decide) (fun c17 => ?_) (fun c17 => ?_)
          · refine v_aload_n dX3_step_144 rfl ?_
            refine v_iconst dX3_step_145 (by decide) ?_
            refine v_put (x := 3) 3 9 rfl inX3 (by decide) tw269 (Or.inl rfl) rfl dX3_step_146 (by rw [e7]; exact h3) rfl id ?_
            refine v_bM (fun M18 e19 => ?_)
            refine v_aload_n dX3_step_149 rfl ?_
            refine v_dup dX3_step_150 (by intro z hz; cases hz) ?_
            refine v_get (v := pI (M18.1 a0 8)) 3 8 rfl inX3 (by decide) tw268 dX3_step_151 (by rw [e19, e7]; exact h3) rfl ?_
            refine v_iconst dX3_step_154 (by decide) ?_
            refine v_iadd dX3_step_155 ?_
            refine v_put (x := w32 ((M18.1 a0 8) + 1)) 3 8 rfl inX3 (by decide) tw268 (Or.inl rfl) rfl dX3_step_156 (by rw [e19, e7]; exact h3) rfl id ?_
            refine v_bM (fun M20 e21 => ?_)
            refine v_goto (tgt := 167) dX3_step_159 (by decide) ?_
            exact v_return dX3_step_167 rfl rfl
          · refine v_aload_n dX3_step_162 rfl ?_
            refine v_iconst dX3_step_163 (by decide) ?_
            refine v_put (x := 4) 3 9 rfl inX3 (by decide) tw269 (Or.inl rfl) rfl dX3_step_164 (by rw [e7]; exact h3) rfl id ?_
            refine v_bM (fun M22 e23 => ?_)
            exact v_return dX3_step_167 rfl rfl
        · refine v_aload_n dX3_step_131 rfl ?_
          refine v_cV (mi := mX3_step) (c0 := 0) (c1 := 0) (As := []) (st := []) (kX3_stepNumber d (by omega) _ _) rfl (by rw [e7]; exact h3) rfl okX3_stepNumber (Or.inl tw502) tw504 tp3 rfl (Nat.le_of_ble_eq_true rfl) dX3_step_132 (fun r24 => []) (fun r24 => r24) (fun _ => rfl) (fun _ => rfl) (fun r24 h25 => ?_) rfl
          refine v_goto (tgt := 167) dX3_step_135 (by decide) ?_
          exact v_return dX3_step_167 rfl rfl
      · refine v_aload_n dX3_step_81 rfl ?_
        refine v_iconst dX3_step_82 (by decide) ?_
        refine v_put (x := 1) 3 9 rfl inX3 (by decide) tw269 (Or.inl rfl) rfl dX3_step_83 (by rw [e7]; exact h3) rfl id ?_
        refine v_bM (fun M26 e27 => ?_)
        refine v_drop [some (pA a0), none] (ls_s (ls_n ls_e)) ?_
        refine v_loop (fun (s29 : Mem) => [some (pA a0), none]) (fun (s29 : Mem) => s29) (s0 := M26) ?_
        intro rec28 hrec28 s29
        refine v_aload_n dX3_step_86 rfl ?_
        refine v_if (fun h30 => ?_)
        refine v_get (v := pI (s29.1 a0 8)) 3 8 rfl inX3 (by decide) tw268 dX3_step_87 h30 rfl ?_
        refine v_aload_n dX3_step_90 rfl ?_
        refine v_get (v := pI (s29.1 a0 7)) 3 7 rfl inX3 (by decide) tw267 dX3_step_91 h30 rfl ?_
        refine v_icmp_ge (tgt := 167) dX3_step_94 (by decide) (fun c31 => ?_) (fun c31 => ?_)
        · refine v_aload_n dX3_step_97 rfl ?_
          refine v_aload_n dX3_step_98 rfl ?_
          refine v_get (v := pI (s29.1 a0 8)) 3 8 rfl inX3 (by decide) tw268 dX3_step_99 h30 rfl ?_
          refine v_cV (mi := mX3_step) (c0 := 0) (c1 := 0) (As := [pI (s29.1 a0 8)]) (st := []) (kX3_byteAt d (by omega) _ _ _) rfl h30 rfl okX3_byteAt (Or.inl tw489) tw491 tp2 rfl (Nat.le_of_ble_eq_true rfl) dX3_step_102 (fun r32 => [pI r32]) (fun r32 => s29) (fun _ => rfl) (fun _ => rfl) (fun r32 h33 => ?_) rfl
          refine v_cS (mi := mX3_step) (c0 := 0) (c1 := 0) (As := [pI r32]) (st := []) (kX3_isLetter d (by omega) _ _) okX3_isLetter (Or.inl tw496) tw497 rfl (Nat.le_of_ble_eq_true rfl) dX3_step_105 (fun r34 => [pI r34]) (fun r34 => s29) (fun _ => rfl) (fun _ => rfl) (fun r34 h35 => ?_) rfl
          refine v_if_eq (tgt := 167) dX3_step_108 (by decide) (fun c36 => ?_) (fun c36 => ?_)
          · exact v_return dX3_step_167 rfl rfl
          · refine v_aload_n dX3_step_111 rfl ?_
            refine v_dup dX3_step_112 (by intro z hz; cases hz) ?_
            refine v_get (v := pI (s29.1 a0 8)) 3 8 rfl inX3 (by decide) tw268 dX3_step_113 h30 rfl ?_
            refine v_iconst dX3_step_116 (by decide) ?_
            refine v_iadd dX3_step_117 ?_
            refine v_put (x := w32 ((s29.1 a0 8) + 1)) 3 8 rfl inX3 (by decide) tw268 (Or.inl rfl) rfl dX3_step_118 h30 rfl id ?_
            refine v_bM (fun M37 e38 => ?_)
            refine v_goto (tgt := 86) dX3_step_121 (by decide) ?_
            exact hrec28 M37
        · exact v_return dX3_step_167 rfl rfl
    · refine v_aload_n dX3_step_66 rfl ?_
      refine v_iconst dX3_step_67 (by decide) ?_
      refine v_put (x := 0) 3 9 rfl inX3 (by decide) tw269 (Or.inl rfl) rfl dX3_step_68 (by rw [e7]; exact h3) rfl id ?_
      refine v_bM (fun M39 e40 => ?_)
      refine v_goto (tgt := 167) dX3_step_71 (by decide) ?_
      exact v_return dX3_step_167 rfl rfl
  · refine v_icmp_ge (tgt := 38) dX3_step_8 (by decide) (fun c41 => ?_) (fun c41 => ?_)
    · refine v_aload_n dX3_step_11 rfl ?_
      refine v_aload_n dX3_step_12 rfl ?_
      refine v_get (v := pI (s2.1 a0 8)) 3 8 rfl inX3 (by decide) tw268 dX3_step_13 h3 rfl ?_
      refine v_cV (mi := mX3_step) (c0 := 0) (c1 := 0) (As := [pI (s2.1 a0 8)]) (st := []) (kX3_byteAt d (by omega) _ _ _) rfl h3 rfl okX3_byteAt (Or.inl tw489) tw491 tp2 rfl (Nat.le_of_ble_eq_true rfl) dX3_step_16 (fun r42 => [pI r42]) (fun r42 => s2) (fun _ => rfl) (fun _ => rfl) (fun r42 h43 => ?_) rfl
      refine v_cS (mi := mX3_step) (c0 := 0) (c1 := 0) (As := [pI r42]) (st := []) (kX3_isBlank d (by omega) _ _) okX3_isBlank (Or.inl tw493) tw494 rfl (Nat.le_of_ble_eq_true rfl) dX3_step_19 (fun r44 => [pI r44]) (fun r44 => s2) (fun _ => rfl) (fun _ => rfl) (fun r44 h45 => ?_) rfl
      refine v_if_eq (tgt := 38) dX3_step_22 (by decide) (fun c46 => ?_) (fun c46 => ?_)
      · exact hj4 ()
      · refine v_aload_n dX3_step_25 rfl ?_
        refine v_dup dX3_step_26 (by intro z hz; cases hz) ?_
        refine v_get (v := pI (s2.1 a0 8)) 3 8 rfl inX3 (by decide) tw268 dX3_step_27 h3 rfl ?_
        refine v_iconst dX3_step_30 (by decide) ?_
        refine v_iadd dX3_step_31 ?_
        refine v_put (x := w32 ((s2.1 a0 8) + 1)) 3 8 rfl inX3 (by decide) tw268 (Or.inl rfl) rfl dX3_step_32 h3 rfl id ?_
        refine v_bM (fun M47 e48 => ?_)
        refine v_goto (tgt := 0) dX3_step_35 (by decide) ?_
        exact hrec1 M47
    · exact hj4 ()
theorem chX3_wordOf_0 : (cX3_wordOf.data.toList.drop 0).take 16 = [26, 170, 0, 0, 0, 0, 0, 141, 0, 0, 0, 0, 0, 0, 0, 17] := by decide +kernel
theorem chX3_wordOf_5 : (cX3_wordOf.data.toList.drop 80).take 16 = [0, 0, 0, 135, 0, 0, 0, 138, 18, 153, 176, 18, 154, 176, 18, 156] := by decide +kernel
theorem chX3_wordOf_6 : (cX3_wordOf.data.toList.drop 96).take 16 = [176, 18, 158, 176, 18, 160, 176, 18, 162, 176, 18, 164, 176, 18, 166, 176] := by decide +kernel
theorem chX3_wordOf_7 : (cX3_wordOf.data.toList.drop 112).take 16 = [18, 168, 176, 18, 170, 176, 18, 172, 176, 18, 174, 176, 18, 176, 176, 18] := by decide +kernel
theorem chX3_wordOf_8 : (cX3_wordOf.data.toList.drop 128).take 16 = [178, 176, 18, 180, 176, 18, 182, 176, 18, 184, 176, 18, 186, 176, 18, 188] := by decide +kernel
theorem chX3_wordOf_9 : (cX3_wordOf.data.toList.drop 144).take 16 = [176] := by decide +kernel
theorem dX3_wordOf_0 : decode cX3_wordOf 0 = .ok (.iload_n 0, 1) := oq_26 (byt chX3_wordOf_0 0 rfl)
theorem dX3_wordOf_1 : decode cX3_wordOf 1 = .ok (.tableswitch 141 0 17 #[87, 90, 93, 96, 99, 102, 105, 108, 111, 114, 117, 120, 123, 126, 129, 132, 135, 138], 87) := by decide +kernel
theorem dX3_wordOf_88 : decode cX3_wordOf 88 = .ok (.ldc 153, 2) := oq_18 (byt chX3_wordOf_5 8 rfl) (byt chX3_wordOf_5 9 rfl) rfl
theorem dX3_wordOf_90 : decode cX3_wordOf 90 = .ok (.areturn, 1) := oq_176 (byt chX3_wordOf_5 10 rfl)
theorem dX3_wordOf_91 : decode cX3_wordOf 91 = .ok (.ldc 154, 2) := oq_18 (byt chX3_wordOf_5 11 rfl) (byt chX3_wordOf_5 12 rfl) rfl
theorem dX3_wordOf_93 : decode cX3_wordOf 93 = .ok (.areturn, 1) := oq_176 (byt chX3_wordOf_5 13 rfl)
theorem dX3_wordOf_94 : decode cX3_wordOf 94 = .ok (.ldc 156, 2) := oq_18 (byt chX3_wordOf_5 14 rfl) (byt chX3_wordOf_5 15 rfl) rfl
theorem dX3_wordOf_96 : decode cX3_wordOf 96 = .ok (.areturn, 1) := oq_176 (byt chX3_wordOf_6 0 rfl)
theorem dX3_wordOf_97 : decode cX3_wordOf 97 = .ok (.ldc 158, 2) := oq_18 (byt chX3_wordOf_6 1 rfl) (byt chX3_wordOf_6 2 rfl) rfl
theorem dX3_wordOf_99 : decode cX3_wordOf 99 = .ok (.areturn, 1) := oq_176 (byt chX3_wordOf_6 3 rfl)
theorem dX3_wordOf_100 : decode cX3_wordOf 100 = .ok (.ldc 160, 2) := oq_18 (byt chX3_wordOf_6 4 rfl) (byt chX3_wordOf_6 5 rfl) rfl
theorem dX3_wordOf_102 : decode cX3_wordOf 102 = .ok (.areturn, 1) := oq_176 (byt chX3_wordOf_6 6 rfl)
theorem dX3_wordOf_103 : decode cX3_wordOf 103 = .ok (.ldc 162, 2) := oq_18 (byt chX3_wordOf_6 7 rfl) (byt chX3_wordOf_6 8 rfl) rfl
theorem dX3_wordOf_105 : decode cX3_wordOf 105 = .ok (.areturn, 1) := oq_176 (byt chX3_wordOf_6 9 rfl)
theorem dX3_wordOf_106 : decode cX3_wordOf 106 = .ok (.ldc 164, 2) := oq_18 (byt chX3_wordOf_6 10 rfl) (byt chX3_wordOf_6 11 rfl) rfl
theorem dX3_wordOf_108 : decode cX3_wordOf 108 = .ok (.areturn, 1) := oq_176 (byt chX3_wordOf_6 12 rfl)
theorem dX3_wordOf_109 : decode cX3_wordOf 109 = .ok (.ldc 166, 2) := oq_18 (byt chX3_wordOf_6 13 rfl) (byt chX3_wordOf_6 14 rfl) rfl
theorem dX3_wordOf_111 : decode cX3_wordOf 111 = .ok (.areturn, 1) := oq_176 (byt chX3_wordOf_6 15 rfl)
theorem dX3_wordOf_112 : decode cX3_wordOf 112 = .ok (.ldc 168, 2) := oq_18 (byt chX3_wordOf_7 0 rfl) (byt chX3_wordOf_7 1 rfl) rfl
theorem dX3_wordOf_114 : decode cX3_wordOf 114 = .ok (.areturn, 1) := oq_176 (byt chX3_wordOf_7 2 rfl)
theorem dX3_wordOf_115 : decode cX3_wordOf 115 = .ok (.ldc 170, 2) := oq_18 (byt chX3_wordOf_7 3 rfl) (byt chX3_wordOf_7 4 rfl) rfl
theorem dX3_wordOf_117 : decode cX3_wordOf 117 = .ok (.areturn, 1) := oq_176 (byt chX3_wordOf_7 5 rfl)
theorem dX3_wordOf_118 : decode cX3_wordOf 118 = .ok (.ldc 172, 2) := oq_18 (byt chX3_wordOf_7 6 rfl) (byt chX3_wordOf_7 7 rfl) rfl
theorem dX3_wordOf_120 : decode cX3_wordOf 120 = .ok (.areturn, 1) := oq_176 (byt chX3_wordOf_7 8 rfl)
theorem dX3_wordOf_121 : decode cX3_wordOf 121 = .ok (.ldc 174, 2) := oq_18 (byt chX3_wordOf_7 9 rfl) (byt chX3_wordOf_7 10 rfl) rfl
theorem dX3_wordOf_123 : decode cX3_wordOf 123 = .ok (.areturn, 1) := oq_176 (byt chX3_wordOf_7 11 rfl)
theorem dX3_wordOf_124 : decode cX3_wordOf 124 = .ok (.ldc 176, 2) := oq_18 (byt chX3_wordOf_7 12 rfl) (byt chX3_wordOf_7 13 rfl) rfl
theorem dX3_wordOf_126 : decode cX3_wordOf 126 = .ok (.areturn, 1) := oq_176 (byt chX3_wordOf_7 14 rfl)
theorem dX3_wordOf_127 : decode cX3_wordOf 127 = .ok (.ldc 178, 2) := oq_18 (byt chX3_wordOf_7 15 rfl) (byt chX3_wordOf_8 0 rfl) rfl
theorem dX3_wordOf_129 : decode cX3_wordOf 129 = .ok (.areturn, 1) := oq_176 (byt chX3_wordOf_8 1 rfl)
theorem dX3_wordOf_130 : decode cX3_wordOf 130 = .ok (.ldc 180, 2) := oq_18 (byt chX3_wordOf_8 2 rfl) (byt chX3_wordOf_8 3 rfl) rfl
theorem dX3_wordOf_132 : decode cX3_wordOf 132 = .ok (.areturn, 1) := oq_176 (byt chX3_wordOf_8 4 rfl)
theorem dX3_wordOf_133 : decode cX3_wordOf 133 = .ok (.ldc 182, 2) := oq_18 (byt chX3_wordOf_8 5 rfl) (byt chX3_wordOf_8 6 rfl) rfl
theorem dX3_wordOf_135 : decode cX3_wordOf 135 = .ok (.areturn, 1) := oq_176 (byt chX3_wordOf_8 7 rfl)
theorem dX3_wordOf_136 : decode cX3_wordOf 136 = .ok (.ldc 184, 2) := oq_18 (byt chX3_wordOf_8 8 rfl) (byt chX3_wordOf_8 9 rfl) rfl
theorem dX3_wordOf_138 : decode cX3_wordOf 138 = .ok (.areturn, 1) := oq_176 (byt chX3_wordOf_8 10 rfl)
theorem dX3_wordOf_139 : decode cX3_wordOf 139 = .ok (.ldc 186, 2) := oq_18 (byt chX3_wordOf_8 11 rfl) (byt chX3_wordOf_8 12 rfl) rfl
theorem dX3_wordOf_141 : decode cX3_wordOf 141 = .ok (.areturn, 1) := oq_176 (byt chX3_wordOf_8 13 rfl)
theorem dX3_wordOf_142 : decode cX3_wordOf 142 = .ok (.ldc 188, 2) := oq_18 (byt chX3_wordOf_8 14 rfl) (byt chX3_wordOf_8 15 rfl) rfl
theorem dX3_wordOf_144 : decode cX3_wordOf 144 = .ok (.areturn, 1) := oq_176 (byt chX3_wordOf_9 0 rfl)
abbrev mX3_wordOf : MI := (yX3_wordOf, cX3_wordOf, 1, (some (.object "java/lang/String")), noE)
theorem okX3_wordOf : cok mX3_wordOf 1 := ⟨tw518, tw7, by decide, by decide, by decide, by decide +kernel⟩
def fX3_wordOf (M : Mem) (a0 : Int) : Option Int :=
  if a0 = 0 then (some (-6)) else if a0 = 1 then (some (-7)) else if a0 = 2 then (some (-8)) else if a0 = 3 then (some (-9)) else if a0 = 4 then (some (-10)) else if a0 = 5 then (some (-11)) else if a0 = 6 then (some (-12)) else if a0 = 7 then (some (-13)) else if a0 = 8 then (some (-14)) else if a0 = 9 then (some (-15)) else if a0 = 10 then (some (-16)) else if a0 = 11 then (some (-17)) else if a0 = 12 then (some (-18)) else if a0 = 13 then (some (-19)) else if a0 = 14 then (some (-20)) else if a0 = 15 then (some (-21)) else if a0 = 16 then (some (-22)) else if a0 = 17 then (some (-23)) else some (-24)
set_option maxRecDepth 100000 in
set_option maxHeartbeats 4000000 in
theorem kX3_wordOf (d : Nat) (hd : 0 ≤ d) (M : Mem) (a0 : Int) : Ct mX3_wordOf d 0 0 [pI a0] M (dA M) (fX3_wordOf M a0) := by
  refine Ct.of 0 (fun _ _ _ => trivial) (by decide +kernel) rfl ?_
  unfold fX3_wordOf
  refine v_iload_n dX3_wordOf_0 rfl ?_
  refine v_ite (fun h1 => ?_) (fun h1 => ?_)
  · refine v_tabIn (off := 87) (tgt := 88) dX3_wordOf_1 h1 (by decide) ?_
    refine v_ldcS (mi := mX3_wordOf) 0 (by decide) rfl rfl rfl dX3_wordOf_88 ?_
    exact v_areturn dX3_wordOf_90 rfl (Or.inl ⟨_, rfl⟩) rfl
  · refine v_ite (fun h2 => ?_) (fun h2 => ?_)
    · refine v_tabIn (off := 90) (tgt := 91) dX3_wordOf_1 h2 (by decide) ?_
      refine v_ldcS (mi := mX3_wordOf) 1 (by decide) rfl rfl rfl dX3_wordOf_91 ?_
      exact v_areturn dX3_wordOf_93 rfl (Or.inl ⟨_, rfl⟩) rfl
    · refine v_ite (fun h3 => ?_) (fun h3 => ?_)
      · refine v_tabIn (off := 93) (tgt := 94) dX3_wordOf_1 h3 (by decide) ?_
        refine v_ldcS (mi := mX3_wordOf) 2 (by decide) rfl rfl rfl dX3_wordOf_94 ?_
        exact v_areturn dX3_wordOf_96 rfl (Or.inl ⟨_, rfl⟩) rfl
      · refine v_ite (fun h4 => ?_) (fun h4 => ?_)
        · refine v_tabIn (off := 96) (tgt := 97) dX3_wordOf_1 h4 (by decide) ?_
          refine v_ldcS (mi := mX3_wordOf) 3 (by decide) rfl rfl rfl dX3_wordOf_97 ?_
          exact v_areturn dX3_wordOf_99 rfl (Or.inl ⟨_, rfl⟩) rfl
        · refine v_ite (fun h5 => ?_) (fun h5 => ?_)
          · refine v_tabIn (off := 99) (tgt := 100) dX3_wordOf_1 h5 (by decide) ?_
            refine v_ldcS (mi := mX3_wordOf) 4 (by decide) rfl rfl rfl dX3_wordOf_100 ?_
            exact v_areturn dX3_wordOf_102 rfl (Or.inl ⟨_, rfl⟩) rfl
          · refine v_ite (fun h6 => ?_) (fun h6 => ?_)
            · refine v_tabIn (off := 102) (tgt := 103) dX3_wordOf_1 h6 (by decide) ?_
              refine v_ldcS (mi := mX3_wordOf) 5 (by decide) rfl rfl rfl dX3_wordOf_103 ?_
              exact v_areturn dX3_wordOf_105 rfl (Or.inl ⟨_, rfl⟩) rfl
            · refine v_ite (fun h7 => ?_) (fun h7 => ?_)
              · refine v_tabIn (off := 105) (tgt := 106) dX3_wordOf_1 h7 (by decide) ?_
                refine v_ldcS (mi := mX3_wordOf) 6 (by decide) rfl rfl rfl dX3_wordOf_106 ?_
                exact v_areturn dX3_wordOf_108 rfl (Or.inl ⟨_, rfl⟩) rfl
              · refine v_ite (fun h8 => ?_) (fun h8 => ?_)
                · refine v_tabIn (off := 108) (tgt := 109) dX3_wordOf_1 h8 (by decide) ?_
                  refine v_ldcS (mi := mX3_wordOf) 7 (by decide) rfl rfl rfl dX3_wordOf_109 ?_
                  exact v_areturn dX3_wordOf_111 rfl (Or.inl ⟨_, rfl⟩) rfl
                · refine v_ite (fun h9 => ?_) (fun h9 => ?_)
                  · refine v_tabIn (off := 111) (tgt := 112) dX3_wordOf_1 h9 (by decide) ?_
                    refine v_ldcS (mi := mX3_wordOf) 8 (by decide) rfl rfl rfl dX3_wordOf_112 ?_
                    exact v_areturn dX3_wordOf_114 rfl (Or.inl ⟨_, rfl⟩) rfl
                  · refine v_ite (fun h10 => ?_) (fun h10 => ?_)
                    · refine v_tabIn (off := 114) (tgt := 115) dX3_wordOf_1 h10 (by decide) ?_
                      refine v_ldcS (mi := mX3_wordOf) 9 (by decide) rfl rfl rfl dX3_wordOf_115 ?_
                      exact v_areturn dX3_wordOf_117 rfl (Or.inl ⟨_, rfl⟩) rfl
                    · refine v_ite (fun h11 => ?_) (fun h11 => ?_)
                      · refine v_tabIn (off := 117) (tgt := 118) dX3_wordOf_1 h11 (by decide) ?_
                        refine v_ldcS (mi := mX3_wordOf) 10 (by decide) rfl rfl rfl dX3_wordOf_118 ?_
                        exact v_areturn dX3_wordOf_120 rfl (Or.inl ⟨_, rfl⟩) rfl
                      · refine v_ite (fun h12 => ?_) (fun h12 => ?_)
                        · refine v_tabIn (off := 120) (tgt := 121) dX3_wordOf_1 h12 (by decide) ?_
                          refine v_ldcS (mi := mX3_wordOf) 11 (by decide) rfl rfl rfl dX3_wordOf_121 ?_
                          exact v_areturn dX3_wordOf_123 rfl (Or.inl ⟨_, rfl⟩) rfl
                        · refine v_ite (fun h13 => ?_) (fun h13 => ?_)
                          · refine v_tabIn (off := 123) (tgt := 124) dX3_wordOf_1 h13 (by decide) ?_
                            refine v_ldcS (mi := mX3_wordOf) 12 (by decide) rfl rfl rfl dX3_wordOf_124 ?_
                            exact v_areturn dX3_wordOf_126 rfl (Or.inl ⟨_, rfl⟩) rfl
                          · refine v_ite (fun h14 => ?_) (fun h14 => ?_)
                            · refine v_tabIn (off := 126) (tgt := 127) dX3_wordOf_1 h14 (by decide) ?_
                              refine v_ldcS (mi := mX3_wordOf) 13 (by decide) rfl rfl rfl dX3_wordOf_127 ?_
                              exact v_areturn dX3_wordOf_129 rfl (Or.inl ⟨_, rfl⟩) rfl
                            · refine v_ite (fun h15 => ?_) (fun h15 => ?_)
                              · refine v_tabIn (off := 129) (tgt := 130) dX3_wordOf_1 h15 (by decide) ?_
                                refine v_ldcS (mi := mX3_wordOf) 14 (by decide) rfl rfl rfl dX3_wordOf_130 ?_
                                exact v_areturn dX3_wordOf_132 rfl (Or.inl ⟨_, rfl⟩) rfl
                              · refine v_ite (fun h16 => ?_) (fun h16 => ?_)
                                · refine v_tabIn (off := 132) (tgt := 133) dX3_wordOf_1 h16 (by decide) ?_
                                  refine v_ldcS (mi := mX3_wordOf) 15 (by decide) rfl rfl rfl dX3_wordOf_133 ?_
                                  exact v_areturn dX3_wordOf_135 rfl (Or.inl ⟨_, rfl⟩) rfl
                                · refine v_ite (fun h17 => ?_) (fun h17 => ?_)
                                  · refine v_tabIn (off := 135) (tgt := 136) dX3_wordOf_1 h17 (by decide) ?_
                                    refine v_ldcS (mi := mX3_wordOf) 16 (by decide) rfl rfl rfl dX3_wordOf_136 ?_
                                    exact v_areturn dX3_wordOf_138 rfl (Or.inl ⟨_, rfl⟩) rfl
                                  · refine v_ite (fun h18 => ?_) (fun h18 => ?_)
                                    · refine v_tabIn (off := 138) (tgt := 139) dX3_wordOf_1 h18 (by decide) ?_
                                      refine v_ldcS (mi := mX3_wordOf) 17 (by decide) rfl rfl rfl dX3_wordOf_139 ?_
                                      exact v_areturn dX3_wordOf_141 rfl (Or.inl ⟨_, rfl⟩) rfl
                                    · refine v_tabOut (tgt := 142) dX3_wordOf_1 (by omega) (by decide) ?_
                                      refine v_ldcS (mi := mX3_wordOf) 18 (by decide) rfl rfl rfl dX3_wordOf_142 ?_
                                      exact v_areturn dX3_wordOf_144 rfl (Or.inl ⟨_, rfl⟩) rfl
theorem chX3_isWord_0 : (cX3_isWord.data.toList.drop 0).take 16 = [42, 180, 0, 53, 42, 180, 0, 59, 100, 43, 182, 0, 190, 159, 0, 5] := by decide +kernel
theorem chX3_isWord_1 : (cX3_isWord.data.toList.drop 16).take 16 = [3, 172, 3, 61, 28, 43, 182, 0, 190, 162, 0, 29, 42, 42, 180, 0] := by decide +kernel
theorem chX3_isWord_2 : (cX3_isWord.data.toList.drop 32).take 16 = [59, 28, 96, 182, 0, 195, 43, 28, 182, 0, 198, 159, 0, 5, 3, 172] := by decide +kernel
theorem chX3_isWord_3 : (cX3_isWord.data.toList.drop 48).take 16 = [132, 2, 1, 167, 255, 225, 4, 172] := by decide +kernel
theorem dX3_isWord_0 : decode cX3_isWord 0 = .ok (.aload_n 0, 1) := oq_42 (byt chX3_isWord_0 0 rfl)
theorem dX3_isWord_1 : decode cX3_isWord 1 = .ok (.getfield 53, 3) := oq_180 (byt chX3_isWord_0 1 rfl) (byt chX3_isWord_0 2 rfl) (byt chX3_isWord_0 3 rfl) rfl
theorem dX3_isWord_4 : decode cX3_isWord 4 = .ok (.aload_n 0, 1) := oq_42 (byt chX3_isWord_0 4 rfl)
theorem dX3_isWord_5 : decode cX3_isWord 5 = .ok (.getfield 59, 3) := oq_180 (byt chX3_isWord_0 5 rfl) (byt chX3_isWord_0 6 rfl) (byt chX3_isWord_0 7 rfl) rfl
theorem dX3_isWord_8 : decode cX3_isWord 8 = .ok (.isub, 1) := oq_100 (byt chX3_isWord_0 8 rfl)
theorem dX3_isWord_9 : decode cX3_isWord 9 = .ok (.aload_n 1, 1) := oq_43 (byt chX3_isWord_0 9 rfl)
theorem dX3_isWord_10 : decode cX3_isWord 10 = .ok (.invokevirtual 190, 3) := oq_182 (byt chX3_isWord_0 10 rfl) (byt chX3_isWord_0 11 rfl) (byt chX3_isWord_0 12 rfl) rfl
theorem dX3_isWord_13 : decode cX3_isWord 13 = .ok (.if_icmp .eq 5, 3) := oq_159 (byt chX3_isWord_0 13 rfl) (byt chX3_isWord_0 14 rfl) (byt chX3_isWord_0 15 rfl) (by decide +kernel)
theorem dX3_isWord_16 : decode cX3_isWord 16 = .ok (.iconst 0, 1) := oq_3 (byt chX3_isWord_1 0 rfl)
theorem dX3_isWord_17 : decode cX3_isWord 17 = .ok (.ireturn, 1) := oq_172 (byt chX3_isWord_1 1 rfl)
theorem dX3_isWord_18 : decode cX3_isWord 18 = .ok (.iconst 0, 1) := oq_3 (byt chX3_isWord_1 2 rfl)
theorem dX3_isWord_19 : decode cX3_isWord 19 = .ok (.istore_n 2, 1) := oq_61 (byt chX3_isWord_1 3 rfl)
theorem dX3_isWord_20 : decode cX3_isWord 20 = .ok (.iload_n 2, 1) := oq_28 (byt chX3_isWord_1 4 rfl)
theorem dX3_isWord_21 : decode cX3_isWord 21 = .ok (.aload_n 1, 1) := oq_43 (byt chX3_isWord_1 5 rfl)
theorem dX3_isWord_22 : decode cX3_isWord 22 = .ok (.invokevirtual 190, 3) := oq_182 (byt chX3_isWord_1 6 rfl) (byt chX3_isWord_1 7 rfl) (byt chX3_isWord_1 8 rfl) rfl
theorem dX3_isWord_25 : decode cX3_isWord 25 = .ok (.if_icmp .ge 29, 3) := oq_162 (byt chX3_isWord_1 9 rfl) (byt chX3_isWord_1 10 rfl) (byt chX3_isWord_1 11 rfl) (by decide +kernel)
theorem dX3_isWord_28 : decode cX3_isWord 28 = .ok (.aload_n 0, 1) := oq_42 (byt chX3_isWord_1 12 rfl)
theorem dX3_isWord_29 : decode cX3_isWord 29 = .ok (.aload_n 0, 1) := oq_42 (byt chX3_isWord_1 13 rfl)
theorem dX3_isWord_30 : decode cX3_isWord 30 = .ok (.getfield 59, 3) := oq_180 (byt chX3_isWord_1 14 rfl) (byt chX3_isWord_1 15 rfl) (byt chX3_isWord_2 0 rfl) rfl
theorem dX3_isWord_33 : decode cX3_isWord 33 = .ok (.iload_n 2, 1) := oq_28 (byt chX3_isWord_2 1 rfl)
theorem dX3_isWord_34 : decode cX3_isWord 34 = .ok (.iadd, 1) := oq_96 (byt chX3_isWord_2 2 rfl)
theorem dX3_isWord_35 : decode cX3_isWord 35 = .ok (.invokevirtual 195, 3) := oq_182 (byt chX3_isWord_2 3 rfl) (byt chX3_isWord_2 4 rfl) (byt chX3_isWord_2 5 rfl) rfl
theorem dX3_isWord_38 : decode cX3_isWord 38 = .ok (.aload_n 1, 1) := oq_43 (byt chX3_isWord_2 6 rfl)
theorem dX3_isWord_39 : decode cX3_isWord 39 = .ok (.iload_n 2, 1) := oq_28 (byt chX3_isWord_2 7 rfl)
theorem dX3_isWord_40 : decode cX3_isWord 40 = .ok (.invokevirtual 198, 3) := oq_182 (byt chX3_isWord_2 8 rfl) (byt chX3_isWord_2 9 rfl) (byt chX3_isWord_2 10 rfl) rfl
theorem dX3_isWord_43 : decode cX3_isWord 43 = .ok (.if_icmp .eq 5, 3) := oq_159 (byt chX3_isWord_2 11 rfl) (byt chX3_isWord_2 12 rfl) (byt chX3_isWord_2 13 rfl) (by decide +kernel)
theorem dX3_isWord_46 : decode cX3_isWord 46 = .ok (.iconst 0, 1) := oq_3 (byt chX3_isWord_2 14 rfl)
theorem dX3_isWord_47 : decode cX3_isWord 47 = .ok (.ireturn, 1) := oq_172 (byt chX3_isWord_2 15 rfl)
theorem dX3_isWord_48 : decode cX3_isWord 48 = .ok (.iinc 2 1, 3) := oq_132 (byt chX3_isWord_3 0 rfl) (byt chX3_isWord_3 1 rfl) (byt chX3_isWord_3 2 rfl) rfl
theorem dX3_isWord_51 : decode cX3_isWord 51 = .ok (.goto (-31), 3) := oq_167 (byt chX3_isWord_3 3 rfl) (byt chX3_isWord_3 4 rfl) (byt chX3_isWord_3 5 rfl) (by decide +kernel)
theorem dX3_isWord_54 : decode cX3_isWord 54 = .ok (.iconst 1, 1) := oq_4 (byt chX3_isWord_3 6 rfl)
theorem dX3_isWord_55 : decode cX3_isWord 55 = .ok (.ireturn, 1) := oq_172 (byt chX3_isWord_3 7 rfl)
abbrev mX3_isWord : MI := (yX3_isWord, cX3_isWord, 3, (some .boolean), noE)
theorem okX3_isWord : cok mX3_isWord 1 := ⟨tw541, tw7, by decide, by decide, by decide, by decide +kernel⟩
def fX3_isWord (M : Mem) (a0 a1 : Int) : Option Int :=
  if M.2.1 a0 = 3 then (fS_len a1).bind fun r2 => if w32 ((M.1 a0 8) - (M.1 a0 10)) = r2 then (iterC (fun (rec5 : Int → Option Int) (s6 : Int) => (fS_len a1).bind fun r7 => if s6 < r7 then ((fX3_byteAt M a0 (w32 ((M.1 a0 10) + s6))).bind fun r10 => (fS_chr a1 s6).bind fun r12 => if r10 = r12 then (rec5 (w32 (s6 + 1))) else (some 0)) else (some 1)) BIG 0) else (some 0) else none
set_option maxRecDepth 100000 in
set_option maxHeartbeats 4000000 in
theorem kX3_isWord (d : Nat) (hd : 6 ≤ d) (M : Mem) (a0 a1 : Int) : Ct mX3_isWord d 0 0 [pA a0, pA a1] M (dI M) (fX3_isWord M a0 a1) := by
  obtain ⟨d, rfl⟩ : ∃ k, d = k + 1 := ⟨d - 1, by omega⟩
  refine Ct.of 1 (fun _ _ _ => trivial) (by decide +kernel) rfl ?_
  unfold fX3_isWord
  refine v_aload_n dX3_isWord_0 rfl ?_
  refine v_if (fun h1 => ?_)
  refine v_get (v := pI (M.1 a0 8)) 3 8 rfl inX3 (by decide) tw268 dX3_isWord_1 h1 rfl ?_
  refine v_aload_n dX3_isWord_4 rfl ?_
  refine v_get (v := pI (M.1 a0 10)) 3 10 rfl inX3 (by decide) tw270 dX3_isWord_5 h1 rfl ?_
  refine v_isub dX3_isWord_8 ?_
  refine v_aload_n dX3_isWord_9 rfl ?_
  refine v_slen (mi := mX3_isWord) (by omega) tw542 (Nat.le_of_ble_eq_true rfl) dX3_isWord_10 (fun r2 h3 => ?_)
  refine v_icmp_eq (tgt := 18) dX3_isWord_13 (by decide) (fun c4 => ?_) (fun c4 => ?_)
  · refine v_iconst dX3_isWord_18 (by decide) ?_
    refine v_istore_n (ls' := [some (pA a0), some (pA a1), some (pI 0)]) dX3_isWord_19 (by decide) rfl ?_
    refine v_loop (fun (s6 : Int) => [some (pA a0), some (pA a1), some (pI s6)]) (fun (s6 : Int) => M) (s0 := 0) ?_
    intro rec5 hrec5 s6
    refine v_iload_n dX3_isWord_20 rfl ?_
    refine v_aload_n dX3_isWord_21 rfl ?_
    refine v_slen (mi := mX3_isWord) (by omega) tw542 (Nat.le_of_ble_eq_true rfl) dX3_isWord_22 (fun r7 h8 => ?_)
    refine v_icmp_ge (tgt := 54) dX3_isWord_25 (by decide) (fun c9 => ?_) (fun c9 => ?_)
    · refine v_aload_n dX3_isWord_28 rfl ?_
      refine v_aload_n dX3_isWord_29 rfl ?_
      refine v_get (v := pI (M.1 a0 10)) 3 10 rfl inX3 (by decide) tw270 dX3_isWord_30 h1 rfl ?_
      refine v_iload_n dX3_isWord_33 rfl ?_
      refine v_iadd dX3_isWord_34 ?_
      refine v_cV (mi := mX3_isWord) (c0 := 0) (c1 := 0) (As := [pI (w32 ((M.1 a0 10) + s6))]) (st := []) (kX3_byteAt d (by omega) _ _ _) rfl h1 rfl okX3_byteAt (Or.inl tw489) tw491 tp2 rfl (Nat.le_of_ble_eq_true rfl) dX3_isWord_35 (fun r10 => [pI r10]) (fun r10 => M) (fun _ => rfl) (fun _ => rfl) (fun r10 h11 => ?_) rfl
      refine v_aload_n dX3_isWord_38 rfl ?_
      refine v_iload_n dX3_isWord_39 rfl ?_
      refine v_schr (mi := mX3_isWord) (by omega) tw552 (Nat.le_of_ble_eq_true rfl) dX3_isWord_40 (fun r12 h13 => ?_)
      refine v_icmp_eq (tgt := 48) dX3_isWord_43 (by decide) (fun c14 => ?_) (fun c14 => ?_)
      · refine v_iinc (ls' := [some (pA a0), some (pA a1), some (pI (w32 (s6 + 1)))]) dX3_isWord_48 (by decide) rfl rfl ?_
        refine v_goto (tgt := 20) dX3_isWord_51 (by decide) ?_
        exact hrec5 (w32 (s6 + 1))
      · refine v_iconst dX3_isWord_46 (by decide) ?_
        exact v_breturn dX3_isWord_47 rfl (by decide) rfl
    · refine v_iconst dX3_isWord_54 (by decide) ?_
      exact v_breturn dX3_isWord_55 rfl (by decide) rfl
  · refine v_iconst dX3_isWord_16 (by decide) ?_
    exact v_breturn dX3_isWord_17 rfl (by decide) rfl
theorem chX3_lineOf_0 : (cX3_lineOf.data.toList.drop 0).take 16 = [27, 155, 0, 8, 27, 7, 161, 0, 5, 2, 172, 178, 0, 142, 27, 46] := by decide +kernel
theorem chX3_lineOf_1 : (cX3_lineOf.data.toList.drop 16).take 16 = [61, 28, 178, 0, 142, 27, 4, 96, 46, 162, 0, 22, 42, 28, 184, 0] := by decide +kernel
theorem chX3_lineOf_2 : (cX3_lineOf.data.toList.drop 32).take 16 = [145, 182, 0, 149, 153, 0, 5, 28, 172, 132, 2, 1, 167, 255, 229, 2] := by decide +kernel
theorem chX3_lineOf_3 : (cX3_lineOf.data.toList.drop 48).take 16 = [172] := by decide +kernel
theorem dX3_lineOf_0 : decode cX3_lineOf 0 = .ok (.iload_n 1, 1) := oq_27 (byt chX3_lineOf_0 0 rfl)
theorem dX3_lineOf_1 : decode cX3_lineOf 1 = .ok (.ifCond .lt 8, 3) := oq_155 (byt chX3_lineOf_0 1 rfl) (byt chX3_lineOf_0 2 rfl) (byt chX3_lineOf_0 3 rfl) (by decide +kernel)
theorem dX3_lineOf_4 : decode cX3_lineOf 4 = .ok (.iload_n 1, 1) := oq_27 (byt chX3_lineOf_0 4 rfl)
theorem dX3_lineOf_5 : decode cX3_lineOf 5 = .ok (.iconst 4, 1) := oq_7 (byt chX3_lineOf_0 5 rfl)
theorem dX3_lineOf_6 : decode cX3_lineOf 6 = .ok (.if_icmp .lt 5, 3) := oq_161 (byt chX3_lineOf_0 6 rfl) (byt chX3_lineOf_0 7 rfl) (byt chX3_lineOf_0 8 rfl) (by decide +kernel)
theorem dX3_lineOf_9 : decode cX3_lineOf 9 = .ok (.iconst (-1), 1) := oq_2 (byt chX3_lineOf_0 9 rfl)
theorem dX3_lineOf_10 : decode cX3_lineOf 10 = .ok (.ireturn, 1) := oq_172 (byt chX3_lineOf_0 10 rfl)
theorem dX3_lineOf_11 : decode cX3_lineOf 11 = .ok (.getstatic 142, 3) := oq_178 (byt chX3_lineOf_0 11 rfl) (byt chX3_lineOf_0 12 rfl) (byt chX3_lineOf_0 13 rfl) rfl
theorem dX3_lineOf_14 : decode cX3_lineOf 14 = .ok (.iload_n 1, 1) := oq_27 (byt chX3_lineOf_0 14 rfl)
theorem dX3_lineOf_15 : decode cX3_lineOf 15 = .ok (.iaload, 1) := oq_46 (byt chX3_lineOf_0 15 rfl)
theorem dX3_lineOf_16 : decode cX3_lineOf 16 = .ok (.istore_n 2, 1) := oq_61 (byt chX3_lineOf_1 0 rfl)
theorem dX3_lineOf_17 : decode cX3_lineOf 17 = .ok (.iload_n 2, 1) := oq_28 (byt chX3_lineOf_1 1 rfl)
theorem dX3_lineOf_18 : decode cX3_lineOf 18 = .ok (.getstatic 142, 3) := oq_178 (byt chX3_lineOf_1 2 rfl) (byt chX3_lineOf_1 3 rfl) (byt chX3_lineOf_1 4 rfl) rfl
theorem dX3_lineOf_21 : decode cX3_lineOf 21 = .ok (.iload_n 1, 1) := oq_27 (byt chX3_lineOf_1 5 rfl)
theorem dX3_lineOf_22 : decode cX3_lineOf 22 = .ok (.iconst 1, 1) := oq_4 (byt chX3_lineOf_1 6 rfl)
theorem dX3_lineOf_23 : decode cX3_lineOf 23 = .ok (.iadd, 1) := oq_96 (byt chX3_lineOf_1 7 rfl)
theorem dX3_lineOf_24 : decode cX3_lineOf 24 = .ok (.iaload, 1) := oq_46 (byt chX3_lineOf_1 8 rfl)
theorem dX3_lineOf_25 : decode cX3_lineOf 25 = .ok (.if_icmp .ge 22, 3) := oq_162 (byt chX3_lineOf_1 9 rfl) (byt chX3_lineOf_1 10 rfl) (byt chX3_lineOf_1 11 rfl) (by decide +kernel)
theorem dX3_lineOf_28 : decode cX3_lineOf 28 = .ok (.aload_n 0, 1) := oq_42 (byt chX3_lineOf_1 12 rfl)
theorem dX3_lineOf_29 : decode cX3_lineOf 29 = .ok (.iload_n 2, 1) := oq_28 (byt chX3_lineOf_1 13 rfl)
theorem dX3_lineOf_30 : decode cX3_lineOf 30 = .ok (.invokestatic 145, 3) := oq_184 (byt chX3_lineOf_1 14 rfl) (byt chX3_lineOf_1 15 rfl) (byt chX3_lineOf_2 0 rfl) rfl
theorem dX3_lineOf_33 : decode cX3_lineOf 33 = .ok (.invokevirtual 149, 3) := oq_182 (byt chX3_lineOf_2 1 rfl) (byt chX3_lineOf_2 2 rfl) (byt chX3_lineOf_2 3 rfl) rfl
theorem dX3_lineOf_36 : decode cX3_lineOf 36 = .ok (.ifCond .eq 5, 3) := oq_153 (byt chX3_lineOf_2 4 rfl) (byt chX3_lineOf_2 5 rfl) (byt chX3_lineOf_2 6 rfl) (by decide +kernel)
theorem dX3_lineOf_39 : decode cX3_lineOf 39 = .ok (.iload_n 2, 1) := oq_28 (byt chX3_lineOf_2 7 rfl)
theorem dX3_lineOf_40 : decode cX3_lineOf 40 = .ok (.ireturn, 1) := oq_172 (byt chX3_lineOf_2 8 rfl)
theorem dX3_lineOf_41 : decode cX3_lineOf 41 = .ok (.iinc 2 1, 3) := oq_132 (byt chX3_lineOf_2 9 rfl) (byt chX3_lineOf_2 10 rfl) (byt chX3_lineOf_2 11 rfl) rfl
theorem dX3_lineOf_44 : decode cX3_lineOf 44 = .ok (.goto (-27), 3) := oq_167 (byt chX3_lineOf_2 12 rfl) (byt chX3_lineOf_2 13 rfl) (byt chX3_lineOf_2 14 rfl) (by decide +kernel)
theorem dX3_lineOf_47 : decode cX3_lineOf 47 = .ok (.iconst (-1), 1) := oq_2 (byt chX3_lineOf_2 15 rfl)
theorem dX3_lineOf_48 : decode cX3_lineOf 48 = .ok (.ireturn, 1) := oq_172 (byt chX3_lineOf_3 0 rfl)
abbrev mX3_lineOf : MI := (yX3_lineOf, cX3_lineOf, 3, (some .int), noE)
theorem okX3_lineOf : cok mX3_lineOf 1 := ⟨tw513, tw7, by decide, by decide, by decide, by decide +kernel⟩
def fX3_lineOf (M : Mem) (a0 a1 : Int) : Option Int :=
  if a1 < 0 then (some (-1)) else (if a1 < 4 then (if (0 : Int) ≤ a1 ∧ a1 < 5 then iterC (fun (rec4 : Int → Option Int) (s5 : Int) => if (0 : Int) ≤ (w32 (a1 + 1)) ∧ (w32 (a1 + 1)) < 5 then if s5 < (sTab 0).getD (w32 (a1 + 1)).toNat 0 then ((fX3_wordOf M s5).bind fun r8 => if M.2.1 a0 = 3 then (fX3_isWord M a0 r8).bind fun r10 => if r10 = 0 then (rec4 (w32 (s5 + 1))) else (some s5) else none) else (some (-1)) else none) BIG ((sTab 0).getD a1.toNat 0) else none) else (some (-1)))
set_option maxRecDepth 100000 in
set_option maxHeartbeats 4000000 in
theorem kX3_lineOf (d : Nat) (hd : 7 ≤ d) (M : Mem) (a0 a1 : Int) : Ct mX3_lineOf d 0 0 [pA a0, pI a1] M (dI M) (fX3_lineOf M a0 a1) := by
  obtain ⟨d, rfl⟩ : ∃ k, d = k + 1 := ⟨d - 1, by omega⟩
  refine Ct.of 1 (fun _ _ _ => trivial) (by decide +kernel) rfl ?_
  unfold fX3_lineOf
  refine v_iload_n dX3_lineOf_0 rfl ?_
  refine v_if_lt (tgt := 9) dX3_lineOf_1 (by decide) (fun c1 => ?_) (fun c1 => ?_)
  · refine v_iconst dX3_lineOf_9 (by decide) ?_
    exact v_ireturn dX3_lineOf_10 rfl rfl
  · refine v_iload_n dX3_lineOf_4 rfl ?_
    refine v_iconst dX3_lineOf_5 (by decide) ?_
    refine v_icmp_lt (tgt := 11) dX3_lineOf_6 (by decide) (fun c2 => ?_) (fun c2 => ?_)
    · refine v_gets (mi := mX3_lineOf) 0 (by decide) tw514 dX3_lineOf_11 rfl ?_
      refine v_iload_n dX3_lineOf_14 rfl ?_
      refine v_if (fun h3 => ?_)
      refine v_ciald (mi := mX3_lineOf) 0 (by decide) rfl rfl h3 dX3_lineOf_15 ?_
      refine v_istore_n (ls' := [some (pA a0), some (pI a1), some (pI ((sTab 0).getD a1.toNat 0))]) dX3_lineOf_16 (by decide) rfl ?_
      refine v_loop (fun (s5 : Int) => [some (pA a0), some (pI a1), some (pI s5)]) (fun (s5 : Int) => M) (s0 := (sTab 0).getD a1.toNat 0) ?_
      intro rec4 hrec4 s5
      refine v_iload_n dX3_lineOf_17 rfl ?_
      refine v_gets (mi := mX3_lineOf) 0 (by decide) tw514 dX3_lineOf_18 rfl ?_
      refine v_iload_n dX3_lineOf_21 rfl ?_
      refine v_iconst dX3_lineOf_22 (by decide) ?_
      refine v_iadd dX3_lineOf_23 ?_
      refine v_if (fun h6 => ?_)
      refine v_ciald (mi := mX3_lineOf) 0 (by decide) rfl rfl h6 dX3_lineOf_24 ?_
      refine v_icmp_ge (tgt := 47) dX3_lineOf_25 (by decide) (fun c7 => ?_) (fun c7 => ?_)
      · refine v_aload_n dX3_lineOf_28 rfl ?_
        refine v_iload_n dX3_lineOf_29 rfl ?_
        refine v_cS (mi := mX3_lineOf) (c0 := 0) (c1 := 0) (As := [pI s5]) (st := [pA a0]) (kX3_wordOf d (by omega) _ _) okX3_wordOf (Or.inl tw516) tw517 rfl (Nat.le_of_ble_eq_true rfl) dX3_lineOf_30 (fun r8 => [pA r8, pA a0]) (fun r8 => M) (fun _ => rfl) (fun _ => rfl) (fun r8 h9 => ?_) rfl
        refine v_if (fun h12 => ?_)
        refine v_cV (mi := mX3_lineOf) (c0 := 0) (c1 := 0) (As := [pA r8]) (st := []) (kX3_isWord d (by omega) _ _ _) rfl h12 rfl okX3_isWord (Or.inl tw538) tw540 tp6 rfl (Nat.le_of_ble_eq_true rfl) dX3_lineOf_33 (fun r10 => [pI r10]) (fun r10 => M) (fun _ => rfl) (fun _ => rfl) (fun r10 h11 => ?_) rfl
        refine v_if_eq (tgt := 41) dX3_lineOf_36 (by decide) (fun c13 => ?_) (fun c13 => ?_)
        · refine v_iinc (ls' := [some (pA a0), some (pI a1), some (pI (w32 (s5 + 1)))]) dX3_lineOf_41 (by decide) rfl rfl ?_
          refine v_goto (tgt := 17) dX3_lineOf_44 (by decide) ?_
          exact hrec4 (w32 (s5 + 1))
        · refine v_iload_n dX3_lineOf_39 rfl ?_
          exact v_ireturn dX3_lineOf_40 rfl rfl
      · refine v_iconst dX3_lineOf_47 (by decide) ?_
        exact v_ireturn dX3_lineOf_48 rfl rfl
    · refine v_iconst dX3_lineOf_9 (by decide) ?_
      exact v_ireturn dX3_lineOf_10 rfl rfl
theorem chX3_breakOff_0 : (cX3_breakOff.data.toList.drop 0).take 16 = [42, 4, 181, 0, 69, 42, 4, 181, 0, 9, 42, 42, 180, 0, 59, 181] := by decide +kernel
theorem chX3_breakOff_1 : (cX3_breakOff.data.toList.drop 16).take 16 = [0, 15, 177] := by decide +kernel
theorem dX3_breakOff_0 : decode cX3_breakOff 0 = .ok (.aload_n 0, 1) := oq_42 (byt chX3_breakOff_0 0 rfl)
theorem dX3_breakOff_1 : decode cX3_breakOff 1 = .ok (.iconst 1, 1) := oq_4 (byt chX3_breakOff_0 1 rfl)
theorem dX3_breakOff_2 : decode cX3_breakOff 2 = .ok (.putfield 69, 3) := oq_181 (byt chX3_breakOff_0 2 rfl) (byt chX3_breakOff_0 3 rfl) (byt chX3_breakOff_0 4 rfl) rfl
theorem dX3_breakOff_5 : decode cX3_breakOff 5 = .ok (.aload_n 0, 1) := oq_42 (byt chX3_breakOff_0 5 rfl)
theorem dX3_breakOff_6 : decode cX3_breakOff 6 = .ok (.iconst 1, 1) := oq_4 (byt chX3_breakOff_0 6 rfl)
theorem dX3_breakOff_7 : decode cX3_breakOff 7 = .ok (.putfield 9, 3) := oq_181 (byt chX3_breakOff_0 7 rfl) (byt chX3_breakOff_0 8 rfl) (byt chX3_breakOff_0 9 rfl) rfl
theorem dX3_breakOff_10 : decode cX3_breakOff 10 = .ok (.aload_n 0, 1) := oq_42 (byt chX3_breakOff_0 10 rfl)
theorem dX3_breakOff_11 : decode cX3_breakOff 11 = .ok (.aload_n 0, 1) := oq_42 (byt chX3_breakOff_0 11 rfl)
theorem dX3_breakOff_12 : decode cX3_breakOff 12 = .ok (.getfield 59, 3) := oq_180 (byt chX3_breakOff_0 12 rfl) (byt chX3_breakOff_0 13 rfl) (byt chX3_breakOff_0 14 rfl) rfl
theorem dX3_breakOff_15 : decode cX3_breakOff 15 = .ok (.putfield 15, 3) := oq_181 (byt chX3_breakOff_0 15 rfl) (byt chX3_breakOff_1 0 rfl) (byt chX3_breakOff_1 1 rfl) rfl
theorem dX3_breakOff_18 : decode cX3_breakOff 18 = .ok (.return_, 1) := oq_177 (byt chX3_breakOff_1 2 rfl)
abbrev mX3_breakOff : MI := (yX3_breakOff, cX3_breakOff, 1, none, noE)
theorem okX3_breakOff : cok mX3_breakOff 0 := ⟨tw593, tw7, by decide, by decide, by decide, by decide +kernel⟩
def fX3_breakOff (M : Mem) (a0 : Int) : Option Mem :=
  if M.2.1 a0 = 3 then bM (mst M a0 13 1) fun M2 => bM (mst M2 a0 0 1) fun M4 => bM (mst M4 a0 1 (M4.1 a0 10)) fun M6 => some M6 else none
set_option maxRecDepth 100000 in
set_option maxHeartbeats 4000000 in
theorem kX3_breakOff (d : Nat) (hd : 0 ≤ d) (M : Mem) (a0 : Int) : Ct mX3_breakOff d 0 0 [pA a0] M dV (fX3_breakOff M a0) := by
  refine Ct.of 0 (fun _ _ _ => trivial) (by decide +kernel) rfl ?_
  unfold fX3_breakOff
  refine v_aload_n dX3_breakOff_0 rfl ?_
  refine v_iconst dX3_breakOff_1 (by decide) ?_
  refine v_if (fun h1 => ?_)
  refine v_put (x := 1) 3 13 rfl inX3 (by decide) tw273 (Or.inl rfl) rfl dX3_breakOff_2 h1 rfl (fun _ => by first | exact Or.inl rfl | exact Or.inr rfl) ?_
  refine v_bM (fun M2 e3 => ?_)
  refine v_aload_n dX3_breakOff_5 rfl ?_
  refine v_iconst dX3_breakOff_6 (by decide) ?_
  refine v_put (x := 1) 3 0 rfl inX3 (by decide) tw254 (Or.inl rfl) rfl dX3_breakOff_7 (by rw [e3]; exact h1) rfl id ?_
  refine v_bM (fun M4 e5 => ?_)
  refine v_aload_n dX3_breakOff_10 rfl ?_
  refine v_aload_n dX3_breakOff_11 rfl ?_
  refine v_get (v := pI (M4.1 a0 10)) 3 10 rfl inX3 (by decide) tw270 dX3_breakOff_12 (by rw [e5, e3]; exact h1) rfl ?_
  refine v_put (x := M4.1 a0 10) 3 1 rfl inX3 (by decide) tw256 (Or.inl rfl) rfl dX3_breakOff_15 (by rw [e5, e3]; exact h1) rfl id ?_
  refine v_bM (fun M6 e7 => ?_)
  exact v_return dX3_breakOff_18 rfl rfl
theorem chX3_isFull_0 : (cX3_isFull.data.toList.drop 0).take 16 = [27, 16, 8, 160, 0, 20, 42, 180, 0, 21, 180, 0, 99, 7, 161, 0] := by decide +kernel
theorem chX3_isFull_1 : (cX3_isFull.data.toList.drop 16).take 16 = [7, 4, 167, 0, 4, 3, 172, 27, 16, 12, 161, 0, 27, 27, 16, 15] := by decide +kernel
theorem chX3_isFull_2 : (cX3_isFull.data.toList.drop 32).take 16 = [163, 0, 21, 42, 180, 0, 35, 180, 0, 138, 16, 40, 161, 0, 7, 4] := by decide +kernel
theorem chX3_isFull_3 : (cX3_isFull.data.toList.drop 48).take 16 = [167, 0, 4, 3, 172, 27, 16, 16, 160, 0, 19, 42, 180, 0, 42, 180] := by decide +kernel
theorem chX3_isFull_4 : (cX3_isFull.data.toList.drop 64).take 16 = [0, 141, 16, 8, 161, 0, 7, 4, 167, 0, 4, 3, 172] := by decide +kernel
theorem dX3_isFull_0 : decode cX3_isFull 0 = .ok (.iload_n 1, 1) := oq_27 (byt chX3_isFull_0 0 rfl)
theorem dX3_isFull_1 : decode cX3_isFull 1 = .ok (.bipush 8, 2) := oq_16 (byt chX3_isFull_0 1 rfl) (byt chX3_isFull_0 2 rfl) rfl
theorem dX3_isFull_3 : decode cX3_isFull 3 = .ok (.if_icmp .ne 20, 3) := oq_160 (byt chX3_isFull_0 3 rfl) (byt chX3_isFull_0 4 rfl) (byt chX3_isFull_0 5 rfl) (by decide +kernel)
theorem dX3_isFull_6 : decode cX3_isFull 6 = .ok (.aload_n 0, 1) := oq_42 (byt chX3_isFull_0 6 rfl)
theorem dX3_isFull_7 : decode cX3_isFull 7 = .ok (.getfield 21, 3) := oq_180 (byt chX3_isFull_0 7 rfl) (byt chX3_isFull_0 8 rfl) (byt chX3_isFull_0 9 rfl) rfl
theorem dX3_isFull_10 : decode cX3_isFull 10 = .ok (.getfield 99, 3) := oq_180 (byt chX3_isFull_0 10 rfl) (byt chX3_isFull_0 11 rfl) (byt chX3_isFull_0 12 rfl) rfl
theorem dX3_isFull_13 : decode cX3_isFull 13 = .ok (.iconst 4, 1) := oq_7 (byt chX3_isFull_0 13 rfl)
theorem dX3_isFull_14 : decode cX3_isFull 14 = .ok (.if_icmp .lt 7, 3) := oq_161 (byt chX3_isFull_0 14 rfl) (byt chX3_isFull_0 15 rfl) (byt chX3_isFull_1 0 rfl) (by decide +kernel)
theorem dX3_isFull_17 : decode cX3_isFull 17 = .ok (.iconst 1, 1) := oq_4 (byt chX3_isFull_1 1 rfl)
theorem dX3_isFull_18 : decode cX3_isFull 18 = .ok (.goto 4, 3) := oq_167 (byt chX3_isFull_1 2 rfl) (byt chX3_isFull_1 3 rfl) (byt chX3_isFull_1 4 rfl) (by decide +kernel)
theorem dX3_isFull_21 : decode cX3_isFull 21 = .ok (.iconst 0, 1) := oq_3 (byt chX3_isFull_1 5 rfl)
theorem dX3_isFull_22 : decode cX3_isFull 22 = .ok (.ireturn, 1) := oq_172 (byt chX3_isFull_1 6 rfl)
theorem dX3_isFull_23 : decode cX3_isFull 23 = .ok (.iload_n 1, 1) := oq_27 (byt chX3_isFull_1 7 rfl)
theorem dX3_isFull_24 : decode cX3_isFull 24 = .ok (.bipush 12, 2) := oq_16 (byt chX3_isFull_1 8 rfl) (byt chX3_isFull_1 9 rfl) rfl
theorem dX3_isFull_26 : decode cX3_isFull 26 = .ok (.if_icmp .lt 27, 3) := oq_161 (byt chX3_isFull_1 10 rfl) (byt chX3_isFull_1 11 rfl) (byt chX3_isFull_1 12 rfl) (by decide +kernel)
theorem dX3_isFull_29 : decode cX3_isFull 29 = .ok (.iload_n 1, 1) := oq_27 (byt chX3_isFull_1 13 rfl)
theorem dX3_isFull_30 : decode cX3_isFull 30 = .ok (.bipush 15, 2) := oq_16 (byt chX3_isFull_1 14 rfl) (byt chX3_isFull_1 15 rfl) rfl
theorem dX3_isFull_32 : decode cX3_isFull 32 = .ok (.if_icmp .gt 21, 3) := oq_163 (byt chX3_isFull_2 0 rfl) (byt chX3_isFull_2 1 rfl) (byt chX3_isFull_2 2 rfl) (by decide +kernel)
theorem dX3_isFull_35 : decode cX3_isFull 35 = .ok (.aload_n 0, 1) := oq_42 (byt chX3_isFull_2 3 rfl)
theorem dX3_isFull_36 : decode cX3_isFull 36 = .ok (.getfield 35, 3) := oq_180 (byt chX3_isFull_2 4 rfl) (byt chX3_isFull_2 5 rfl) (byt chX3_isFull_2 6 rfl) rfl
theorem dX3_isFull_39 : decode cX3_isFull 39 = .ok (.getfield 138, 3) := oq_180 (byt chX3_isFull_2 7 rfl) (byt chX3_isFull_2 8 rfl) (byt chX3_isFull_2 9 rfl) rfl
theorem dX3_isFull_42 : decode cX3_isFull 42 = .ok (.bipush 40, 2) := oq_16 (byt chX3_isFull_2 10 rfl) (byt chX3_isFull_2 11 rfl) rfl
theorem dX3_isFull_44 : decode cX3_isFull 44 = .ok (.if_icmp .lt 7, 3) := oq_161 (byt chX3_isFull_2 12 rfl) (byt chX3_isFull_2 13 rfl) (byt chX3_isFull_2 14 rfl) (by decide +kernel)
theorem dX3_isFull_47 : decode cX3_isFull 47 = .ok (.iconst 1, 1) := oq_4 (byt chX3_isFull_2 15 rfl)
theorem dX3_isFull_48 : decode cX3_isFull 48 = .ok (.goto 4, 3) := oq_167 (byt chX3_isFull_3 0 rfl) (byt chX3_isFull_3 1 rfl) (byt chX3_isFull_3 2 rfl) (by decide +kernel)
theorem dX3_isFull_51 : decode cX3_isFull 51 = .ok (.iconst 0, 1) := oq_3 (byt chX3_isFull_3 3 rfl)
theorem dX3_isFull_52 : decode cX3_isFull 52 = .ok (.ireturn, 1) := oq_172 (byt chX3_isFull_3 4 rfl)
theorem dX3_isFull_53 : decode cX3_isFull 53 = .ok (.iload_n 1, 1) := oq_27 (byt chX3_isFull_3 5 rfl)
theorem dX3_isFull_54 : decode cX3_isFull 54 = .ok (.bipush 16, 2) := oq_16 (byt chX3_isFull_3 6 rfl) (byt chX3_isFull_3 7 rfl) rfl
theorem dX3_isFull_56 : decode cX3_isFull 56 = .ok (.if_icmp .ne 19, 3) := oq_160 (byt chX3_isFull_3 8 rfl) (byt chX3_isFull_3 9 rfl) (byt chX3_isFull_3 10 rfl) (by decide +kernel)
theorem dX3_isFull_59 : decode cX3_isFull 59 = .ok (.aload_n 0, 1) := oq_42 (byt chX3_isFull_3 11 rfl)
theorem dX3_isFull_60 : decode cX3_isFull 60 = .ok (.getfield 42, 3) := oq_180 (byt chX3_isFull_3 12 rfl) (byt chX3_isFull_3 13 rfl) (byt chX3_isFull_3 14 rfl) rfl
theorem dX3_isFull_63 : decode cX3_isFull 63 = .ok (.getfield 141, 3) := oq_180 (byt chX3_isFull_3 15 rfl) (byt chX3_isFull_4 0 rfl) (byt chX3_isFull_4 1 rfl) rfl
theorem dX3_isFull_66 : decode cX3_isFull 66 = .ok (.bipush 8, 2) := oq_16 (byt chX3_isFull_4 2 rfl) (byt chX3_isFull_4 3 rfl) rfl
theorem dX3_isFull_68 : decode cX3_isFull 68 = .ok (.if_icmp .lt 7, 3) := oq_161 (byt chX3_isFull_4 4 rfl) (byt chX3_isFull_4 5 rfl) (byt chX3_isFull_4 6 rfl) (by decide +kernel)
theorem dX3_isFull_71 : decode cX3_isFull 71 = .ok (.iconst 1, 1) := oq_4 (byt chX3_isFull_4 7 rfl)
theorem dX3_isFull_72 : decode cX3_isFull 72 = .ok (.goto 4, 3) := oq_167 (byt chX3_isFull_4 8 rfl) (byt chX3_isFull_4 9 rfl) (byt chX3_isFull_4 10 rfl) (by decide +kernel)
theorem dX3_isFull_75 : decode cX3_isFull 75 = .ok (.iconst 0, 1) := oq_3 (byt chX3_isFull_4 11 rfl)
theorem dX3_isFull_76 : decode cX3_isFull 76 = .ok (.ireturn, 1) := oq_172 (byt chX3_isFull_4 12 rfl)
abbrev mX3_isFull : MI := (yX3_isFull, cX3_isFull, 2, (some .boolean), noE)
theorem okX3_isFull : cok mX3_isFull 1 := ⟨tw597, tw7, by decide, by decide, by decide, by decide +kernel⟩
def fX3_isFull (M : Mem) (a0 a1 : Int) : Option Int :=
  if a1 = 8 then (if M.2.1 a0 = 3 then if M.2.1 (M.1 a0 2) = 7 then if M.1 (M.1 a0 2) 1 < 4 then (some 0) else (some 1) else none else none) else (jn (fun (t6 : Unit) => if a1 = 16 then (if M.2.1 a0 = 3 then if M.2.1 (M.1 a0 5) = 4 then if M.1 (M.1 a0 5) 0 < 8 then (some 0) else (some 1) else none else none) else (some 0)) (fun (j5 : Unit → Option Int) => if a1 < 12 then (j5 ()) else (if 15 < a1 then (j5 ()) else (if M.2.1 a0 = 3 then if M.2.1 (M.1 a0 4) = 1 then if M.1 (M.1 a0 4) 0 < 40 then (some 0) else (some 1) else none else none))))
set_option maxRecDepth 100000 in
set_option maxHeartbeats 4000000 in
theorem kX3_isFull (d : Nat) (hd : 0 ≤ d) (M : Mem) (a0 a1 : Int) : Ct mX3_isFull d 0 0 [pA a0, pI a1] M (dI M) (fX3_isFull M a0 a1) := by
  refine Ct.of 0 (fun _ _ _ => trivial) (by decide +kernel) rfl ?_
  unfold fX3_isFull
  refine v_iload_n dX3_isFull_0 rfl ?_
  refine v_bipush dX3_isFull_1 (by decide) ?_
  refine v_icmp_ne (tgt := 23) dX3_isFull_3 (by decide) (fun c1 => ?_) (fun c1 => ?_)
  · refine v_aload_n dX3_isFull_6 rfl ?_
    refine v_if (fun h2 => ?_)
    refine v_get (v := pA (M.1 a0 2)) 3 2 rfl inX3 (by decide) tw258 dX3_isFull_7 h2 rfl ?_
    refine v_if (fun h3 => ?_)
    refine v_get (v := pI (M.1 (M.1 a0 2) 1)) 7 1 rfl inX7 (by decide) tw62 dX3_isFull_10 h3 rfl ?_
    refine v_iconst dX3_isFull_13 (by decide) ?_
    refine v_icmp_lt (tgt := 21) dX3_isFull_14 (by decide) (fun c4 => ?_) (fun c4 => ?_)
    · refine v_iconst dX3_isFull_21 (by decide) ?_
      exact v_breturn dX3_isFull_22 rfl (by decide) rfl
    · refine v_iconst dX3_isFull_17 (by decide) ?_
      refine v_goto (tgt := 22) dX3_isFull_18 (by decide) ?_
      exact v_breturn dX3_isFull_22 rfl (by decide) rfl
  · refine v_iload_n dX3_isFull_23 rfl ?_
    refine v_bipush dX3_isFull_24 (by decide) ?_
    refine v_join (fun (t6 : Unit) => [some (pA a0), some (pI a1)]) (fun (t6 : Unit) => []) (fun (t6 : Unit) => M) 53 (fun t6 => ?_) (fun j5 hj5 => ?_)
    · refine v_iload_n dX3_isFull_53 rfl ?_
      refine v_bipush dX3_isFull_54 (by decide) ?_
      refine v_icmp_ne (tgt := 75) dX3_isFull_56 (by decide) (fun c7 => ?_) (fun c7 => ?_)
      · refine v_aload_n dX3_isFull_59 rfl ?_
        refine v_if (fun h8 => ?_)
        refine v_get (v := pA (M.1 a0 5)) 3 5 rfl inX3 (by decide) tw264 dX3_isFull_60 h8 rfl ?_
        refine v_if (fun h9 => ?_)
        refine v_get (v := pI (M.1 (M.1 a0 5) 0)) 4 0 rfl inX4 (by decide) tw186 dX3_isFull_63 h9 rfl ?_
        refine v_bipush dX3_isFull_66 (by decide) ?_
        refine v_icmp_lt (tgt := 75) dX3_isFull_68 (by decide) (fun c10 => ?_) (fun c10 => ?_)
        · refine v_iconst dX3_isFull_75 (by decide) ?_
          exact v_breturn dX3_isFull_76 rfl (by decide) rfl
        · refine v_iconst dX3_isFull_71 (by decide) ?_
          refine v_goto (tgt := 76) dX3_isFull_72 (by decide) ?_
          exact v_breturn dX3_isFull_76 rfl (by decide) rfl
      · refine v_iconst dX3_isFull_75 (by decide) ?_
        exact v_breturn dX3_isFull_76 rfl (by decide) rfl
    · refine v_icmp_lt (tgt := 53) dX3_isFull_26 (by decide) (fun c11 => ?_) (fun c11 => ?_)
      · exact hj5 ()
      · refine v_iload_n dX3_isFull_29 rfl ?_
        refine v_bipush dX3_isFull_30 (by decide) ?_
        refine v_icmp_gt (tgt := 53) dX3_isFull_32 (by decide) (fun c12 => ?_) (fun c12 => ?_)
        · exact hj5 ()
        · refine v_aload_n dX3_isFull_35 rfl ?_
          refine v_if (fun h13 => ?_)
          refine v_get (v := pA (M.1 a0 4)) 3 4 rfl inX3 (by decide) tw262 dX3_isFull_36 h13 rfl ?_
          refine v_if (fun h14 => ?_)
          refine v_get (v := pI (M.1 (M.1 a0 4) 0)) 1 0 rfl inX1 (by decide) tw150 dX3_isFull_39 h14 rfl ?_
          refine v_bipush dX3_isFull_42 (by decide) ?_
          refine v_icmp_lt (tgt := 51) dX3_isFull_44 (by decide) (fun c15 => ?_) (fun c15 => ?_)
          · refine v_iconst dX3_isFull_51 (by decide) ?_
            exact v_breturn dX3_isFull_52 rfl (by decide) rfl
          · refine v_iconst dX3_isFull_47 (by decide) ?_
            refine v_goto (tgt := 52) dX3_isFull_48 (by decide) ?_
            exact v_breturn dX3_isFull_52 rfl (by decide) rfl
theorem chX3_note_0 : (cX3_note.data.toList.drop 0).take 16 = [42, 180, 0, 9, 154, 0, 13, 42, 27, 181, 0, 9, 42, 28, 181, 0] := by decide +kernel
theorem chX3_note_1 : (cX3_note.data.toList.drop 16).take 16 = [15, 177] := by decide +kernel
theorem dX3_note_0 : decode cX3_note 0 = .ok (.aload_n 0, 1) := oq_42 (byt chX3_note_0 0 rfl)
theorem dX3_note_1 : decode cX3_note 1 = .ok (.getfield 9, 3) := oq_180 (byt chX3_note_0 1 rfl) (byt chX3_note_0 2 rfl) (byt chX3_note_0 3 rfl) rfl
theorem dX3_note_4 : decode cX3_note 4 = .ok (.ifCond .ne 13, 3) := oq_154 (byt chX3_note_0 4 rfl) (byt chX3_note_0 5 rfl) (byt chX3_note_0 6 rfl) (by decide +kernel)
theorem dX3_note_7 : decode cX3_note 7 = .ok (.aload_n 0, 1) := oq_42 (byt chX3_note_0 7 rfl)
theorem dX3_note_8 : decode cX3_note 8 = .ok (.iload_n 1, 1) := oq_27 (byt chX3_note_0 8 rfl)
theorem dX3_note_9 : decode cX3_note 9 = .ok (.putfield 9, 3) := oq_181 (byt chX3_note_0 9 rfl) (byt chX3_note_0 10 rfl) (byt chX3_note_0 11 rfl) rfl
theorem dX3_note_12 : decode cX3_note 12 = .ok (.aload_n 0, 1) := oq_42 (byt chX3_note_0 12 rfl)
theorem dX3_note_13 : decode cX3_note 13 = .ok (.iload_n 2, 1) := oq_28 (byt chX3_note_0 13 rfl)
theorem dX3_note_14 : decode cX3_note 14 = .ok (.putfield 15, 3) := oq_181 (byt chX3_note_0 14 rfl) (byt chX3_note_0 15 rfl) (byt chX3_note_1 0 rfl) rfl
theorem dX3_note_17 : decode cX3_note 17 = .ok (.return_, 1) := oq_177 (byt chX3_note_1 1 rfl)
abbrev mX3_note : MI := (yX3_note, cX3_note, 3, none, noE)
theorem okX3_note : cok mX3_note 2 := ⟨tw601, tw7, by decide, by decide, by decide, by decide +kernel⟩
def fX3_note (M : Mem) (a0 a1 a2 : Int) : Option Mem :=
  if M.2.1 a0 = 3 then if M.1 a0 0 = 0 then (bM (mst M a0 0 a1) fun M3 => bM (mst M3 a0 1 a2) fun M5 => some M5) else (some M) else none
set_option maxRecDepth 100000 in
set_option maxHeartbeats 4000000 in
theorem kX3_note (d : Nat) (hd : 0 ≤ d) (M : Mem) (a0 a1 a2 : Int) : Ct mX3_note d 0 0 [pA a0, pI a1, pI a2] M dV (fX3_note M a0 a1 a2) := by
  refine Ct.of 0 (fun _ _ _ => trivial) (by decide +kernel) rfl ?_
  unfold fX3_note
  refine v_aload_n dX3_note_0 rfl ?_
  refine v_if (fun h1 => ?_)
  refine v_get (v := pI (M.1 a0 0)) 3 0 rfl inX3 (by decide) tw254 dX3_note_1 h1 rfl ?_
  refine v_if_ne (tgt := 17) dX3_note_4 (by decide) (fun c2 => ?_) (fun c2 => ?_)
  · refine v_aload_n dX3_note_7 rfl ?_
    refine v_iload_n dX3_note_8 rfl ?_
    refine v_put (x := a1) 3 0 rfl inX3 (by decide) tw254 (Or.inl rfl) rfl dX3_note_9 h1 rfl id ?_
    refine v_bM (fun M3 e4 => ?_)
    refine v_aload_n dX3_note_12 rfl ?_
    refine v_iload_n dX3_note_13 rfl ?_
    refine v_put (x := a2) 3 1 rfl inX3 (by decide) tw256 (Or.inl rfl) rfl dX3_note_14 (by rw [e4]; exact h1) rfl id ?_
    refine v_bM (fun M5 e6 => ?_)
    exact v_return dX3_note_17 rfl rfl
  · exact v_return dX3_note_17 rfl rfl
theorem chX3_readNumber_0 : (cX3_readNumber.data.toList.drop 0).take 16 = [6, 27, 104, 28, 96, 62, 27, 16, 7, 159, 0, 9, 27, 16, 14, 160] := by decide +kernel
theorem chX3_readNumber_1 : (cX3_readNumber.data.toList.drop 16).take 16 = [0, 25, 28, 4, 160, 0, 20, 42, 180, 0, 62, 42, 180, 0, 65, 3] := by decide +kernel
theorem chX3_readNumber_2 : (cX3_readNumber.data.toList.drop 32).take 16 = [46, 160, 0, 7, 4, 167, 0, 4, 3, 54, 4, 42, 180, 0, 62, 178] := by decide +kernel
theorem chX3_readNumber_3 : (cX3_readNumber.data.toList.drop 48).take 16 = [0, 132, 29, 46, 161, 0, 20, 42, 180, 0, 62, 178, 0, 135, 29, 46] := by decide +kernel
theorem chX3_readNumber_4 : (cX3_readNumber.data.toList.drop 64).take 16 = [163, 0, 8, 21, 4, 153, 0, 12, 42, 5, 42, 180, 0, 59, 182, 0] := by decide +kernel
theorem chX3_readNumber_5 : (cX3_readNumber.data.toList.drop 80).take 16 = [102, 42, 180, 0, 65, 28, 42, 180, 0, 62, 79, 177] := by decide +kernel
theorem dX3_readNumber_0 : decode cX3_readNumber 0 = .ok (.iconst 3, 1) := oq_6 (byt chX3_readNumber_0 0 rfl)
theorem dX3_readNumber_1 : decode cX3_readNumber 1 = .ok (.iload_n 1, 1) := oq_27 (byt chX3_readNumber_0 1 rfl)
theorem dX3_readNumber_2 : decode cX3_readNumber 2 = .ok (.imul, 1) := oq_104 (byt chX3_readNumber_0 2 rfl)
theorem dX3_readNumber_3 : decode cX3_readNumber 3 = .ok (.iload_n 2, 1) := oq_28 (byt chX3_readNumber_0 3 rfl)
theorem dX3_readNumber_4 : decode cX3_readNumber 4 = .ok (.iadd, 1) := oq_96 (byt chX3_readNumber_0 4 rfl)
theorem dX3_readNumber_5 : decode cX3_readNumber 5 = .ok (.istore_n 3, 1) := oq_62 (byt chX3_readNumber_0 5 rfl)
theorem dX3_readNumber_6 : decode cX3_readNumber 6 = .ok (.iload_n 1, 1) := oq_27 (byt chX3_readNumber_0 6 rfl)
theorem dX3_readNumber_7 : decode cX3_readNumber 7 = .ok (.bipush 7, 2) := oq_16 (byt chX3_readNumber_0 7 rfl) (byt chX3_readNumber_0 8 rfl) rfl
theorem dX3_readNumber_9 : decode cX3_readNumber 9 = .ok (.if_icmp .eq 9, 3) := oq_159 (byt chX3_readNumber_0 9 rfl) (byt chX3_readNumber_0 10 rfl) (byt chX3_readNumber_0 11 rfl) (by decide +kernel)
theorem dX3_readNumber_12 : decode cX3_readNumber 12 = .ok (.iload_n 1, 1) := oq_27 (byt chX3_readNumber_0 12 rfl)
theorem dX3_readNumber_13 : decode cX3_readNumber 13 = .ok (.bipush 14, 2) := oq_16 (byt chX3_readNumber_0 13 rfl) (byt chX3_readNumber_0 14 rfl) rfl
theorem dX3_readNumber_15 : decode cX3_readNumber 15 = .ok (.if_icmp .ne 25, 3) := oq_160 (byt chX3_readNumber_0 15 rfl) (byt chX3_readNumber_1 0 rfl) (byt chX3_readNumber_1 1 rfl) (by decide +kernel)
theorem dX3_readNumber_18 : decode cX3_readNumber 18 = .ok (.iload_n 2, 1) := oq_28 (byt chX3_readNumber_1 2 rfl)
theorem dX3_readNumber_19 : decode cX3_readNumber 19 = .ok (.iconst 1, 1) := oq_4 (byt chX3_readNumber_1 3 rfl)
theorem dX3_readNumber_20 : decode cX3_readNumber 20 = .ok (.if_icmp .ne 20, 3) := oq_160 (byt chX3_readNumber_1 4 rfl) (byt chX3_readNumber_1 5 rfl) (byt chX3_readNumber_1 6 rfl) (by decide +kernel)
theorem dX3_readNumber_23 : decode cX3_readNumber 23 = .ok (.aload_n 0, 1) := oq_42 (byt chX3_readNumber_1 7 rfl)
theorem dX3_readNumber_24 : decode cX3_readNumber 24 = .ok (.getfield 62, 3) := oq_180 (byt chX3_readNumber_1 8 rfl) (byt chX3_readNumber_1 9 rfl) (byt chX3_readNumber_1 10 rfl) rfl
theorem dX3_readNumber_27 : decode cX3_readNumber 27 = .ok (.aload_n 0, 1) := oq_42 (byt chX3_readNumber_1 11 rfl)
theorem dX3_readNumber_28 : decode cX3_readNumber 28 = .ok (.getfield 65, 3) := oq_180 (byt chX3_readNumber_1 12 rfl) (byt chX3_readNumber_1 13 rfl) (byt chX3_readNumber_1 14 rfl) rfl
theorem dX3_readNumber_31 : decode cX3_readNumber 31 = .ok (.iconst 0, 1) := oq_3 (byt chX3_readNumber_1 15 rfl)
theorem dX3_readNumber_32 : decode cX3_readNumber 32 = .ok (.iaload, 1) := oq_46 (byt chX3_readNumber_2 0 rfl)
theorem dX3_readNumber_33 : decode cX3_readNumber 33 = .ok (.if_icmp .ne 7, 3) := oq_160 (byt chX3_readNumber_2 1 rfl) (byt chX3_readNumber_2 2 rfl) (byt chX3_readNumber_2 3 rfl) (by decide +kernel)
theorem dX3_readNumber_36 : decode cX3_readNumber 36 = .ok (.iconst 1, 1) := oq_4 (byt chX3_readNumber_2 4 rfl)
theorem dX3_readNumber_37 : decode cX3_readNumber 37 = .ok (.goto 4, 3) := oq_167 (byt chX3_readNumber_2 5 rfl) (byt chX3_readNumber_2 6 rfl) (byt chX3_readNumber_2 7 rfl) (by decide +kernel)
theorem dX3_readNumber_40 : decode cX3_readNumber 40 = .ok (.iconst 0, 1) := oq_3 (byt chX3_readNumber_2 8 rfl)
theorem dX3_readNumber_41 : decode cX3_readNumber 41 = .ok (.istore 4, 2) := oq_54 (byt chX3_readNumber_2 9 rfl) (byt chX3_readNumber_2 10 rfl) rfl
theorem dX3_readNumber_43 : decode cX3_readNumber 43 = .ok (.aload_n 0, 1) := oq_42 (byt chX3_readNumber_2 11 rfl)
theorem dX3_readNumber_44 : decode cX3_readNumber 44 = .ok (.getfield 62, 3) := oq_180 (byt chX3_readNumber_2 12 rfl) (byt chX3_readNumber_2 13 rfl) (byt chX3_readNumber_2 14 rfl) rfl
theorem dX3_readNumber_47 : decode cX3_readNumber 47 = .ok (.getstatic 132, 3) := oq_178 (byt chX3_readNumber_2 15 rfl) (byt chX3_readNumber_3 0 rfl) (byt chX3_readNumber_3 1 rfl) rfl
theorem dX3_readNumber_50 : decode cX3_readNumber 50 = .ok (.iload_n 3, 1) := oq_29 (byt chX3_readNumber_3 2 rfl)
theorem dX3_readNumber_51 : decode cX3_readNumber 51 = .ok (.iaload, 1) := oq_46 (byt chX3_readNumber_3 3 rfl)
theorem dX3_readNumber_52 : decode cX3_readNumber 52 = .ok (.if_icmp .lt 20, 3) := oq_161 (byt chX3_readNumber_3 4 rfl) (byt chX3_readNumber_3 5 rfl) (byt chX3_readNumber_3 6 rfl) (by decide +kernel)
theorem dX3_readNumber_55 : decode cX3_readNumber 55 = .ok (.aload_n 0, 1) := oq_42 (byt chX3_readNumber_3 7 rfl)
theorem dX3_readNumber_56 : decode cX3_readNumber 56 = .ok (.getfield 62, 3) := oq_180 (byt chX3_readNumber_3 8 rfl) (byt chX3_readNumber_3 9 rfl) (byt chX3_readNumber_3 10 rfl) rfl
theorem dX3_readNumber_59 : decode cX3_readNumber 59 = .ok (.getstatic 135, 3) := oq_178 (byt chX3_readNumber_3 11 rfl) (byt chX3_readNumber_3 12 rfl) (byt chX3_readNumber_3 13 rfl) rfl
theorem dX3_readNumber_62 : decode cX3_readNumber 62 = .ok (.iload_n 3, 1) := oq_29 (byt chX3_readNumber_3 14 rfl)
theorem dX3_readNumber_63 : decode cX3_readNumber 63 = .ok (.iaload, 1) := oq_46 (byt chX3_readNumber_3 15 rfl)
theorem dX3_readNumber_64 : decode cX3_readNumber 64 = .ok (.if_icmp .gt 8, 3) := oq_163 (byt chX3_readNumber_4 0 rfl) (byt chX3_readNumber_4 1 rfl) (byt chX3_readNumber_4 2 rfl) (by decide +kernel)
theorem dX3_readNumber_67 : decode cX3_readNumber 67 = .ok (.iload 4, 2) := oq_21 (byt chX3_readNumber_4 3 rfl) (byt chX3_readNumber_4 4 rfl) rfl
theorem dX3_readNumber_69 : decode cX3_readNumber 69 = .ok (.ifCond .eq 12, 3) := oq_153 (byt chX3_readNumber_4 5 rfl) (byt chX3_readNumber_4 6 rfl) (byt chX3_readNumber_4 7 rfl) (by decide +kernel)
theorem dX3_readNumber_72 : decode cX3_readNumber 72 = .ok (.aload_n 0, 1) := oq_42 (byt chX3_readNumber_4 8 rfl)
theorem dX3_readNumber_73 : decode cX3_readNumber 73 = .ok (.iconst 2, 1) := oq_5 (byt chX3_readNumber_4 9 rfl)
theorem dX3_readNumber_74 : decode cX3_readNumber 74 = .ok (.aload_n 0, 1) := oq_42 (byt chX3_readNumber_4 10 rfl)
theorem dX3_readNumber_75 : decode cX3_readNumber 75 = .ok (.getfield 59, 3) := oq_180 (byt chX3_readNumber_4 11 rfl) (byt chX3_readNumber_4 12 rfl) (byt chX3_readNumber_4 13 rfl) rfl
theorem dX3_readNumber_78 : decode cX3_readNumber 78 = .ok (.invokevirtual 102, 3) := oq_182 (byt chX3_readNumber_4 14 rfl) (byt chX3_readNumber_4 15 rfl) (byt chX3_readNumber_5 0 rfl) rfl
theorem dX3_readNumber_81 : decode cX3_readNumber 81 = .ok (.aload_n 0, 1) := oq_42 (byt chX3_readNumber_5 1 rfl)
theorem dX3_readNumber_82 : decode cX3_readNumber 82 = .ok (.getfield 65, 3) := oq_180 (byt chX3_readNumber_5 2 rfl) (byt chX3_readNumber_5 3 rfl) (byt chX3_readNumber_5 4 rfl) rfl
theorem dX3_readNumber_85 : decode cX3_readNumber 85 = .ok (.iload_n 2, 1) := oq_28 (byt chX3_readNumber_5 5 rfl)
theorem dX3_readNumber_86 : decode cX3_readNumber 86 = .ok (.aload_n 0, 1) := oq_42 (byt chX3_readNumber_5 6 rfl)
theorem dX3_readNumber_87 : decode cX3_readNumber 87 = .ok (.getfield 62, 3) := oq_180 (byt chX3_readNumber_5 7 rfl) (byt chX3_readNumber_5 8 rfl) (byt chX3_readNumber_5 9 rfl) rfl
theorem dX3_readNumber_90 : decode cX3_readNumber 90 = .ok (.iastore, 1) := oq_79 (byt chX3_readNumber_5 10 rfl)
theorem dX3_readNumber_91 : decode cX3_readNumber 91 = .ok (.return_, 1) := oq_177 (byt chX3_readNumber_5 11 rfl)
abbrev mX3_readNumber : MI := (yX3_readNumber, cX3_readNumber, 5, none, noE)
theorem okX3_readNumber : cok mX3_readNumber 2 := ⟨tw607, tw7, by decide, by decide, by decide, by decide +kernel⟩
def fX3_readNumber (M : Mem) (a0 a1 a2 : Int) : Option Mem :=
  jn (fun (t2 : Int) => if M.2.1 a0 = 3 then if (0 : Int) ≤ (w32 ((w32 (3 * a1)) + a2)) ∧ (w32 ((w32 (3 * a1)) + a2)) < 54 then jn (fun (t6 : Mem) => if t6.2.1 a0 = 3 then if t6.2.1 (t6.1 a0 12) = 12 ∧ (0 : Int) ≤ a2 ∧ a2 < t6.2.2.1 (t6.1 a0 12) then bM (mst t6 (t6.1 a0 12) a2 (t6.1 a0 11)) fun M9 => some M9 else none else none) (fun (j5 : Mem → Option Mem) => jn (fun (t12 : Unit) => (fX3_note M a0 2 (M.1 a0 10)).bind fun r13 => j5 r13) (fun (j11 : Unit → Option Mem) => if M.1 a0 11 < (sTab 2).getD (w32 ((w32 (3 * a1)) + a2)).toNat 0 then (j11 ()) else (if (0 : Int) ≤ (w32 ((w32 (3 * a1)) + a2)) ∧ (w32 ((w32 (3 * a1)) + a2)) < 54 then if (sTab 3).getD (w32 ((w32 (3 * a1)) + a2)).toNat 0 < M.1 a0 11 then (j11 ()) else (if t2 = 0 then (j5 M) else (j11 ())) else none))) else none else none) (fun (j1 : Int → Option Mem) => jn (fun (t20 : Unit) => j1 0) (fun (j19 : Unit → Option Mem) => jn (fun (t22 : Unit) => if a2 = 1 then (if M.2.1 a0 = 3 then if M.2.1 (M.1 a0 12) = 12 ∧ (0 : Int) ≤ 0 ∧ 0 < M.2.2.1 (M.1 a0 12) then if M.1 a0 11 = M.1 (M.1 a0 12) 0 then (j1 1) else (j19 ()) else none else none) else (j19 ())) (fun (j21 : Unit → Option Mem) => if a1 = 7 then (j21 ()) else (if a1 = 14 then (j21 ()) else (j19 ())))))
set_option maxRecDepth 100000 in
set_option maxHeartbeats 4000000 in
theorem kX3_readNumber (d : Nat) (hd : 1 ≤ d) (M : Mem) (a0 a1 a2 : Int) : Ct mX3_readNumber d 0 0 [pA a0, pI a1, pI a2] M dV (fX3_readNumber M a0 a1 a2) := by
  obtain ⟨d, rfl⟩ : ∃ k, d = k + 1 := ⟨d - 1, by omega⟩
  refine Ct.of 2 (fun _ _ _ => trivial) (by decide +kernel) rfl ?_
  unfold fX3_readNumber
  refine v_iconst dX3_readNumber_0 (by decide) ?_
  refine v_iload_n dX3_readNumber_1 rfl ?_
  refine v_imul dX3_readNumber_2 ?_
  refine v_iload_n dX3_readNumber_3 rfl ?_
  refine v_iadd dX3_readNumber_4 ?_
  refine v_istore_n (ls' := [some (pA a0), some (pI a1), some (pI a2), some (pI (w32 ((w32 (3 * a1)) + a2))), none]) dX3_readNumber_5 (by decide) rfl ?_
  refine v_iload_n dX3_readNumber_6 rfl ?_
  refine v_bipush dX3_readNumber_7 (by decide) ?_
  refine v_join (fun (t2 : Int) => [some (pA a0), none, some (pI a2), some (pI (w32 ((w32 (3 * a1)) + a2))), none]) (fun (t2 : Int) => [pI t2]) (fun (t2 : Int) => M) 41 (fun t2 => ?_) (fun j1 hj1 => ?_)
  · refine v_istore (ls' := [some (pA a0), none, some (pI a2), some (pI (w32 ((w32 (3 * a1)) + a2))), some (pI t2)]) dX3_readNumber_41 (by decide) rfl ?_
    refine v_aload_n dX3_readNumber_43 rfl ?_
    refine v_if (fun h3 => ?_)
    refine v_get (v := pI (M.1 a0 11)) 3 11 rfl inX3 (by decide) tw271 dX3_readNumber_44 h3 rfl ?_
    refine v_gets (mi := mX3_readNumber) 2 (by decide) tw608 dX3_readNumber_47 rfl ?_
    refine v_iload_n dX3_readNumber_50 rfl ?_
    refine v_if (fun h4 => ?_)
    refine v_ciald (mi := mX3_readNumber) 2 (by decide) rfl rfl h4 dX3_readNumber_51 ?_
    refine v_join (fun (t6 : Mem) => [some (pA a0), none, some (pI a2), none, none]) (fun (t6 : Mem) => []) (fun (t6 : Mem) => t6) 81 (fun t6 => ?_) (fun j5 hj5 => ?_)
    · refine v_aload_n dX3_readNumber_81 rfl ?_
      refine v_if (fun h7 => ?_)
      refine v_get (v := pA (t6.1 a0 12)) 3 12 rfl inX3 (by decide) tw272 dX3_readNumber_82 h7 rfl ?_
      refine v_iload_n dX3_readNumber_85 rfl ?_
      refine v_aload_n dX3_readNumber_86 rfl ?_
      refine v_get (v := pI (t6.1 a0 11)) 3 11 rfl inX3 (by decide) tw271 dX3_readNumber_87 h7 rfl ?_
      refine v_if (fun h8 => ?_)
      refine v_iastore h8 dX3_readNumber_90 ?_
      refine v_bM (fun M9 e10 => ?_)
      exact v_return dX3_readNumber_91 rfl rfl
    · refine v_join (fun (t12 : Unit) => [some (pA a0), none, some (pI a2), none, none]) (fun (t12 : Unit) => []) (fun (t12 : Unit) => M) 72 (fun t12 => ?_) (fun j11 hj11 => ?_)
      · refine v_aload_n dX3_readNumber_72 rfl ?_
        refine v_iconst dX3_readNumber_73 (by decide) ?_
        refine v_aload_n dX3_readNumber_74 rfl ?_
        refine v_get (v := pI (M.1 a0 10)) 3 10 rfl inX3 (by decide) tw270 dX3_readNumber_75 h3 rfl ?_
        refine v_cV (mi := mX3_readNumber) (c0 := 0) (c1 := 0) (As := [pI 2, pI (M.1 a0 10)]) (st := []) (kX3_note d (by omega) _ _ _ _) rfl h3 rfl okX3_note (Or.inl tw598) tw600 tp9 rfl (Nat.le_of_ble_eq_true rfl) dX3_readNumber_78 (fun r13 => []) (fun r13 => r13) (fun _ => rfl) (fun _ => rfl) (fun r13 h14 => ?_) rfl
        exact hj5 r13
      · refine v_icmp_lt (tgt := 72) dX3_readNumber_52 (by decide) (fun c15 => ?_) (fun c15 => ?_)
        · exact v_drop [some (pA a0), none, some (pI a2), none, none] (ls_s (ls_n (ls_s (ls_n (ls_n ls_e))))) (hj11 ())
        · refine v_aload_n dX3_readNumber_55 rfl ?_
          refine v_get (v := pI (M.1 a0 11)) 3 11 rfl inX3 (by decide) tw271 dX3_readNumber_56 h3 rfl ?_
          refine v_gets (mi := mX3_readNumber) 3 (by decide) tw610 dX3_readNumber_59 rfl ?_
          refine v_iload_n dX3_readNumber_62 rfl ?_
          refine v_if (fun h16 => ?_)
          refine v_ciald (mi := mX3_readNumber) 3 (by decide) rfl rfl h16 dX3_readNumber_63 ?_
          refine v_icmp_gt (tgt := 72) dX3_readNumber_64 (by decide) (fun c17 => ?_) (fun c17 => ?_)
          · exact v_drop [some (pA a0), none, some (pI a2), none, none] (ls_s (ls_n (ls_s (ls_n (ls_n ls_e))))) (hj11 ())
          · refine v_iload dX3_readNumber_67 rfl ?_
            refine v_if_eq (tgt := 81) dX3_readNumber_69 (by decide) (fun c18 => ?_) (fun c18 => ?_)
            · exact v_drop [some (pA a0), none, some (pI a2), none, none] (ls_s (ls_n (ls_s (ls_n (ls_n ls_e))))) (hj5 M)
            · exact v_drop [some (pA a0), none, some (pI a2), none, none] (ls_s (ls_n (ls_s (ls_n (ls_n ls_e))))) (hj11 ())
  · refine v_join (fun (t20 : Unit) => [some (pA a0), none, some (pI a2), some (pI (w32 ((w32 (3 * a1)) + a2))), none]) (fun (t20 : Unit) => []) (fun (t20 : Unit) => M) 40 (fun t20 => ?_) (fun j19 hj19 => ?_)
    · refine v_iconst dX3_readNumber_40 (by decide) ?_
      exact hj1 0
    · refine v_join (fun (t22 : Unit) => [some (pA a0), none, some (pI a2), some (pI (w32 ((w32 (3 * a1)) + a2))), none]) (fun (t22 : Unit) => []) (fun (t22 : Unit) => M) 18 (fun t22 => ?_) (fun j21 hj21 => ?_)
      · refine v_iload_n dX3_readNumber_18 rfl ?_
        refine v_iconst dX3_readNumber_19 (by decide) ?_
        refine v_icmp_ne (tgt := 40) dX3_readNumber_20 (by decide) (fun c23 => ?_) (fun c23 => ?_)
        · refine v_aload_n dX3_readNumber_23 rfl ?_
          refine v_if (fun h24 => ?_)
          refine v_get (v := pI (M.1 a0 11)) 3 11 rfl inX3 (by decide) tw271 dX3_readNumber_24 h24 rfl ?_
          refine v_aload_n dX3_readNumber_27 rfl ?_
          refine v_get (v := pA (M.1 a0 12)) 3 12 rfl inX3 (by decide) tw272 dX3_readNumber_28 h24 rfl ?_
          refine v_iconst dX3_readNumber_31 (by decide) ?_
          refine v_if (fun h25 => ?_)
          refine v_iaload h25 dX3_readNumber_32 ?_
          refine v_icmp_ne (tgt := 40) dX3_readNumber_33 (by decide) (fun c26 => ?_) (fun c26 => ?_)
          · refine v_iconst dX3_readNumber_36 (by decide) ?_
            refine v_goto (tgt := 41) dX3_readNumber_37 (by decide) ?_
            exact hj1 1
          · exact hj19 ()
        · exact hj19 ()
      · refine v_icmp_eq (tgt := 18) dX3_readNumber_9 (by decide) (fun c27 => ?_) (fun c27 => ?_)
        · exact v_drop [some (pA a0), none, some (pI a2), some (pI (w32 ((w32 (3 * a1)) + a2))), none] (ls_s (ls_n (ls_s (ls_s (ls_n ls_e))))) (hj21 ())
        · refine v_iload_n dX3_readNumber_12 rfl ?_
          refine v_bipush dX3_readNumber_13 (by decide) ?_
          refine v_icmp_ne (tgt := 40) dX3_readNumber_15 (by decide) (fun c28 => ?_) (fun c28 => ?_)
          · exact v_drop [some (pA a0), none, some (pI a2), some (pI (w32 ((w32 (3 * a1)) + a2))), none] (ls_s (ls_n (ls_s (ls_s (ls_n ls_e))))) (hj21 ())
          · exact v_drop [some (pA a0), none, some (pI a2), some (pI (w32 ((w32 (3 * a1)) + a2))), none] (ls_s (ls_n (ls_s (ls_s (ls_n ls_e))))) (hj19 ())
theorem chX3_keepTown_0 : (cX3_keepTown.data.toList.drop 0).take 16 = [42, 180, 0, 65, 3, 46, 61, 42, 180, 0, 65, 4, 46, 62, 27, 170] := by decide +kernel
theorem chX3_keepTown_3 : (cX3_keepTown.data.toList.drop 48).take 16 = [0, 0, 0, 138, 0, 0, 0, 151, 0, 0, 0, 164, 42, 180, 0, 21] := by decide +kernel
theorem chX3_keepTown_4 : (cX3_keepTown.data.toList.drop 64).take 16 = [28, 181, 0, 96, 167, 0, 148, 42, 180, 0, 21, 180, 0, 219, 28, 29] := by decide +kernel
theorem chX3_keepTown_5 : (cX3_keepTown.data.toList.drop 80).take 16 = [184, 0, 216, 42, 180, 0, 65, 5, 46, 79, 167, 0, 126, 42, 180, 0] := by decide +kernel
theorem chX3_keepTown_6 : (cX3_keepTown.data.toList.drop 96).take 16 = [21, 180, 0, 221, 28, 29, 184, 0, 216, 42, 180, 0, 65, 5, 46, 79] := by decide +kernel
theorem chX3_keepTown_7 : (cX3_keepTown.data.toList.drop 112).take 16 = [167, 0, 104, 42, 180, 0, 21, 180, 0, 223, 28, 29, 79, 167, 0, 91] := by decide +kernel
theorem chX3_keepTown_8 : (cX3_keepTown.data.toList.drop 128).take 16 = [42, 180, 0, 21, 180, 0, 225, 28, 29, 79, 42, 42, 180, 0, 73, 29] := by decide +kernel
theorem chX3_keepTown_9 : (cX3_keepTown.data.toList.drop 144).take 16 = [184, 0, 227, 181, 0, 73, 167, 0, 66, 42, 180, 0, 21, 180, 0, 230] := by decide +kernel
theorem chX3_keepTown_10 : (cX3_keepTown.data.toList.drop 160).take 16 = [28, 29, 79, 167, 0, 53, 42, 180, 0, 21, 180, 0, 232, 28, 29, 79] := by decide +kernel
theorem chX3_keepTown_11 : (cX3_keepTown.data.toList.drop 176).take 16 = [167, 0, 40, 42, 180, 0, 21, 180, 0, 234, 28, 29, 79, 42, 42, 180] := by decide +kernel
theorem chX3_keepTown_12 : (cX3_keepTown.data.toList.drop 192).take 16 = [0, 76, 28, 29, 184, 0, 227, 184, 0, 227, 181, 0, 76, 167, 0, 11] := by decide +kernel
theorem chX3_keepTown_13 : (cX3_keepTown.data.toList.drop 208).take 16 = [42, 180, 0, 21, 28, 182, 0, 237, 27, 4, 161, 0, 20, 27, 7, 163] := by decide +kernel
theorem chX3_keepTown_14 : (cX3_keepTown.data.toList.drop 224).take 16 = [0, 15, 42, 42, 180, 0, 73, 28, 184, 0, 227, 181, 0, 73, 177] := by decide +kernel
theorem dX3_keepTown_0 : decode cX3_keepTown 0 = .ok (.aload_n 0, 1) := oq_42 (byt chX3_keepTown_0 0 rfl)
theorem dX3_keepTown_1 : decode cX3_keepTown 1 = .ok (.getfield 65, 3) := oq_180 (byt chX3_keepTown_0 1 rfl) (byt chX3_keepTown_0 2 rfl) (byt chX3_keepTown_0 3 rfl) rfl
theorem dX3_keepTown_4 : decode cX3_keepTown 4 = .ok (.iconst 0, 1) := oq_3 (byt chX3_keepTown_0 4 rfl)
theorem dX3_keepTown_5 : decode cX3_keepTown 5 = .ok (.iaload, 1) := oq_46 (byt chX3_keepTown_0 5 rfl)
theorem dX3_keepTown_6 : decode cX3_keepTown 6 = .ok (.istore_n 2, 1) := oq_61 (byt chX3_keepTown_0 6 rfl)
theorem dX3_keepTown_7 : decode cX3_keepTown 7 = .ok (.aload_n 0, 1) := oq_42 (byt chX3_keepTown_0 7 rfl)
theorem dX3_keepTown_8 : decode cX3_keepTown 8 = .ok (.getfield 65, 3) := oq_180 (byt chX3_keepTown_0 8 rfl) (byt chX3_keepTown_0 9 rfl) (byt chX3_keepTown_0 10 rfl) rfl
theorem dX3_keepTown_11 : decode cX3_keepTown 11 = .ok (.iconst 1, 1) := oq_4 (byt chX3_keepTown_0 11 rfl)
theorem dX3_keepTown_12 : decode cX3_keepTown 12 = .ok (.iaload, 1) := oq_46 (byt chX3_keepTown_0 12 rfl)
theorem dX3_keepTown_13 : decode cX3_keepTown 13 = .ok (.istore_n 3, 1) := oq_62 (byt chX3_keepTown_0 13 rfl)
theorem dX3_keepTown_14 : decode cX3_keepTown 14 = .ok (.iload_n 1, 1) := oq_27 (byt chX3_keepTown_0 14 rfl)
theorem dX3_keepTown_15 : decode cX3_keepTown 15 = .ok (.tableswitch 193 0 7 #[45, 56, 78, 100, 113, 138, 151, 164], 45) := by decide +kernel
theorem dX3_keepTown_60 : decode cX3_keepTown 60 = .ok (.aload_n 0, 1) := oq_42 (byt chX3_keepTown_3 12 rfl)
theorem dX3_keepTown_61 : decode cX3_keepTown 61 = .ok (.getfield 21, 3) := oq_180 (byt chX3_keepTown_3 13 rfl) (byt chX3_keepTown_3 14 rfl) (byt chX3_keepTown_3 15 rfl) rfl
theorem dX3_keepTown_64 : decode cX3_keepTown 64 = .ok (.iload_n 2, 1) := oq_28 (byt chX3_keepTown_4 0 rfl)
theorem dX3_keepTown_65 : decode cX3_keepTown 65 = .ok (.putfield 96, 3) := oq_181 (byt chX3_keepTown_4 1 rfl) (byt chX3_keepTown_4 2 rfl) (byt chX3_keepTown_4 3 rfl) rfl
theorem dX3_keepTown_68 : decode cX3_keepTown 68 = .ok (.goto 148, 3) := oq_167 (byt chX3_keepTown_4 4 rfl) (byt chX3_keepTown_4 5 rfl) (byt chX3_keepTown_4 6 rfl) (by decide +kernel)
theorem dX3_keepTown_71 : decode cX3_keepTown 71 = .ok (.aload_n 0, 1) := oq_42 (byt chX3_keepTown_4 7 rfl)
theorem dX3_keepTown_72 : decode cX3_keepTown 72 = .ok (.getfield 21, 3) := oq_180 (byt chX3_keepTown_4 8 rfl) (byt chX3_keepTown_4 9 rfl) (byt chX3_keepTown_4 10 rfl) rfl
theorem dX3_keepTown_75 : decode cX3_keepTown 75 = .ok (.getfield 219, 3) := oq_180 (byt chX3_keepTown_4 11 rfl) (byt chX3_keepTown_4 12 rfl) (byt chX3_keepTown_4 13 rfl) rfl
theorem dX3_keepTown_78 : decode cX3_keepTown 78 = .ok (.iload_n 2, 1) := oq_28 (byt chX3_keepTown_4 14 rfl)
theorem dX3_keepTown_79 : decode cX3_keepTown 79 = .ok (.iload_n 3, 1) := oq_29 (byt chX3_keepTown_4 15 rfl)
theorem dX3_keepTown_80 : decode cX3_keepTown 80 = .ok (.invokestatic 216, 3) := oq_184 (byt chX3_keepTown_5 0 rfl) (byt chX3_keepTown_5 1 rfl) (byt chX3_keepTown_5 2 rfl) rfl
theorem dX3_keepTown_83 : decode cX3_keepTown 83 = .ok (.aload_n 0, 1) := oq_42 (byt chX3_keepTown_5 3 rfl)
theorem dX3_keepTown_84 : decode cX3_keepTown 84 = .ok (.getfield 65, 3) := oq_180 (byt chX3_keepTown_5 4 rfl) (byt chX3_keepTown_5 5 rfl) (byt chX3_keepTown_5 6 rfl) rfl
theorem dX3_keepTown_87 : decode cX3_keepTown 87 = .ok (.iconst 2, 1) := oq_5 (byt chX3_keepTown_5 7 rfl)
theorem dX3_keepTown_88 : decode cX3_keepTown 88 = .ok (.iaload, 1) := oq_46 (byt chX3_keepTown_5 8 rfl)
theorem dX3_keepTown_89 : decode cX3_keepTown 89 = .ok (.iastore, 1) := oq_79 (byt chX3_keepTown_5 9 rfl)
theorem dX3_keepTown_90 : decode cX3_keepTown 90 = .ok (.goto 126, 3) := oq_167 (byt chX3_keepTown_5 10 rfl) (byt chX3_keepTown_5 11 rfl) (byt chX3_keepTown_5 12 rfl) (by decide +kernel)
theorem dX3_keepTown_93 : decode cX3_keepTown 93 = .ok (.aload_n 0, 1) := oq_42 (byt chX3_keepTown_5 13 rfl)
theorem dX3_keepTown_94 : decode cX3_keepTown 94 = .ok (.getfield 21, 3) := oq_180 (byt chX3_keepTown_5 14 rfl) (byt chX3_keepTown_5 15 rfl) (byt chX3_keepTown_6 0 rfl) rfl
theorem dX3_keepTown_97 : decode cX3_keepTown 97 = .ok (.getfield 221, 3) := oq_180 (byt chX3_keepTown_6 1 rfl) (byt chX3_keepTown_6 2 rfl) (byt chX3_keepTown_6 3 rfl) rfl
theorem dX3_keepTown_100 : decode cX3_keepTown 100 = .ok (.iload_n 2, 1) := oq_28 (byt chX3_keepTown_6 4 rfl)
theorem dX3_keepTown_101 : decode cX3_keepTown 101 = .ok (.iload_n 3, 1) := oq_29 (byt chX3_keepTown_6 5 rfl)
theorem dX3_keepTown_102 : decode cX3_keepTown 102 = .ok (.invokestatic 216, 3) := oq_184 (byt chX3_keepTown_6 6 rfl) (byt chX3_keepTown_6 7 rfl) (byt chX3_keepTown_6 8 rfl) rfl
theorem dX3_keepTown_105 : decode cX3_keepTown 105 = .ok (.aload_n 0, 1) := oq_42 (byt chX3_keepTown_6 9 rfl)
theorem dX3_keepTown_106 : decode cX3_keepTown 106 = .ok (.getfield 65, 3) := oq_180 (byt chX3_keepTown_6 10 rfl) (byt chX3_keepTown_6 11 rfl) (byt chX3_keepTown_6 12 rfl) rfl
theorem dX3_keepTown_109 : decode cX3_keepTown 109 = .ok (.iconst 2, 1) := oq_5 (byt chX3_keepTown_6 13 rfl)
theorem dX3_keepTown_110 : decode cX3_keepTown 110 = .ok (.iaload, 1) := oq_46 (byt chX3_keepTown_6 14 rfl)
theorem dX3_keepTown_111 : decode cX3_keepTown 111 = .ok (.iastore, 1) := oq_79 (byt chX3_keepTown_6 15 rfl)
theorem dX3_keepTown_112 : decode cX3_keepTown 112 = .ok (.goto 104, 3) := oq_167 (byt chX3_keepTown_7 0 rfl) (byt chX3_keepTown_7 1 rfl) (byt chX3_keepTown_7 2 rfl) (by decide +kernel)
theorem dX3_keepTown_115 : decode cX3_keepTown 115 = .ok (.aload_n 0, 1) := oq_42 (byt chX3_keepTown_7 3 rfl)
theorem dX3_keepTown_116 : decode cX3_keepTown 116 = .ok (.getfield 21, 3) := oq_180 (byt chX3_keepTown_7 4 rfl) (byt chX3_keepTown_7 5 rfl) (byt chX3_keepTown_7 6 rfl) rfl
theorem dX3_keepTown_119 : decode cX3_keepTown 119 = .ok (.getfield 223, 3) := oq_180 (byt chX3_keepTown_7 7 rfl) (byt chX3_keepTown_7 8 rfl) (byt chX3_keepTown_7 9 rfl) rfl
theorem dX3_keepTown_122 : decode cX3_keepTown 122 = .ok (.iload_n 2, 1) := oq_28 (byt chX3_keepTown_7 10 rfl)
theorem dX3_keepTown_123 : decode cX3_keepTown 123 = .ok (.iload_n 3, 1) := oq_29 (byt chX3_keepTown_7 11 rfl)
theorem dX3_keepTown_124 : decode cX3_keepTown 124 = .ok (.iastore, 1) := oq_79 (byt chX3_keepTown_7 12 rfl)
theorem dX3_keepTown_125 : decode cX3_keepTown 125 = .ok (.goto 91, 3) := oq_167 (byt chX3_keepTown_7 13 rfl) (byt chX3_keepTown_7 14 rfl) (byt chX3_keepTown_7 15 rfl) (by decide +kernel)
theorem dX3_keepTown_128 : decode cX3_keepTown 128 = .ok (.aload_n 0, 1) := oq_42 (byt chX3_keepTown_8 0 rfl)
theorem dX3_keepTown_129 : decode cX3_keepTown 129 = .ok (.getfield 21, 3) := oq_180 (byt chX3_keepTown_8 1 rfl) (byt chX3_keepTown_8 2 rfl) (byt chX3_keepTown_8 3 rfl) rfl
theorem dX3_keepTown_132 : decode cX3_keepTown 132 = .ok (.getfield 225, 3) := oq_180 (byt chX3_keepTown_8 4 rfl) (byt chX3_keepTown_8 5 rfl) (byt chX3_keepTown_8 6 rfl) rfl
theorem dX3_keepTown_135 : decode cX3_keepTown 135 = .ok (.iload_n 2, 1) := oq_28 (byt chX3_keepTown_8 7 rfl)
theorem dX3_keepTown_136 : decode cX3_keepTown 136 = .ok (.iload_n 3, 1) := oq_29 (byt chX3_keepTown_8 8 rfl)
theorem dX3_keepTown_137 : decode cX3_keepTown 137 = .ok (.iastore, 1) := oq_79 (byt chX3_keepTown_8 9 rfl)
theorem dX3_keepTown_138 : decode cX3_keepTown 138 = .ok (.aload_n 0, 1) := oq_42 (byt chX3_keepTown_8 10 rfl)
theorem dX3_keepTown_139 : decode cX3_keepTown 139 = .ok (.aload_n 0, 1) := oq_42 (byt chX3_keepTown_8 11 rfl)
theorem dX3_keepTown_140 : decode cX3_keepTown 140 = .ok (.getfield 73, 3) := oq_180 (byt chX3_keepTown_8 12 rfl) (byt chX3_keepTown_8 13 rfl) (byt chX3_keepTown_8 14 rfl) rfl
theorem dX3_keepTown_143 : decode cX3_keepTown 143 = .ok (.iload_n 3, 1) := oq_29 (byt chX3_keepTown_8 15 rfl)
theorem dX3_keepTown_144 : decode cX3_keepTown 144 = .ok (.invokestatic 227, 3) := oq_184 (byt chX3_keepTown_9 0 rfl) (byt chX3_keepTown_9 1 rfl) (byt chX3_keepTown_9 2 rfl) rfl
theorem dX3_keepTown_147 : decode cX3_keepTown 147 = .ok (.putfield 73, 3) := oq_181 (byt chX3_keepTown_9 3 rfl) (byt chX3_keepTown_9 4 rfl) (byt chX3_keepTown_9 5 rfl) rfl
theorem dX3_keepTown_150 : decode cX3_keepTown 150 = .ok (.goto 66, 3) := oq_167 (byt chX3_keepTown_9 6 rfl) (byt chX3_keepTown_9 7 rfl) (byt chX3_keepTown_9 8 rfl) (by decide +kernel)
theorem dX3_keepTown_153 : decode cX3_keepTown 153 = .ok (.aload_n 0, 1) := oq_42 (byt chX3_keepTown_9 9 rfl)
theorem dX3_keepTown_154 : decode cX3_keepTown 154 = .ok (.getfield 21, 3) := oq_180 (byt chX3_keepTown_9 10 rfl) (byt chX3_keepTown_9 11 rfl) (byt chX3_keepTown_9 12 rfl) rfl
theorem dX3_keepTown_157 : decode cX3_keepTown 157 = .ok (.getfield 230, 3) := oq_180 (byt chX3_keepTown_9 13 rfl) (byt chX3_keepTown_9 14 rfl) (byt chX3_keepTown_9 15 rfl) rfl
theorem dX3_keepTown_160 : decode cX3_keepTown 160 = .ok (.iload_n 2, 1) := oq_28 (byt chX3_keepTown_10 0 rfl)
theorem dX3_keepTown_161 : decode cX3_keepTown 161 = .ok (.iload_n 3, 1) := oq_29 (byt chX3_keepTown_10 1 rfl)
theorem dX3_keepTown_162 : decode cX3_keepTown 162 = .ok (.iastore, 1) := oq_79 (byt chX3_keepTown_10 2 rfl)
theorem dX3_keepTown_163 : decode cX3_keepTown 163 = .ok (.goto 53, 3) := oq_167 (byt chX3_keepTown_10 3 rfl) (byt chX3_keepTown_10 4 rfl) (byt chX3_keepTown_10 5 rfl) (by decide +kernel)
theorem dX3_keepTown_166 : decode cX3_keepTown 166 = .ok (.aload_n 0, 1) := oq_42 (byt chX3_keepTown_10 6 rfl)
theorem dX3_keepTown_167 : decode cX3_keepTown 167 = .ok (.getfield 21, 3) := oq_180 (byt chX3_keepTown_10 7 rfl) (byt chX3_keepTown_10 8 rfl) (byt chX3_keepTown_10 9 rfl) rfl
theorem dX3_keepTown_170 : decode cX3_keepTown 170 = .ok (.getfield 232, 3) := oq_180 (byt chX3_keepTown_10 10 rfl) (byt chX3_keepTown_10 11 rfl) (byt chX3_keepTown_10 12 rfl) rfl
theorem dX3_keepTown_173 : decode cX3_keepTown 173 = .ok (.iload_n 2, 1) := oq_28 (byt chX3_keepTown_10 13 rfl)
theorem dX3_keepTown_174 : decode cX3_keepTown 174 = .ok (.iload_n 3, 1) := oq_29 (byt chX3_keepTown_10 14 rfl)
theorem dX3_keepTown_175 : decode cX3_keepTown 175 = .ok (.iastore, 1) := oq_79 (byt chX3_keepTown_10 15 rfl)
theorem dX3_keepTown_176 : decode cX3_keepTown 176 = .ok (.goto 40, 3) := oq_167 (byt chX3_keepTown_11 0 rfl) (byt chX3_keepTown_11 1 rfl) (byt chX3_keepTown_11 2 rfl) (by decide +kernel)
theorem dX3_keepTown_179 : decode cX3_keepTown 179 = .ok (.aload_n 0, 1) := oq_42 (byt chX3_keepTown_11 3 rfl)
theorem dX3_keepTown_180 : decode cX3_keepTown 180 = .ok (.getfield 21, 3) := oq_180 (byt chX3_keepTown_11 4 rfl) (byt chX3_keepTown_11 5 rfl) (byt chX3_keepTown_11 6 rfl) rfl
theorem dX3_keepTown_183 : decode cX3_keepTown 183 = .ok (.getfield 234, 3) := oq_180 (byt chX3_keepTown_11 7 rfl) (byt chX3_keepTown_11 8 rfl) (byt chX3_keepTown_11 9 rfl) rfl
theorem dX3_keepTown_186 : decode cX3_keepTown 186 = .ok (.iload_n 2, 1) := oq_28 (byt chX3_keepTown_11 10 rfl)
theorem dX3_keepTown_187 : decode cX3_keepTown 187 = .ok (.iload_n 3, 1) := oq_29 (byt chX3_keepTown_11 11 rfl)
theorem dX3_keepTown_188 : decode cX3_keepTown 188 = .ok (.iastore, 1) := oq_79 (byt chX3_keepTown_11 12 rfl)
theorem dX3_keepTown_189 : decode cX3_keepTown 189 = .ok (.aload_n 0, 1) := oq_42 (byt chX3_keepTown_11 13 rfl)
theorem dX3_keepTown_190 : decode cX3_keepTown 190 = .ok (.aload_n 0, 1) := oq_42 (byt chX3_keepTown_11 14 rfl)
theorem dX3_keepTown_191 : decode cX3_keepTown 191 = .ok (.getfield 76, 3) := oq_180 (byt chX3_keepTown_11 15 rfl) (byt chX3_keepTown_12 0 rfl) (byt chX3_keepTown_12 1 rfl) rfl
theorem dX3_keepTown_194 : decode cX3_keepTown 194 = .ok (.iload_n 2, 1) := oq_28 (byt chX3_keepTown_12 2 rfl)
theorem dX3_keepTown_195 : decode cX3_keepTown 195 = .ok (.iload_n 3, 1) := oq_29 (byt chX3_keepTown_12 3 rfl)
theorem dX3_keepTown_196 : decode cX3_keepTown 196 = .ok (.invokestatic 227, 3) := oq_184 (byt chX3_keepTown_12 4 rfl) (byt chX3_keepTown_12 5 rfl) (byt chX3_keepTown_12 6 rfl) rfl
theorem dX3_keepTown_199 : decode cX3_keepTown 199 = .ok (.invokestatic 227, 3) := oq_184 (byt chX3_keepTown_12 7 rfl) (byt chX3_keepTown_12 8 rfl) (byt chX3_keepTown_12 9 rfl) rfl
theorem dX3_keepTown_202 : decode cX3_keepTown 202 = .ok (.putfield 76, 3) := oq_181 (byt chX3_keepTown_12 10 rfl) (byt chX3_keepTown_12 11 rfl) (byt chX3_keepTown_12 12 rfl) rfl
theorem dX3_keepTown_205 : decode cX3_keepTown 205 = .ok (.goto 11, 3) := oq_167 (byt chX3_keepTown_12 13 rfl) (byt chX3_keepTown_12 14 rfl) (byt chX3_keepTown_12 15 rfl) (by decide +kernel)
theorem dX3_keepTown_208 : decode cX3_keepTown 208 = .ok (.aload_n 0, 1) := oq_42 (byt chX3_keepTown_13 0 rfl)
theorem dX3_keepTown_209 : decode cX3_keepTown 209 = .ok (.getfield 21, 3) := oq_180 (byt chX3_keepTown_13 1 rfl) (byt chX3_keepTown_13 2 rfl) (byt chX3_keepTown_13 3 rfl) rfl
theorem dX3_keepTown_212 : decode cX3_keepTown 212 = .ok (.iload_n 2, 1) := oq_28 (byt chX3_keepTown_13 4 rfl)
theorem dX3_keepTown_213 : decode cX3_keepTown 213 = .ok (.invokevirtual 237, 3) := oq_182 (byt chX3_keepTown_13 5 rfl) (byt chX3_keepTown_13 6 rfl) (byt chX3_keepTown_13 7 rfl) rfl
theorem dX3_keepTown_216 : decode cX3_keepTown 216 = .ok (.iload_n 1, 1) := oq_27 (byt chX3_keepTown_13 8 rfl)
theorem dX3_keepTown_217 : decode cX3_keepTown 217 = .ok (.iconst 1, 1) := oq_4 (byt chX3_keepTown_13 9 rfl)
theorem dX3_keepTown_218 : decode cX3_keepTown 218 = .ok (.if_icmp .lt 20, 3) := oq_161 (byt chX3_keepTown_13 10 rfl) (byt chX3_keepTown_13 11 rfl) (byt chX3_keepTown_13 12 rfl) (by decide +kernel)
theorem dX3_keepTown_221 : decode cX3_keepTown 221 = .ok (.iload_n 1, 1) := oq_27 (byt chX3_keepTown_13 13 rfl)
theorem dX3_keepTown_222 : decode cX3_keepTown 222 = .ok (.iconst 4, 1) := oq_7 (byt chX3_keepTown_13 14 rfl)
theorem dX3_keepTown_223 : decode cX3_keepTown 223 = .ok (.if_icmp .gt 15, 3) := oq_163 (byt chX3_keepTown_13 15 rfl) (byt chX3_keepTown_14 0 rfl) (byt chX3_keepTown_14 1 rfl) (by decide +kernel)
theorem dX3_keepTown_226 : decode cX3_keepTown 226 = .ok (.aload_n 0, 1) := oq_42 (byt chX3_keepTown_14 2 rfl)
theorem dX3_keepTown_227 : decode cX3_keepTown 227 = .ok (.aload_n 0, 1) := oq_42 (byt chX3_keepTown_14 3 rfl)
theorem dX3_keepTown_228 : decode cX3_keepTown 228 = .ok (.getfield 73, 3) := oq_180 (byt chX3_keepTown_14 4 rfl) (byt chX3_keepTown_14 5 rfl) (byt chX3_keepTown_14 6 rfl) rfl
theorem dX3_keepTown_231 : decode cX3_keepTown 231 = .ok (.iload_n 2, 1) := oq_28 (byt chX3_keepTown_14 7 rfl)
theorem dX3_keepTown_232 : decode cX3_keepTown 232 = .ok (.invokestatic 227, 3) := oq_184 (byt chX3_keepTown_14 8 rfl) (byt chX3_keepTown_14 9 rfl) (byt chX3_keepTown_14 10 rfl) rfl
theorem dX3_keepTown_235 : decode cX3_keepTown 235 = .ok (.putfield 73, 3) := oq_181 (byt chX3_keepTown_14 11 rfl) (byt chX3_keepTown_14 12 rfl) (byt chX3_keepTown_14 13 rfl) rfl
theorem dX3_keepTown_238 : decode cX3_keepTown 238 = .ok (.return_, 1) := oq_177 (byt chX3_keepTown_14 14 rfl)
abbrev mX3_keepTown : MI := (yX3_keepTown, cX3_keepTown, 4, none, noE)
theorem okX3_keepTown : cok mX3_keepTown 1 := ⟨tw619, tw7, by decide, by decide, by decide, by decide +kernel⟩
def fX3_keepTown (M : Mem) (a0 a1 : Int) : Option Mem :=
  if M.2.1 a0 = 3 then if M.2.1 (M.1 a0 12) = 12 ∧ (0 : Int) ≤ 0 ∧ 0 < M.2.2.1 (M.1 a0 12) then if M.2.1 (M.1 a0 12) = 12 ∧ (0 : Int) ≤ 1 ∧ 1 < M.2.2.1 (M.1 a0 12) then jn (fun (t5 : Mem) => if a1 < 1 then (some t5) else (if 4 < a1 then (some t5) else (if t5.2.1 a0 = 3 then bM (mst t5 a0 14 (imax (t5.1 a0 14) (M.1 (M.1 a0 12) 0))) fun M9 => some M9 else none))) (fun (j4 : Mem → Option Mem) => if a1 = 0 then (if M.2.1 (M.1 a0 2) = 7 then bM (mst M (M.1 a0 2) 0 (M.1 (M.1 a0 12) 0)) fun M13 => j4 M13 else none) else if a1 = 1 then (if M.2.1 (M.1 a0 2) = 7 then (fX10_cell M (M.1 (M.1 a0 12) 0) (M.1 (M.1 a0 12) 1)).bind fun r17 => if M.2.1 (M.1 a0 12) = 12 ∧ (0 : Int) ≤ 2 ∧ 2 < M.2.2.1 (M.1 a0 12) then if M.2.1 (M.1 (M.1 a0 2) 2) = 12 ∧ (0 : Int) ≤ r17 ∧ r17 < M.2.2.1 (M.1 (M.1 a0 2) 2) then bM (mst M (M.1 (M.1 a0 2) 2) r17 (M.1 (M.1 a0 12) 2)) fun M21 => j4 M21 else none else none else none) else if a1 = 2 then (if M.2.1 (M.1 a0 2) = 7 then (fX10_cell M (M.1 (M.1 a0 12) 0) (M.1 (M.1 a0 12) 1)).bind fun r25 => if M.2.1 (M.1 a0 12) = 12 ∧ (0 : Int) ≤ 2 ∧ 2 < M.2.2.1 (M.1 a0 12) then if M.2.1 (M.1 (M.1 a0 2) 3) = 12 ∧ (0 : Int) ≤ r25 ∧ r25 < M.2.2.1 (M.1 (M.1 a0 2) 3) then bM (mst M (M.1 (M.1 a0 2) 3) r25 (M.1 (M.1 a0 12) 2)) fun M29 => j4 M29 else none else none else none) else if a1 = 3 then (if M.2.1 (M.1 a0 2) = 7 then if M.2.1 (M.1 (M.1 a0 2) 4) = 12 ∧ (0 : Int) ≤ (M.1 (M.1 a0 12) 0) ∧ (M.1 (M.1 a0 12) 0) < M.2.2.1 (M.1 (M.1 a0 2) 4) then bM (mst M (M.1 (M.1 a0 2) 4) (M.1 (M.1 a0 12) 0) (M.1 (M.1 a0 12) 1)) fun M34 => j4 M34 else none else none) else if a1 = 4 then (if M.2.1 (M.1 a0 2) = 7 then if M.2.1 (M.1 (M.1 a0 2) 5) = 12 ∧ (0 : Int) ≤ (M.1 (M.1 a0 12) 0) ∧ (M.1 (M.1 a0 12) 0) < M.2.2.1 (M.1 (M.1 a0 2) 5) then bM (mst M (M.1 (M.1 a0 2) 5) (M.1 (M.1 a0 12) 0) (M.1 (M.1 a0 12) 1)) fun M39 => bM (mst M39 a0 14 (imax (M39.1 a0 14) (M.1 (M.1 a0 12) 1))) fun M41 => j4 M41 else none else none) else if a1 = 5 then (if M.2.1 (M.1 a0 2) = 7 then if M.2.1 (M.1 (M.1 a0 2) 6) = 12 ∧ (0 : Int) ≤ (M.1 (M.1 a0 12) 0) ∧ (M.1 (M.1 a0 12) 0) < M.2.2.1 (M.1 (M.1 a0 2) 6) then bM (mst M (M.1 (M.1 a0 2) 6) (M.1 (M.1 a0 12) 0) (M.1 (M.1 a0 12) 1)) fun M46 => j4 M46 else none else none) else if a1 = 6 then (if M.2.1 (M.1 a0 2) = 7 then if M.2.1 (M.1 (M.1 a0 2) 7) = 12 ∧ (0 : Int) ≤ (M.1 (M.1 a0 12) 0) ∧ (M.1 (M.1 a0 12) 0) < M.2.2.1 (M.1 (M.1 a0 2) 7) then bM (mst M (M.1 (M.1 a0 2) 7) (M.1 (M.1 a0 12) 0) (M.1 (M.1 a0 12) 1)) fun M51 => j4 M51 else none else none) else if a1 = 7 then (if M.2.1 (M.1 a0 2) = 7 then if M.2.1 (M.1 (M.1 a0 2) 9) = 12 ∧ (0 : Int) ≤ (M.1 (M.1 a0 12) 0) ∧ (M.1 (M.1 a0 12) 0) < M.2.2.1 (M.1 (M.1 a0 2) 9) then bM (mst M (M.1 (M.1 a0 2) 9) (M.1 (M.1 a0 12) 0) (M.1 (M.1 a0 12) 1)) fun M56 => bM (mst M56 a0 15 (imax (M56.1 a0 15) (imax (M.1 (M.1 a0 12) 0) (M.1 (M.1 a0 12) 1)))) fun M58 => j4 M58 else none else none) else if M.2.1 (M.1 a0 2) = 7 then (fX7_addThief M (M.1 a0 2) (M.1 (M.1 a0 12) 0)).bind fun r60 => j4 r60 else none) else none else none else none
set_option maxRecDepth 100000 in
set_option maxHeartbeats 4000000 in
theorem kX3_keepTown (d : Nat) (hd : 1 ≤ d) (M : Mem) (a0 a1 : Int) : Ct mX3_keepTown d 0 0 [pA a0, pI a1] M dV (fX3_keepTown M a0 a1) := by
  obtain ⟨d, rfl⟩ : ∃ k, d = k + 1 := ⟨d - 1, by omega⟩
  refine Ct.of 2 (fun _ _ _ => trivial) (by decide +kernel) rfl ?_
  unfold fX3_keepTown
  refine v_aload_n dX3_keepTown_0 rfl ?_
  refine v_if (fun h1 => ?_)
  refine v_get (v := pA (M.1 a0 12)) 3 12 rfl inX3 (by decide) tw272 dX3_keepTown_1 h1 rfl ?_
  refine v_iconst dX3_keepTown_4 (by decide) ?_
  refine v_if (fun h2 => ?_)
  refine v_iaload h2 dX3_keepTown_5 ?_
  refine v_istore_n (ls' := [some (pA a0), some (pI a1), some (pI (M.1 (M.1 a0 12) 0)), none]) dX3_keepTown_6 (by decide) rfl ?_
  refine v_aload_n dX3_keepTown_7 rfl ?_
  refine v_get (v := pA (M.1 a0 12)) 3 12 rfl inX3 (by decide) tw272 dX3_keepTown_8 h1 rfl ?_
  refine v_iconst dX3_keepTown_11 (by decide) ?_
  refine v_if (fun h3 => ?_)
  refine v_iaload h3 dX3_keepTown_12 ?_
  refine v_istore_n (ls' := [some (pA a0), some (pI a1), some (pI (M.1 (M.1 a0 12) 0)), some (pI (M.1 (M.1 a0 12) 1))]) dX3_keepTown_13 (by decide) rfl ?_
  refine v_iload_n dX3_keepTown_14 rfl ?_
  refine v_join (fun (t5 : Mem) => [some (pA a0), some (pI a1), some (pI (M.1 (M.1 a0 12) 0)), none]) (fun (t5 : Mem) => []) (fun (t5 : Mem) => t5) 216 (fun t5 => ?_) (fun j4 hj4 => ?_)
  · refine v_iload_n dX3_keepTown_216 rfl ?_
    refine v_iconst dX3_keepTown_217 (by decide) ?_
    refine v_icmp_lt (tgt := 238) dX3_keepTown_218 (by decide) (fun c6 => ?_) (fun c6 => ?_)
    · exact v_return dX3_keepTown_238 rfl rfl
    · refine v_iload_n dX3_keepTown_221 rfl ?_
      refine v_iconst dX3_keepTown_222 (by decide) ?_
      refine v_icmp_gt (tgt := 238) dX3_keepTown_223 (by decide) (fun c7 => ?_) (fun c7 => ?_)
      · exact v_return dX3_keepTown_238 rfl rfl
      · refine v_aload_n dX3_keepTown_226 rfl ?_
        refine v_aload_n dX3_keepTown_227 rfl ?_
        refine v_if (fun h8 => ?_)
        refine v_get (v := pI (t5.1 a0 14)) 3 14 rfl inX3 (by decide) tw274 dX3_keepTown_228 h8 rfl ?_
        refine v_iload_n dX3_keepTown_231 rfl ?_
        refine v_mmax (mi := mX3_keepTown) tw623 tw624 tw12 tw625 (Nat.le_of_ble_eq_true rfl) dX3_keepTown_232 ?_
        refine v_put (x := imax (t5.1 a0 14) (M.1 (M.1 a0 12) 0)) 3 14 rfl inX3 (by decide) tw274 (Or.inl rfl) rfl dX3_keepTown_235 h8 rfl id ?_
        refine v_bM (fun M9 e10 => ?_)
        exact v_return dX3_keepTown_238 rfl rfl
  · refine v_ite (fun h11 => ?_) (fun h11 => ?_)
    · refine v_tabIn (off := 45) (tgt := 60) dX3_keepTown_15 h11 (by decide) ?_
      refine v_aload_n dX3_keepTown_60 rfl ?_
      refine v_get (v := pA (M.1 a0 2)) 3 2 rfl inX3 (by decide) tw258 dX3_keepTown_61 h1 rfl ?_
      refine v_iload_n dX3_keepTown_64 rfl ?_
      refine v_if (fun h12 => ?_)
      refine v_put (x := M.1 (M.1 a0 12) 0) 7 0 rfl inX7 (by decide) tw56 (Or.inl rfl) rfl dX3_keepTown_65 h12 rfl id ?_
      refine v_bM (fun M13 e14 => ?_)
      refine v_goto (tgt := 216) dX3_keepTown_68 (by decide) ?_
      exact v_drop [some (pA a0), some (pI a1), some (pI (M.1 (M.1 a0 12) 0)), none] (ls_s (ls_s (ls_s (ls_n ls_e)))) (hj4 M13)
    · refine v_ite (fun h15 => ?_) (fun h15 => ?_)
      · refine v_tabIn (off := 56) (tgt := 71) dX3_keepTown_15 h15 (by decide) ?_
        refine v_aload_n dX3_keepTown_71 rfl ?_
        refine v_get (v := pA (M.1 a0 2)) 3 2 rfl inX3 (by decide) tw258 dX3_keepTown_72 h1 rfl ?_
        refine v_if (fun h16 => ?_)
        refine v_get (v := pA (M.1 (M.1 a0 2) 2)) 7 2 rfl inX7 (by decide) tw71 dX3_keepTown_75 h16 rfl ?_
        refine v_iload_n dX3_keepTown_78 rfl ?_
        refine v_iload_n dX3_keepTown_79 rfl ?_
        refine v_cS (mi := mX3_keepTown) (c0 := 0) (c1 := 0) (As := [pI (M.1 (M.1 a0 12) 0), pI (M.1 (M.1 a0 12) 1)]) (st := [pA (M.1 (M.1 a0 2) 2)]) (kX10_cell d (by omega) _ _ _) okX10_cell (Or.inr nw8) tw621 rfl (Nat.le_of_ble_eq_true rfl) dX3_keepTown_80 (fun r17 => [pI r17, pA (M.1 (M.1 a0 2) 2)]) (fun r17 => M) (fun _ => rfl) (fun _ => rfl) (fun r17 h18 => ?_) rfl
        refine v_aload_n dX3_keepTown_83 rfl ?_
        refine v_get (v := pA (M.1 a0 12)) 3 12 rfl inX3 (by decide) tw272 dX3_keepTown_84 h1 rfl ?_
        refine v_iconst dX3_keepTown_87 (by decide) ?_
        refine v_if (fun h19 => ?_)
        refine v_iaload h19 dX3_keepTown_88 ?_
        refine v_if (fun h20 => ?_)
        refine v_iastore h20 dX3_keepTown_89 ?_
        refine v_bM (fun M21 e22 => ?_)
        refine v_goto (tgt := 216) dX3_keepTown_90 (by decide) ?_
        exact v_drop [some (pA a0), some (pI a1), some (pI (M.1 (M.1 a0 12) 0)), none] (ls_s (ls_s (ls_s (ls_n ls_e)))) (hj4 M21)
      · refine v_ite (fun h23 => ?_) (fun h23 => ?_)
        · refine v_tabIn (off := 78) (tgt := 93) dX3_keepTown_15 h23 (by decide) ?_
          refine v_aload_n dX3_keepTown_93 rfl ?_
          refine v_get (v := pA (M.1 a0 2)) 3 2 rfl inX3 (by decide) tw258 dX3_keepTown_94 h1 rfl ?_
          refine v_if (fun h24 => ?_)
          refine v_get (v := pA (M.1 (M.1 a0 2) 3)) 7 3 rfl inX7 (by decide) tw75 dX3_keepTown_97 h24 rfl ?_
          refine v_iload_n dX3_keepTown_100 rfl ?_
          refine v_iload_n dX3_keepTown_101 rfl ?_
          refine v_cS (mi := mX3_keepTown) (c0 := 0) (c1 := 0) (As := [pI (M.1 (M.1 a0 12) 0), pI (M.1 (M.1 a0 12) 1)]) (st := [pA (M.1 (M.1 a0 2) 3)]) (kX10_cell d (by omega) _ _ _) okX10_cell (Or.inr nw8) tw621 rfl (Nat.le_of_ble_eq_true rfl) dX3_keepTown_102 (fun r25 => [pI r25, pA (M.1 (M.1 a0 2) 3)]) (fun r25 => M) (fun _ => rfl) (fun _ => rfl) (fun r25 h26 => ?_) rfl
          refine v_aload_n dX3_keepTown_105 rfl ?_
          refine v_get (v := pA (M.1 a0 12)) 3 12 rfl inX3 (by decide) tw272 dX3_keepTown_106 h1 rfl ?_
          refine v_iconst dX3_keepTown_109 (by decide) ?_
          refine v_if (fun h27 => ?_)
          refine v_iaload h27 dX3_keepTown_110 ?_
          refine v_if (fun h28 => ?_)
          refine v_iastore h28 dX3_keepTown_111 ?_
          refine v_bM (fun M29 e30 => ?_)
          refine v_goto (tgt := 216) dX3_keepTown_112 (by decide) ?_
          exact v_drop [some (pA a0), some (pI a1), some (pI (M.1 (M.1 a0 12) 0)), none] (ls_s (ls_s (ls_s (ls_n ls_e)))) (hj4 M29)
        · refine v_ite (fun h31 => ?_) (fun h31 => ?_)
          · refine v_tabIn (off := 100) (tgt := 115) dX3_keepTown_15 h31 (by decide) ?_
            refine v_aload_n dX3_keepTown_115 rfl ?_
            refine v_get (v := pA (M.1 a0 2)) 3 2 rfl inX3 (by decide) tw258 dX3_keepTown_116 h1 rfl ?_
            refine v_if (fun h32 => ?_)
            refine v_get (v := pA (M.1 (M.1 a0 2) 4)) 7 4 rfl inX7 (by decide) tw80 dX3_keepTown_119 h32 rfl ?_
            refine v_iload_n dX3_keepTown_122 rfl ?_
            refine v_iload_n dX3_keepTown_123 rfl ?_
            refine v_if (fun h33 => ?_)
            refine v_iastore h33 dX3_keepTown_124 ?_
            refine v_bM (fun M34 e35 => ?_)
            refine v_goto (tgt := 216) dX3_keepTown_125 (by decide) ?_
            exact v_drop [some (pA a0), some (pI a1), some (pI (M.1 (M.1 a0 12) 0)), none] (ls_s (ls_s (ls_s (ls_n ls_e)))) (hj4 M34)
          · refine v_ite (fun h36 => ?_) (fun h36 => ?_)
            · refine v_tabIn (off := 113) (tgt := 128) dX3_keepTown_15 h36 (by decide) ?_
              refine v_aload_n dX3_keepTown_128 rfl ?_
              refine v_get (v := pA (M.1 a0 2)) 3 2 rfl inX3 (by decide) tw258 dX3_keepTown_129 h1 rfl ?_
              refine v_if (fun h37 => ?_)
              refine v_get (v := pA (M.1 (M.1 a0 2) 5)) 7 5 rfl inX7 (by decide) tw83 dX3_keepTown_132 h37 rfl ?_
              refine v_iload_n dX3_keepTown_135 rfl ?_
              refine v_iload_n dX3_keepTown_136 rfl ?_
              refine v_if (fun h38 => ?_)
              refine v_iastore h38 dX3_keepTown_137 ?_
              refine v_bM (fun M39 e40 => ?_)
              refine v_aload_n dX3_keepTown_138 rfl ?_
              refine v_aload_n dX3_keepTown_139 rfl ?_
              refine v_get (v := pI (M39.1 a0 14)) 3 14 rfl inX3 (by decide) tw274 dX3_keepTown_140 (by rw [e40]; exact h1) rfl ?_
              refine v_iload_n dX3_keepTown_143 rfl ?_
              refine v_mmax (mi := mX3_keepTown) tw623 tw624 tw12 tw625 (Nat.le_of_ble_eq_true rfl) dX3_keepTown_144 ?_
              refine v_put (x := imax (M39.1 a0 14) (M.1 (M.1 a0 12) 1)) 3 14 rfl inX3 (by decide) tw274 (Or.inl rfl) rfl dX3_keepTown_147 (by rw [e40]; exact h1) rfl id ?_
              refine v_bM (fun M41 e42 => ?_)
              refine v_goto (tgt := 216) dX3_keepTown_150 (by decide) ?_
              exact v_drop [some (pA a0), some (pI a1), some (pI (M.1 (M.1 a0 12) 0)), none] (ls_s (ls_s (ls_s (ls_n ls_e)))) (hj4 M41)
            · refine v_ite (fun h43 => ?_) (fun h43 => ?_)
              · refine v_tabIn (off := 138) (tgt := 153) dX3_keepTown_15 h43 (by decide) ?_
                refine v_aload_n dX3_keepTown_153 rfl ?_
                refine v_get (v := pA (M.1 a0 2)) 3 2 rfl inX3 (by decide) tw258 dX3_keepTown_154 h1 rfl ?_
                refine v_if (fun h44 => ?_)
                refine v_get (v := pA (M.1 (M.1 a0 2) 6)) 7 6 rfl inX7 (by decide) tw88 dX3_keepTown_157 h44 rfl ?_
                refine v_iload_n dX3_keepTown_160 rfl ?_
                refine v_iload_n dX3_keepTown_161 rfl ?_
                refine v_if (fun h45 => ?_)
                refine v_iastore h45 dX3_keepTown_162 ?_
                refine v_bM (fun M46 e47 => ?_)
                refine v_goto (tgt := 216) dX3_keepTown_163 (by decide) ?_
                exact v_drop [some (pA a0), some (pI a1), some (pI (M.1 (M.1 a0 12) 0)), none] (ls_s (ls_s (ls_s (ls_n ls_e)))) (hj4 M46)
              · refine v_ite (fun h48 => ?_) (fun h48 => ?_)
                · refine v_tabIn (off := 151) (tgt := 166) dX3_keepTown_15 h48 (by decide) ?_
                  refine v_aload_n dX3_keepTown_166 rfl ?_
                  refine v_get (v := pA (M.1 a0 2)) 3 2 rfl inX3 (by decide) tw258 dX3_keepTown_167 h1 rfl ?_
                  refine v_if (fun h49 => ?_)
                  refine v_get (v := pA (M.1 (M.1 a0 2) 7)) 7 7 rfl inX7 (by decide) tw92 dX3_keepTown_170 h49 rfl ?_
                  refine v_iload_n dX3_keepTown_173 rfl ?_
                  refine v_iload_n dX3_keepTown_174 rfl ?_
                  refine v_if (fun h50 => ?_)
                  refine v_iastore h50 dX3_keepTown_175 ?_
                  refine v_bM (fun M51 e52 => ?_)
                  refine v_goto (tgt := 216) dX3_keepTown_176 (by decide) ?_
                  exact v_drop [some (pA a0), some (pI a1), some (pI (M.1 (M.1 a0 12) 0)), none] (ls_s (ls_s (ls_s (ls_n ls_e)))) (hj4 M51)
                · refine v_ite (fun h53 => ?_) (fun h53 => ?_)
                  · refine v_tabIn (off := 164) (tgt := 179) dX3_keepTown_15 h53 (by decide) ?_
                    refine v_aload_n dX3_keepTown_179 rfl ?_
                    refine v_get (v := pA (M.1 a0 2)) 3 2 rfl inX3 (by decide) tw258 dX3_keepTown_180 h1 rfl ?_
                    refine v_if (fun h54 => ?_)
                    refine v_get (v := pA (M.1 (M.1 a0 2) 9)) 7 9 rfl inX7 (by decide) tw98 dX3_keepTown_183 h54 rfl ?_
                    refine v_iload_n dX3_keepTown_186 rfl ?_
                    refine v_iload_n dX3_keepTown_187 rfl ?_
                    refine v_if (fun h55 => ?_)
                    refine v_iastore h55 dX3_keepTown_188 ?_
                    refine v_bM (fun M56 e57 => ?_)
                    refine v_aload_n dX3_keepTown_189 rfl ?_
                    refine v_aload_n dX3_keepTown_190 rfl ?_
                    refine v_get (v := pI (M56.1 a0 15)) 3 15 rfl inX3 (by decide) tw275 dX3_keepTown_191 (by rw [e57]; exact h1) rfl ?_
                    refine v_iload_n dX3_keepTown_194 rfl ?_
                    refine v_iload_n dX3_keepTown_195 rfl ?_
                    refine v_mmax (mi := mX3_keepTown) tw623 tw624 tw12 tw625 (Nat.le_of_ble_eq_true rfl) dX3_keepTown_196 ?_
                    refine v_mmax (mi := mX3_keepTown) tw623 tw624 tw12 tw625 (Nat.le_of_ble_eq_true rfl) dX3_keepTown_199 ?_
                    refine v_put (x := imax (M56.1 a0 15) (imax (M.1 (M.1 a0 12) 0) (M.1 (M.1 a0 12) 1))) 3 15 rfl inX3 (by decide) tw275 (Or.inl rfl) rfl dX3_keepTown_202 (by rw [e57]; exact h1) rfl id ?_
                    refine v_bM (fun M58 e59 => ?_)
                    refine v_goto (tgt := 216) dX3_keepTown_205 (by decide) ?_
                    exact v_drop [some (pA a0), some (pI a1), some (pI (M.1 (M.1 a0 12) 0)), none] (ls_s (ls_s (ls_s (ls_n ls_e)))) (hj4 M58)
                  · refine v_tabOut (tgt := 208) dX3_keepTown_15 (by omega) (by decide) ?_
                    refine v_aload_n dX3_keepTown_208 rfl ?_
                    refine v_get (v := pA (M.1 a0 2)) 3 2 rfl inX3 (by decide) tw258 dX3_keepTown_209 h1 rfl ?_
                    refine v_iload_n dX3_keepTown_212 rfl ?_
                    refine v_if (fun h62 => ?_)
                    refine v_cV (mi := mX3_keepTown) (c0 := 0) (c1 := 0) (As := [pI (M.1 (M.1 a0 12) 0)]) (st := []) (kX7_addThief d (by omega) _ _ _) rfl h62 rfl okX7_addThief (Or.inl tw626) tw627 tw628 rfl (Nat.le_of_ble_eq_true rfl) dX3_keepTown_213 (fun r60 => []) (fun r60 => r60) (fun _ => rfl) (fun _ => rfl) (fun r60 h61 => ?_) rfl
                    exact v_drop [some (pA a0), some (pI a1), some (pI (M.1 (M.1 a0 12) 0)), none] (ls_s (ls_s (ls_s (ls_n ls_e)))) (hj4 r60)
theorem chX3_keepLaw_0 : (cX3_keepLaw.data.toList.drop 0).take 16 = [27, 16, 9, 160, 0, 19, 42, 180, 0, 28, 42, 180, 0, 65, 3, 46] := by decide +kernel
theorem chX3_keepLaw_1 : (cX3_keepLaw.data.toList.drop 16).take 16 = [181, 0, 240, 167, 0, 45, 27, 16, 10, 160, 0, 19, 42, 180, 0, 28] := by decide +kernel
theorem chX3_keepLaw_2 : (cX3_keepLaw.data.toList.drop 32).take 16 = [42, 180, 0, 65, 3, 46, 181, 0, 242, 167, 0, 23, 42, 180, 0, 28] := by decide +kernel
theorem chX3_keepLaw_3 : (cX3_keepLaw.data.toList.drop 48).take 16 = [89, 180, 0, 245, 4, 42, 180, 0, 65, 3, 46, 120, 128, 181, 0, 245] := by decide +kernel
theorem chX3_keepLaw_4 : (cX3_keepLaw.data.toList.drop 64).take 16 = [177] := by decide +kernel
theorem dX3_keepLaw_0 : decode cX3_keepLaw 0 = .ok (.iload_n 1, 1) := oq_27 (byt chX3_keepLaw_0 0 rfl)
theorem dX3_keepLaw_1 : decode cX3_keepLaw 1 = .ok (.bipush 9, 2) := oq_16 (byt chX3_keepLaw_0 1 rfl) (byt chX3_keepLaw_0 2 rfl) rfl
theorem dX3_keepLaw_3 : decode cX3_keepLaw 3 = .ok (.if_icmp .ne 19, 3) := oq_160 (byt chX3_keepLaw_0 3 rfl) (byt chX3_keepLaw_0 4 rfl) (byt chX3_keepLaw_0 5 rfl) (by decide +kernel)
theorem dX3_keepLaw_6 : decode cX3_keepLaw 6 = .ok (.aload_n 0, 1) := oq_42 (byt chX3_keepLaw_0 6 rfl)
theorem dX3_keepLaw_7 : decode cX3_keepLaw 7 = .ok (.getfield 28, 3) := oq_180 (byt chX3_keepLaw_0 7 rfl) (byt chX3_keepLaw_0 8 rfl) (byt chX3_keepLaw_0 9 rfl) rfl
theorem dX3_keepLaw_10 : decode cX3_keepLaw 10 = .ok (.aload_n 0, 1) := oq_42 (byt chX3_keepLaw_0 10 rfl)
theorem dX3_keepLaw_11 : decode cX3_keepLaw 11 = .ok (.getfield 65, 3) := oq_180 (byt chX3_keepLaw_0 11 rfl) (byt chX3_keepLaw_0 12 rfl) (byt chX3_keepLaw_0 13 rfl) rfl
theorem dX3_keepLaw_14 : decode cX3_keepLaw 14 = .ok (.iconst 0, 1) := oq_3 (byt chX3_keepLaw_0 14 rfl)
theorem dX3_keepLaw_15 : decode cX3_keepLaw 15 = .ok (.iaload, 1) := oq_46 (byt chX3_keepLaw_0 15 rfl)
theorem dX3_keepLaw_16 : decode cX3_keepLaw 16 = .ok (.putfield 240, 3) := oq_181 (byt chX3_keepLaw_1 0 rfl) (byt chX3_keepLaw_1 1 rfl) (byt chX3_keepLaw_1 2 rfl) rfl
theorem dX3_keepLaw_19 : decode cX3_keepLaw 19 = .ok (.goto 45, 3) := oq_167 (byt chX3_keepLaw_1 3 rfl) (byt chX3_keepLaw_1 4 rfl) (byt chX3_keepLaw_1 5 rfl) (by decide +kernel)
theorem dX3_keepLaw_22 : decode cX3_keepLaw 22 = .ok (.iload_n 1, 1) := oq_27 (byt chX3_keepLaw_1 6 rfl)
theorem dX3_keepLaw_23 : decode cX3_keepLaw 23 = .ok (.bipush 10, 2) := oq_16 (byt chX3_keepLaw_1 7 rfl) (byt chX3_keepLaw_1 8 rfl) rfl
theorem dX3_keepLaw_25 : decode cX3_keepLaw 25 = .ok (.if_icmp .ne 19, 3) := oq_160 (byt chX3_keepLaw_1 9 rfl) (byt chX3_keepLaw_1 10 rfl) (byt chX3_keepLaw_1 11 rfl) (by decide +kernel)
theorem dX3_keepLaw_28 : decode cX3_keepLaw 28 = .ok (.aload_n 0, 1) := oq_42 (byt chX3_keepLaw_1 12 rfl)
theorem dX3_keepLaw_29 : decode cX3_keepLaw 29 = .ok (.getfield 28, 3) := oq_180 (byt chX3_keepLaw_1 13 rfl) (byt chX3_keepLaw_1 14 rfl) (byt chX3_keepLaw_1 15 rfl) rfl
theorem dX3_keepLaw_32 : decode cX3_keepLaw 32 = .ok (.aload_n 0, 1) := oq_42 (byt chX3_keepLaw_2 0 rfl)
theorem dX3_keepLaw_33 : decode cX3_keepLaw 33 = .ok (.getfield 65, 3) := oq_180 (byt chX3_keepLaw_2 1 rfl) (byt chX3_keepLaw_2 2 rfl) (byt chX3_keepLaw_2 3 rfl) rfl
theorem dX3_keepLaw_36 : decode cX3_keepLaw 36 = .ok (.iconst 0, 1) := oq_3 (byt chX3_keepLaw_2 4 rfl)
theorem dX3_keepLaw_37 : decode cX3_keepLaw 37 = .ok (.iaload, 1) := oq_46 (byt chX3_keepLaw_2 5 rfl)
theorem dX3_keepLaw_38 : decode cX3_keepLaw 38 = .ok (.putfield 242, 3) := oq_181 (byt chX3_keepLaw_2 6 rfl) (byt chX3_keepLaw_2 7 rfl) (byt chX3_keepLaw_2 8 rfl) rfl
theorem dX3_keepLaw_41 : decode cX3_keepLaw 41 = .ok (.goto 23, 3) := oq_167 (byt chX3_keepLaw_2 9 rfl) (byt chX3_keepLaw_2 10 rfl) (byt chX3_keepLaw_2 11 rfl) (by decide +kernel)
theorem dX3_keepLaw_44 : decode cX3_keepLaw 44 = .ok (.aload_n 0, 1) := oq_42 (byt chX3_keepLaw_2 12 rfl)
theorem dX3_keepLaw_45 : decode cX3_keepLaw 45 = .ok (.getfield 28, 3) := oq_180 (byt chX3_keepLaw_2 13 rfl) (byt chX3_keepLaw_2 14 rfl) (byt chX3_keepLaw_2 15 rfl) rfl
theorem dX3_keepLaw_48 : decode cX3_keepLaw 48 = .ok (.dup, 1) := oq_89 (byt chX3_keepLaw_3 0 rfl)
theorem dX3_keepLaw_49 : decode cX3_keepLaw 49 = .ok (.getfield 245, 3) := oq_180 (byt chX3_keepLaw_3 1 rfl) (byt chX3_keepLaw_3 2 rfl) (byt chX3_keepLaw_3 3 rfl) rfl
theorem dX3_keepLaw_52 : decode cX3_keepLaw 52 = .ok (.iconst 1, 1) := oq_4 (byt chX3_keepLaw_3 4 rfl)
theorem dX3_keepLaw_53 : decode cX3_keepLaw 53 = .ok (.aload_n 0, 1) := oq_42 (byt chX3_keepLaw_3 5 rfl)
theorem dX3_keepLaw_54 : decode cX3_keepLaw 54 = .ok (.getfield 65, 3) := oq_180 (byt chX3_keepLaw_3 6 rfl) (byt chX3_keepLaw_3 7 rfl) (byt chX3_keepLaw_3 8 rfl) rfl
theorem dX3_keepLaw_57 : decode cX3_keepLaw 57 = .ok (.iconst 0, 1) := oq_3 (byt chX3_keepLaw_3 9 rfl)
theorem dX3_keepLaw_58 : decode cX3_keepLaw 58 = .ok (.iaload, 1) := oq_46 (byt chX3_keepLaw_3 10 rfl)
theorem dX3_keepLaw_59 : decode cX3_keepLaw 59 = .ok (.ishl, 1) := oq_120 (byt chX3_keepLaw_3 11 rfl)
theorem dX3_keepLaw_60 : decode cX3_keepLaw 60 = .ok (.ior, 1) := oq_128 (byt chX3_keepLaw_3 12 rfl)
theorem dX3_keepLaw_61 : decode cX3_keepLaw 61 = .ok (.putfield 245, 3) := oq_181 (byt chX3_keepLaw_3 13 rfl) (byt chX3_keepLaw_3 14 rfl) (byt chX3_keepLaw_3 15 rfl) rfl
theorem dX3_keepLaw_64 : decode cX3_keepLaw 64 = .ok (.return_, 1) := oq_177 (byt chX3_keepLaw_4 0 rfl)
abbrev mX3_keepLaw : MI := (yX3_keepLaw, cX3_keepLaw, 2, none, noE)
theorem okX3_keepLaw : cok mX3_keepLaw 1 := ⟨tw633, tw7, by decide, by decide, by decide, by decide +kernel⟩
def fX3_keepLaw (M : Mem) (a0 a1 : Int) : Option Mem :=
  if a1 = 9 then (if M.2.1 a0 = 3 then if M.2.1 (M.1 a0 12) = 12 ∧ (0 : Int) ≤ 0 ∧ 0 < M.2.2.1 (M.1 a0 12) then if M.2.1 (M.1 a0 3) = 0 then bM (mst M (M.1 a0 3) 0 (M.1 (M.1 a0 12) 0)) fun M5 => some M5 else none else none else none) else (if a1 = 10 then (if M.2.1 a0 = 3 then if M.2.1 (M.1 a0 12) = 12 ∧ (0 : Int) ≤ 0 ∧ 0 < M.2.2.1 (M.1 a0 12) then if M.2.1 (M.1 a0 3) = 0 then bM (mst M (M.1 a0 3) 1 (M.1 (M.1 a0 12) 0)) fun M11 => some M11 else none else none else none) else (if M.2.1 a0 = 3 then if M.2.1 (M.1 a0 3) = 0 then if M.2.1 (M.1 a0 12) = 12 ∧ (0 : Int) ≤ 0 ∧ 0 < M.2.2.1 (M.1 a0 12) then bM (mst M (M.1 a0 3) 2 (bOr (M.1 (M.1 a0 3) 2) (bShl 1 (M.1 (M.1 a0 12) 0)))) fun M16 => some M16 else none else none else none))
set_option maxRecDepth 100000 in
set_option maxHeartbeats 4000000 in
theorem kX3_keepLaw (d : Nat) (hd : 0 ≤ d) (M : Mem) (a0 a1 : Int) : Ct mX3_keepLaw d 0 0 [pA a0, pI a1] M dV (fX3_keepLaw M a0 a1) := by
  refine Ct.of 0 (fun _ _ _ => trivial) (by decide +kernel) rfl ?_
  unfold fX3_keepLaw
  refine v_iload_n dX3_keepLaw_0 rfl ?_
  refine v_bipush dX3_keepLaw_1 (by decide) ?_
  refine v_icmp_ne (tgt := 22) dX3_keepLaw_3 (by decide) (fun c1 => ?_) (fun c1 => ?_)
  · refine v_aload_n dX3_keepLaw_6 rfl ?_
    refine v_if (fun h2 => ?_)
    refine v_get (v := pA (M.1 a0 3)) 3 3 rfl inX3 (by decide) tw260 dX3_keepLaw_7 h2 rfl ?_
    refine v_aload_n dX3_keepLaw_10 rfl ?_
    refine v_get (v := pA (M.1 a0 12)) 3 12 rfl inX3 (by decide) tw272 dX3_keepLaw_11 h2 rfl ?_
    refine v_iconst dX3_keepLaw_14 (by decide) ?_
    refine v_if (fun h3 => ?_)
    refine v_iaload h3 dX3_keepLaw_15 ?_
    refine v_if (fun h4 => ?_)
    refine v_put (x := M.1 (M.1 a0 12) 0) 0 0 rfl inX0 (by decide) tw129 (Or.inl rfl) rfl dX3_keepLaw_16 h4 rfl id ?_
    refine v_bM (fun M5 e6 => ?_)
    refine v_goto (tgt := 64) dX3_keepLaw_19 (by decide) ?_
    exact v_return dX3_keepLaw_64 rfl rfl
  · refine v_iload_n dX3_keepLaw_22 rfl ?_
    refine v_bipush dX3_keepLaw_23 (by decide) ?_
    refine v_icmp_ne (tgt := 44) dX3_keepLaw_25 (by decide) (fun c7 => ?_) (fun c7 => ?_)
    · refine v_aload_n dX3_keepLaw_28 rfl ?_
      refine v_if (fun h8 => ?_)
      refine v_get (v := pA (M.1 a0 3)) 3 3 rfl inX3 (by decide) tw260 dX3_keepLaw_29 h8 rfl ?_
      refine v_aload_n dX3_keepLaw_32 rfl ?_
      refine v_get (v := pA (M.1 a0 12)) 3 12 rfl inX3 (by decide) tw272 dX3_keepLaw_33 h8 rfl ?_
      refine v_iconst dX3_keepLaw_36 (by decide) ?_
      refine v_if (fun h9 => ?_)
      refine v_iaload h9 dX3_keepLaw_37 ?_
      refine v_if (fun h10 => ?_)
      refine v_put (x := M.1 (M.1 a0 12) 0) 0 1 rfl inX0 (by decide) tw133 (Or.inl rfl) rfl dX3_keepLaw_38 h10 rfl id ?_
      refine v_bM (fun M11 e12 => ?_)
      refine v_goto (tgt := 64) dX3_keepLaw_41 (by decide) ?_
      exact v_return dX3_keepLaw_64 rfl rfl
    · refine v_aload_n dX3_keepLaw_44 rfl ?_
      refine v_if (fun h13 => ?_)
      refine v_get (v := pA (M.1 a0 3)) 3 3 rfl inX3 (by decide) tw260 dX3_keepLaw_45 h13 rfl ?_
      refine v_dup dX3_keepLaw_48 (by intro z hz; cases hz) ?_
      refine v_if (fun h14 => ?_)
      refine v_get (v := pI (M.1 (M.1 a0 3) 2)) 0 2 rfl inX0 (by decide) tw135 dX3_keepLaw_49 h14 rfl ?_
      refine v_iconst dX3_keepLaw_52 (by decide) ?_
      refine v_aload_n dX3_keepLaw_53 rfl ?_
      refine v_get (v := pA (M.1 a0 12)) 3 12 rfl inX3 (by decide) tw272 dX3_keepLaw_54 h13 rfl ?_
      refine v_iconst dX3_keepLaw_57 (by decide) ?_
      refine v_if (fun h15 => ?_)
      refine v_iaload h15 dX3_keepLaw_58 ?_
      refine v_ishl dX3_keepLaw_59 ?_
      refine v_ior dX3_keepLaw_60 ?_
      refine v_put (x := bOr (M.1 (M.1 a0 3) 2) (bShl 1 (M.1 (M.1 a0 12) 0))) 0 2 rfl inX0 (by decide) tw135 (Or.inl rfl) rfl dX3_keepLaw_61 h14 rfl id ?_
      refine v_bM (fun M16 e17 => ?_)
      exact v_return dX3_keepLaw_64 rfl rfl
theorem chX3_keepLine_0 : (cX3_keepLine.data.toList.drop 0).take 16 = [27, 16, 9, 162, 0, 11, 42, 27, 182, 0, 202, 167, 0, 134, 27, 16] := by decide +kernel
theorem chX3_keepLine_1 : (cX3_keepLine.data.toList.drop 16).take 16 = [12, 162, 0, 11, 42, 27, 182, 0, 205, 167, 0, 120, 27, 16, 15, 160] := by decide +kernel
theorem chX3_keepLine_2 : (cX3_keepLine.data.toList.drop 32).take 16 = [0, 17, 42, 180, 0, 35, 6, 2, 2, 2, 182, 0, 208, 167, 0, 100] := by decide +kernel
theorem chX3_keepLine_3 : (cX3_keepLine.data.toList.drop 48).take 16 = [27, 16, 15, 162, 0, 37, 42, 180, 0, 35, 3, 27, 96, 16, 12, 100] := by decide +kernel
theorem chX3_keepLine_4 : (cX3_keepLine.data.toList.drop 64).take 16 = [42, 180, 0, 65, 3, 46, 42, 180, 0, 65, 4, 46, 42, 180, 0, 65] := by decide +kernel
theorem chX3_keepLine_5 : (cX3_keepLine.data.toList.drop 80).take 16 = [5, 46, 182, 0, 208, 167, 0, 60, 27, 16, 16, 160, 0, 25, 42, 180] := by decide +kernel
theorem chX3_keepLine_6 : (cX3_keepLine.data.toList.drop 96).take 16 = [0, 42, 42, 180, 0, 65, 3, 46, 42, 180, 0, 65, 4, 46, 182, 0] := by decide +kernel
theorem chX3_keepLine_7 : (cX3_keepLine.data.toList.drop 112).take 16 = [212, 167, 0, 32, 42, 180, 0, 42, 180, 0, 214, 42, 180, 0, 65, 3] := by decide +kernel
theorem chX3_keepLine_8 : (cX3_keepLine.data.toList.drop 128).take 16 = [46, 42, 180, 0, 65, 4, 46, 184, 0, 216, 42, 180, 0, 65, 5, 46] := by decide +kernel
theorem chX3_keepLine_9 : (cX3_keepLine.data.toList.drop 144).take 16 = [79, 177] := by decide +kernel
theorem dX3_keepLine_0 : decode cX3_keepLine 0 = .ok (.iload_n 1, 1) := oq_27 (byt chX3_keepLine_0 0 rfl)
theorem dX3_keepLine_1 : decode cX3_keepLine 1 = .ok (.bipush 9, 2) := oq_16 (byt chX3_keepLine_0 1 rfl) (byt chX3_keepLine_0 2 rfl) rfl
theorem dX3_keepLine_3 : decode cX3_keepLine 3 = .ok (.if_icmp .ge 11, 3) := oq_162 (byt chX3_keepLine_0 3 rfl) (byt chX3_keepLine_0 4 rfl) (byt chX3_keepLine_0 5 rfl) (by decide +kernel)
theorem dX3_keepLine_6 : decode cX3_keepLine 6 = .ok (.aload_n 0, 1) := oq_42 (byt chX3_keepLine_0 6 rfl)
theorem dX3_keepLine_7 : decode cX3_keepLine 7 = .ok (.iload_n 1, 1) := oq_27 (byt chX3_keepLine_0 7 rfl)
theorem dX3_keepLine_8 : decode cX3_keepLine 8 = .ok (.invokevirtual 202, 3) := oq_182 (byt chX3_keepLine_0 8 rfl) (byt chX3_keepLine_0 9 rfl) (byt chX3_keepLine_0 10 rfl) rfl
theorem dX3_keepLine_11 : decode cX3_keepLine 11 = .ok (.goto 134, 3) := oq_167 (byt chX3_keepLine_0 11 rfl) (byt chX3_keepLine_0 12 rfl) (byt chX3_keepLine_0 13 rfl) (by decide +kernel)
theorem dX3_keepLine_14 : decode cX3_keepLine 14 = .ok (.iload_n 1, 1) := oq_27 (byt chX3_keepLine_0 14 rfl)
theorem dX3_keepLine_15 : decode cX3_keepLine 15 = .ok (.bipush 12, 2) := oq_16 (byt chX3_keepLine_0 15 rfl) (byt chX3_keepLine_1 0 rfl) rfl
theorem dX3_keepLine_17 : decode cX3_keepLine 17 = .ok (.if_icmp .ge 11, 3) := oq_162 (byt chX3_keepLine_1 1 rfl) (byt chX3_keepLine_1 2 rfl) (byt chX3_keepLine_1 3 rfl) (by decide +kernel)
theorem dX3_keepLine_20 : decode cX3_keepLine 20 = .ok (.aload_n 0, 1) := oq_42 (byt chX3_keepLine_1 4 rfl)
theorem dX3_keepLine_21 : decode cX3_keepLine 21 = .ok (.iload_n 1, 1) := oq_27 (byt chX3_keepLine_1 5 rfl)
theorem dX3_keepLine_22 : decode cX3_keepLine 22 = .ok (.invokevirtual 205, 3) := oq_182 (byt chX3_keepLine_1 6 rfl) (byt chX3_keepLine_1 7 rfl) (byt chX3_keepLine_1 8 rfl) rfl
theorem dX3_keepLine_25 : decode cX3_keepLine 25 = .ok (.goto 120, 3) := oq_167 (byt chX3_keepLine_1 9 rfl) (byt chX3_keepLine_1 10 rfl) (byt chX3_keepLine_1 11 rfl) (by decide +kernel)
theorem dX3_keepLine_28 : decode cX3_keepLine 28 = .ok (.iload_n 1, 1) := oq_27 (byt chX3_keepLine_1 12 rfl)
theorem dX3_keepLine_29 : decode cX3_keepLine 29 = .ok (.bipush 15, 2) := oq_16 (byt chX3_keepLine_1 13 rfl) (byt chX3_keepLine_1 14 rfl) rfl
theorem dX3_keepLine_31 : decode cX3_keepLine 31 = .ok (.if_icmp .ne 17, 3) := oq_160 (byt chX3_keepLine_1 15 rfl) (byt chX3_keepLine_2 0 rfl) (byt chX3_keepLine_2 1 rfl) (by decide +kernel)
theorem dX3_keepLine_34 : decode cX3_keepLine 34 = .ok (.aload_n 0, 1) := oq_42 (byt chX3_keepLine_2 2 rfl)
theorem dX3_keepLine_35 : decode cX3_keepLine 35 = .ok (.getfield 35, 3) := oq_180 (byt chX3_keepLine_2 3 rfl) (byt chX3_keepLine_2 4 rfl) (byt chX3_keepLine_2 5 rfl) rfl
theorem dX3_keepLine_38 : decode cX3_keepLine 38 = .ok (.iconst 3, 1) := oq_6 (byt chX3_keepLine_2 6 rfl)
theorem dX3_keepLine_39 : decode cX3_keepLine 39 = .ok (.iconst (-1), 1) := oq_2 (byt chX3_keepLine_2 7 rfl)
theorem dX3_keepLine_40 : decode cX3_keepLine 40 = .ok (.iconst (-1), 1) := oq_2 (byt chX3_keepLine_2 8 rfl)
theorem dX3_keepLine_41 : decode cX3_keepLine 41 = .ok (.iconst (-1), 1) := oq_2 (byt chX3_keepLine_2 9 rfl)
theorem dX3_keepLine_42 : decode cX3_keepLine 42 = .ok (.invokevirtual 208, 3) := oq_182 (byt chX3_keepLine_2 10 rfl) (byt chX3_keepLine_2 11 rfl) (byt chX3_keepLine_2 12 rfl) rfl
theorem dX3_keepLine_45 : decode cX3_keepLine 45 = .ok (.goto 100, 3) := oq_167 (byt chX3_keepLine_2 13 rfl) (byt chX3_keepLine_2 14 rfl) (byt chX3_keepLine_2 15 rfl) (by decide +kernel)
theorem dX3_keepLine_48 : decode cX3_keepLine 48 = .ok (.iload_n 1, 1) := oq_27 (byt chX3_keepLine_3 0 rfl)
theorem dX3_keepLine_49 : decode cX3_keepLine 49 = .ok (.bipush 15, 2) := oq_16 (byt chX3_keepLine_3 1 rfl) (byt chX3_keepLine_3 2 rfl) rfl
theorem dX3_keepLine_51 : decode cX3_keepLine 51 = .ok (.if_icmp .ge 37, 3) := oq_162 (byt chX3_keepLine_3 3 rfl) (byt chX3_keepLine_3 4 rfl) (byt chX3_keepLine_3 5 rfl) (by decide +kernel)
theorem dX3_keepLine_54 : decode cX3_keepLine 54 = .ok (.aload_n 0, 1) := oq_42 (byt chX3_keepLine_3 6 rfl)
theorem dX3_keepLine_55 : decode cX3_keepLine 55 = .ok (.getfield 35, 3) := oq_180 (byt chX3_keepLine_3 7 rfl) (byt chX3_keepLine_3 8 rfl) (byt chX3_keepLine_3 9 rfl) rfl
theorem dX3_keepLine_58 : decode cX3_keepLine 58 = .ok (.iconst 0, 1) := oq_3 (byt chX3_keepLine_3 10 rfl)
theorem dX3_keepLine_59 : decode cX3_keepLine 59 = .ok (.iload_n 1, 1) := oq_27 (byt chX3_keepLine_3 11 rfl)
theorem dX3_keepLine_60 : decode cX3_keepLine 60 = .ok (.iadd, 1) := oq_96 (byt chX3_keepLine_3 12 rfl)
theorem dX3_keepLine_61 : decode cX3_keepLine 61 = .ok (.bipush 12, 2) := oq_16 (byt chX3_keepLine_3 13 rfl) (byt chX3_keepLine_3 14 rfl) rfl
theorem dX3_keepLine_63 : decode cX3_keepLine 63 = .ok (.isub, 1) := oq_100 (byt chX3_keepLine_3 15 rfl)
theorem dX3_keepLine_64 : decode cX3_keepLine 64 = .ok (.aload_n 0, 1) := oq_42 (byt chX3_keepLine_4 0 rfl)
theorem dX3_keepLine_65 : decode cX3_keepLine 65 = .ok (.getfield 65, 3) := oq_180 (byt chX3_keepLine_4 1 rfl) (byt chX3_keepLine_4 2 rfl) (byt chX3_keepLine_4 3 rfl) rfl
theorem dX3_keepLine_68 : decode cX3_keepLine 68 = .ok (.iconst 0, 1) := oq_3 (byt chX3_keepLine_4 4 rfl)
theorem dX3_keepLine_69 : decode cX3_keepLine 69 = .ok (.iaload, 1) := oq_46 (byt chX3_keepLine_4 5 rfl)
theorem dX3_keepLine_70 : decode cX3_keepLine 70 = .ok (.aload_n 0, 1) := oq_42 (byt chX3_keepLine_4 6 rfl)
theorem dX3_keepLine_71 : decode cX3_keepLine 71 = .ok (.getfield 65, 3) := oq_180 (byt chX3_keepLine_4 7 rfl) (byt chX3_keepLine_4 8 rfl) (byt chX3_keepLine_4 9 rfl) rfl
theorem dX3_keepLine_74 : decode cX3_keepLine 74 = .ok (.iconst 1, 1) := oq_4 (byt chX3_keepLine_4 10 rfl)
theorem dX3_keepLine_75 : decode cX3_keepLine 75 = .ok (.iaload, 1) := oq_46 (byt chX3_keepLine_4 11 rfl)
theorem dX3_keepLine_76 : decode cX3_keepLine 76 = .ok (.aload_n 0, 1) := oq_42 (byt chX3_keepLine_4 12 rfl)
theorem dX3_keepLine_77 : decode cX3_keepLine 77 = .ok (.getfield 65, 3) := oq_180 (byt chX3_keepLine_4 13 rfl) (byt chX3_keepLine_4 14 rfl) (byt chX3_keepLine_4 15 rfl) rfl
theorem dX3_keepLine_80 : decode cX3_keepLine 80 = .ok (.iconst 2, 1) := oq_5 (byt chX3_keepLine_5 0 rfl)
theorem dX3_keepLine_81 : decode cX3_keepLine 81 = .ok (.iaload, 1) := oq_46 (byt chX3_keepLine_5 1 rfl)
theorem dX3_keepLine_82 : decode cX3_keepLine 82 = .ok (.invokevirtual 208, 3) := oq_182 (byt chX3_keepLine_5 2 rfl) (byt chX3_keepLine_5 3 rfl) (byt chX3_keepLine_5 4 rfl) rfl
theorem dX3_keepLine_85 : decode cX3_keepLine 85 = .ok (.goto 60, 3) := oq_167 (byt chX3_keepLine_5 5 rfl) (byt chX3_keepLine_5 6 rfl) (byt chX3_keepLine_5 7 rfl) (by decide +kernel)
theorem dX3_keepLine_88 : decode cX3_keepLine 88 = .ok (.iload_n 1, 1) := oq_27 (byt chX3_keepLine_5 8 rfl)
theorem dX3_keepLine_89 : decode cX3_keepLine 89 = .ok (.bipush 16, 2) := oq_16 (byt chX3_keepLine_5 9 rfl) (byt chX3_keepLine_5 10 rfl) rfl
theorem dX3_keepLine_91 : decode cX3_keepLine 91 = .ok (.if_icmp .ne 25, 3) := oq_160 (byt chX3_keepLine_5 11 rfl) (byt chX3_keepLine_5 12 rfl) (byt chX3_keepLine_5 13 rfl) (by decide +kernel)
theorem dX3_keepLine_94 : decode cX3_keepLine 94 = .ok (.aload_n 0, 1) := oq_42 (byt chX3_keepLine_5 14 rfl)
theorem dX3_keepLine_95 : decode cX3_keepLine 95 = .ok (.getfield 42, 3) := oq_180 (byt chX3_keepLine_5 15 rfl) (byt chX3_keepLine_6 0 rfl) (byt chX3_keepLine_6 1 rfl) rfl
theorem dX3_keepLine_98 : decode cX3_keepLine 98 = .ok (.aload_n 0, 1) := oq_42 (byt chX3_keepLine_6 2 rfl)
theorem dX3_keepLine_99 : decode cX3_keepLine 99 = .ok (.getfield 65, 3) := oq_180 (byt chX3_keepLine_6 3 rfl) (byt chX3_keepLine_6 4 rfl) (byt chX3_keepLine_6 5 rfl) rfl
theorem dX3_keepLine_102 : decode cX3_keepLine 102 = .ok (.iconst 0, 1) := oq_3 (byt chX3_keepLine_6 6 rfl)
theorem dX3_keepLine_103 : decode cX3_keepLine 103 = .ok (.iaload, 1) := oq_46 (byt chX3_keepLine_6 7 rfl)
theorem dX3_keepLine_104 : decode cX3_keepLine 104 = .ok (.aload_n 0, 1) := oq_42 (byt chX3_keepLine_6 8 rfl)
theorem dX3_keepLine_105 : decode cX3_keepLine 105 = .ok (.getfield 65, 3) := oq_180 (byt chX3_keepLine_6 9 rfl) (byt chX3_keepLine_6 10 rfl) (byt chX3_keepLine_6 11 rfl) rfl
theorem dX3_keepLine_108 : decode cX3_keepLine 108 = .ok (.iconst 1, 1) := oq_4 (byt chX3_keepLine_6 12 rfl)
theorem dX3_keepLine_109 : decode cX3_keepLine 109 = .ok (.iaload, 1) := oq_46 (byt chX3_keepLine_6 13 rfl)
theorem dX3_keepLine_110 : decode cX3_keepLine 110 = .ok (.invokevirtual 212, 3) := oq_182 (byt chX3_keepLine_6 14 rfl) (byt chX3_keepLine_6 15 rfl) (byt chX3_keepLine_7 0 rfl) rfl
theorem dX3_keepLine_113 : decode cX3_keepLine 113 = .ok (.goto 32, 3) := oq_167 (byt chX3_keepLine_7 1 rfl) (byt chX3_keepLine_7 2 rfl) (byt chX3_keepLine_7 3 rfl) (by decide +kernel)
theorem dX3_keepLine_116 : decode cX3_keepLine 116 = .ok (.aload_n 0, 1) := oq_42 (byt chX3_keepLine_7 4 rfl)
theorem dX3_keepLine_117 : decode cX3_keepLine 117 = .ok (.getfield 42, 3) := oq_180 (byt chX3_keepLine_7 5 rfl) (byt chX3_keepLine_7 6 rfl) (byt chX3_keepLine_7 7 rfl) rfl
theorem dX3_keepLine_120 : decode cX3_keepLine 120 = .ok (.getfield 214, 3) := oq_180 (byt chX3_keepLine_7 8 rfl) (byt chX3_keepLine_7 9 rfl) (byt chX3_keepLine_7 10 rfl) rfl
theorem dX3_keepLine_123 : decode cX3_keepLine 123 = .ok (.aload_n 0, 1) := oq_42 (byt chX3_keepLine_7 11 rfl)
theorem dX3_keepLine_124 : decode cX3_keepLine 124 = .ok (.getfield 65, 3) := oq_180 (byt chX3_keepLine_7 12 rfl) (byt chX3_keepLine_7 13 rfl) (byt chX3_keepLine_7 14 rfl) rfl
theorem dX3_keepLine_127 : decode cX3_keepLine 127 = .ok (.iconst 0, 1) := oq_3 (byt chX3_keepLine_7 15 rfl)
theorem dX3_keepLine_128 : decode cX3_keepLine 128 = .ok (.iaload, 1) := oq_46 (byt chX3_keepLine_8 0 rfl)
theorem dX3_keepLine_129 : decode cX3_keepLine 129 = .ok (.aload_n 0, 1) := oq_42 (byt chX3_keepLine_8 1 rfl)
theorem dX3_keepLine_130 : decode cX3_keepLine 130 = .ok (.getfield 65, 3) := oq_180 (byt chX3_keepLine_8 2 rfl) (byt chX3_keepLine_8 3 rfl) (byt chX3_keepLine_8 4 rfl) rfl
theorem dX3_keepLine_133 : decode cX3_keepLine 133 = .ok (.iconst 1, 1) := oq_4 (byt chX3_keepLine_8 5 rfl)
theorem dX3_keepLine_134 : decode cX3_keepLine 134 = .ok (.iaload, 1) := oq_46 (byt chX3_keepLine_8 6 rfl)
theorem dX3_keepLine_135 : decode cX3_keepLine 135 = .ok (.invokestatic 216, 3) := oq_184 (byt chX3_keepLine_8 7 rfl) (byt chX3_keepLine_8 8 rfl) (byt chX3_keepLine_8 9 rfl) rfl
theorem dX3_keepLine_138 : decode cX3_keepLine 138 = .ok (.aload_n 0, 1) := oq_42 (byt chX3_keepLine_8 10 rfl)
theorem dX3_keepLine_139 : decode cX3_keepLine 139 = .ok (.getfield 65, 3) := oq_180 (byt chX3_keepLine_8 11 rfl) (byt chX3_keepLine_8 12 rfl) (byt chX3_keepLine_8 13 rfl) rfl
theorem dX3_keepLine_142 : decode cX3_keepLine 142 = .ok (.iconst 2, 1) := oq_5 (byt chX3_keepLine_8 14 rfl)
theorem dX3_keepLine_143 : decode cX3_keepLine 143 = .ok (.iaload, 1) := oq_46 (byt chX3_keepLine_8 15 rfl)
theorem dX3_keepLine_144 : decode cX3_keepLine 144 = .ok (.iastore, 1) := oq_79 (byt chX3_keepLine_9 0 rfl)
theorem dX3_keepLine_145 : decode cX3_keepLine 145 = .ok (.return_, 1) := oq_177 (byt chX3_keepLine_9 1 rfl)
abbrev mX3_keepLine : MI := (yX3_keepLine, cX3_keepLine, 2, none, noE)
theorem okX3_keepLine : cok mX3_keepLine 1 := ⟨tw615, tw7, by decide, by decide, by decide, by decide +kernel⟩
def fX3_keepLine (M : Mem) (a0 a1 : Int) : Option Mem :=
  if a1 < 9 then (if M.2.1 a0 = 3 then (fX3_keepTown M a0 a1).bind fun r2 => some r2 else none) else (if a1 < 12 then (if M.2.1 a0 = 3 then (fX3_keepLaw M a0 a1).bind fun r6 => some r6 else none) else (if a1 = 15 then (if M.2.1 a0 = 3 then if M.2.1 (M.1 a0 4) = 1 then (fX1_add M (M.1 a0 4) 3 (-1) (-1) (-1)).bind fun r11 => some r11 else none else none) else (if a1 < 15 then (if M.2.1 a0 = 3 then if M.2.1 (M.1 a0 12) = 12 ∧ (0 : Int) ≤ 0 ∧ 0 < M.2.2.1 (M.1 a0 12) then if M.2.1 (M.1 a0 12) = 12 ∧ (0 : Int) ≤ 1 ∧ 1 < M.2.2.1 (M.1 a0 12) then if M.2.1 (M.1 a0 12) = 12 ∧ (0 : Int) ≤ 2 ∧ 2 < M.2.2.1 (M.1 a0 12) then if M.2.1 (M.1 a0 4) = 1 then (fX1_add M (M.1 a0 4) (w32 ((w32 (0 + a1)) - 12)) (M.1 (M.1 a0 12) 0) (M.1 (M.1 a0 12) 1) (M.1 (M.1 a0 12) 2)).bind fun r19 => some r19 else none else none else none else none else none) else (if a1 = 16 then (if M.2.1 a0 = 3 then if M.2.1 (M.1 a0 12) = 12 ∧ (0 : Int) ≤ 0 ∧ 0 < M.2.2.1 (M.1 a0 12) then if M.2.1 (M.1 a0 12) = 12 ∧ (0 : Int) ≤ 1 ∧ 1 < M.2.2.1 (M.1 a0 12) then if M.2.1 (M.1 a0 5) = 4 then (fX4_add M (M.1 a0 5) (M.1 (M.1 a0 12) 0) (M.1 (M.1 a0 12) 1)).bind fun r26 => some r26 else none else none else none else none) else (if M.2.1 a0 = 3 then if M.2.1 (M.1 a0 5) = 4 then if M.2.1 (M.1 a0 12) = 12 ∧ (0 : Int) ≤ 0 ∧ 0 < M.2.2.1 (M.1 a0 12) then if M.2.1 (M.1 a0 12) = 12 ∧ (0 : Int) ≤ 1 ∧ 1 < M.2.2.1 (M.1 a0 12) then (fX10_cell M (M.1 (M.1 a0 12) 0) (M.1 (M.1 a0 12) 1)).bind fun r33 => if M.2.1 (M.1 a0 12) = 12 ∧ (0 : Int) ≤ 2 ∧ 2 < M.2.2.1 (M.1 a0 12) then if M.2.1 (M.1 (M.1 a0 5) 3) = 12 ∧ (0 : Int) ≤ r33 ∧ r33 < M.2.2.1 (M.1 (M.1 a0 5) 3) then bM (mst M (M.1 (M.1 a0 5) 3) r33 (M.1 (M.1 a0 12) 2)) fun M37 => some M37 else none else none else none else none else none else none)))))
set_option maxRecDepth 100000 in
set_option maxHeartbeats 4000000 in
theorem kX3_keepLine (d : Nat) (hd : 2 ≤ d) (M : Mem) (a0 a1 : Int) : Ct mX3_keepLine d 0 0 [pA a0, pI a1] M dV (fX3_keepLine M a0 a1) := by
  obtain ⟨d, rfl⟩ : ∃ k, d = k + 1 := ⟨d - 1, by omega⟩
  refine Ct.of 0 (fun _ _ _ => trivial) (by decide +kernel) rfl ?_
  unfold fX3_keepLine
  refine v_iload_n dX3_keepLine_0 rfl ?_
  refine v_bipush dX3_keepLine_1 (by decide) ?_
  refine v_icmp_ge (tgt := 14) dX3_keepLine_3 (by decide) (fun c1 => ?_) (fun c1 => ?_)
  · refine v_aload_n dX3_keepLine_6 rfl ?_
    refine v_iload_n dX3_keepLine_7 rfl ?_
    refine v_if (fun h4 => ?_)
    refine v_cV (mi := mX3_keepLine) (c0 := 0) (c1 := 0) (As := [pI a1]) (st := []) (kX3_keepTown d (by omega) _ _ _) rfl h4 rfl okX3_keepTown (Or.inl tw616) tw618 tp12 rfl (Nat.le_of_ble_eq_true rfl) dX3_keepLine_8 (fun r2 => []) (fun r2 => r2) (fun _ => rfl) (fun _ => rfl) (fun r2 h3 => ?_) rfl
    refine v_goto (tgt := 145) dX3_keepLine_11 (by decide) ?_
    exact v_return dX3_keepLine_145 rfl rfl
  · refine v_iload_n dX3_keepLine_14 rfl ?_
    refine v_bipush dX3_keepLine_15 (by decide) ?_
    refine v_icmp_ge (tgt := 28) dX3_keepLine_17 (by decide) (fun c5 => ?_) (fun c5 => ?_)
    · refine v_aload_n dX3_keepLine_20 rfl ?_
      refine v_iload_n dX3_keepLine_21 rfl ?_
      refine v_if (fun h8 => ?_)
      refine v_cV (mi := mX3_keepLine) (c0 := 0) (c1 := 0) (As := [pI a1]) (st := []) (kX3_keepLaw d (by omega) _ _ _) rfl h8 rfl okX3_keepLaw (Or.inl tw630) tw632 tp13 rfl (Nat.le_of_ble_eq_true rfl) dX3_keepLine_22 (fun r6 => []) (fun r6 => r6) (fun _ => rfl) (fun _ => rfl) (fun r6 h7 => ?_) rfl
      refine v_goto (tgt := 145) dX3_keepLine_25 (by decide) ?_
      exact v_return dX3_keepLine_145 rfl rfl
    · refine v_iload_n dX3_keepLine_28 rfl ?_
      refine v_bipush dX3_keepLine_29 (by decide) ?_
      refine v_icmp_ne (tgt := 48) dX3_keepLine_31 (by decide) (fun c9 => ?_) (fun c9 => ?_)
      · refine v_aload_n dX3_keepLine_34 rfl ?_
        refine v_if (fun h10 => ?_)
        refine v_get (v := pA (M.1 a0 4)) 3 4 rfl inX3 (by decide) tw262 dX3_keepLine_35 h10 rfl ?_
        refine v_iconst dX3_keepLine_38 (by decide) ?_
        refine v_iconst dX3_keepLine_39 (by decide) ?_
        refine v_iconst dX3_keepLine_40 (by decide) ?_
        refine v_iconst dX3_keepLine_41 (by decide) ?_
        refine v_if (fun h13 => ?_)
        refine v_cV (mi := mX3_keepLine) (c0 := 0) (c1 := 0) (As := [pI 3, pI (-1), pI (-1), pI (-1)]) (st := []) (kX1_add d (by omega) _ _ _ _ _ _) rfl h13 rfl okX1_add (Or.inl tw634) tw635 tw636 rfl (Nat.le_of_ble_eq_true rfl) dX3_keepLine_42 (fun r11 => []) (fun r11 => r11) (fun _ => rfl) (fun _ => rfl) (fun r11 h12 => ?_) rfl
        refine v_goto (tgt := 145) dX3_keepLine_45 (by decide) ?_
        exact v_return dX3_keepLine_145 rfl rfl
      · refine v_iload_n dX3_keepLine_48 rfl ?_
        refine v_bipush dX3_keepLine_49 (by decide) ?_
        refine v_icmp_ge (tgt := 88) dX3_keepLine_51 (by decide) (fun c14 => ?_) (fun c14 => ?_)
        · refine v_aload_n dX3_keepLine_54 rfl ?_
          refine v_if (fun h15 => ?_)
          refine v_get (v := pA (M.1 a0 4)) 3 4 rfl inX3 (by decide) tw262 dX3_keepLine_55 h15 rfl ?_
          refine v_iconst dX3_keepLine_58 (by decide) ?_
          refine v_iload_n dX3_keepLine_59 rfl ?_
          refine v_iadd dX3_keepLine_60 ?_
          refine v_bipush dX3_keepLine_61 (by decide) ?_
          refine v_isub dX3_keepLine_63 ?_
          refine v_aload_n dX3_keepLine_64 rfl ?_
          refine v_get (v := pA (M.1 a0 12)) 3 12 rfl inX3 (by decide) tw272 dX3_keepLine_65 h15 rfl ?_
          refine v_iconst dX3_keepLine_68 (by decide) ?_
          refine v_if (fun h16 => ?_)
          refine v_iaload h16 dX3_keepLine_69 ?_
          refine v_aload_n dX3_keepLine_70 rfl ?_
          refine v_get (v := pA (M.1 a0 12)) 3 12 rfl inX3 (by decide) tw272 dX3_keepLine_71 h15 rfl ?_
          refine v_iconst dX3_keepLine_74 (by decide) ?_
          refine v_if (fun h17 => ?_)
          refine v_iaload h17 dX3_keepLine_75 ?_
          refine v_aload_n dX3_keepLine_76 rfl ?_
          refine v_get (v := pA (M.1 a0 12)) 3 12 rfl inX3 (by decide) tw272 dX3_keepLine_77 h15 rfl ?_
          refine v_iconst dX3_keepLine_80 (by decide) ?_
          refine v_if (fun h18 => ?_)
          refine v_iaload h18 dX3_keepLine_81 ?_
          refine v_if (fun h21 => ?_)
          refine v_cV (mi := mX3_keepLine) (c0 := 0) (c1 := 0) (As := [pI (w32 ((w32 (0 + a1)) - 12)), pI (M.1 (M.1 a0 12) 0), pI (M.1 (M.1 a0 12) 1), pI (M.1 (M.1 a0 12) 2)]) (st := []) (kX1_add d (by omega) _ _ _ _ _ _) rfl h21 rfl okX1_add (Or.inl tw634) tw635 tw636 rfl (Nat.le_of_ble_eq_true rfl) dX3_keepLine_82 (fun r19 => []) (fun r19 => r19) (fun _ => rfl) (fun _ => rfl) (fun r19 h20 => ?_) rfl
          refine v_goto (tgt := 145) dX3_keepLine_85 (by decide) ?_
          exact v_return dX3_keepLine_145 rfl rfl
        · refine v_iload_n dX3_keepLine_88 rfl ?_
          refine v_bipush dX3_keepLine_89 (by decide) ?_
          refine v_icmp_ne (tgt := 116) dX3_keepLine_91 (by decide) (fun c22 => ?_) (fun c22 => ?_)
          · refine v_aload_n dX3_keepLine_94 rfl ?_
            refine v_if (fun h23 => ?_)
            refine v_get (v := pA (M.1 a0 5)) 3 5 rfl inX3 (by decide) tw264 dX3_keepLine_95 h23 rfl ?_
            refine v_aload_n dX3_keepLine_98 rfl ?_
            refine v_get (v := pA (M.1 a0 12)) 3 12 rfl inX3 (by decide) tw272 dX3_keepLine_99 h23 rfl ?_
            refine v_iconst dX3_keepLine_102 (by decide) ?_
            refine v_if (fun h24 => ?_)
            refine v_iaload h24 dX3_keepLine_103 ?_
            refine v_aload_n dX3_keepLine_104 rfl ?_
            refine v_get (v := pA (M.1 a0 12)) 3 12 rfl inX3 (by decide) tw272 dX3_keepLine_105 h23 rfl ?_
            refine v_iconst dX3_keepLine_108 (by decide) ?_
            refine v_if (fun h25 => ?_)
            refine v_iaload h25 dX3_keepLine_109 ?_
            refine v_if (fun h28 => ?_)
            refine v_cV (mi := mX3_keepLine) (c0 := 0) (c1 := 0) (As := [pI (M.1 (M.1 a0 12) 0), pI (M.1 (M.1 a0 12) 1)]) (st := []) (kX4_add d (by omega) _ _ _ _) rfl h28 rfl okX4_add (Or.inl tw638) tw639 tw640 rfl (Nat.le_of_ble_eq_true rfl) dX3_keepLine_110 (fun r26 => []) (fun r26 => r26) (fun _ => rfl) (fun _ => rfl) (fun r26 h27 => ?_) rfl
            refine v_goto (tgt := 145) dX3_keepLine_113 (by decide) ?_
            exact v_return dX3_keepLine_145 rfl rfl
          · refine v_aload_n dX3_keepLine_116 rfl ?_
            refine v_if (fun h29 => ?_)
            refine v_get (v := pA (M.1 a0 5)) 3 5 rfl inX3 (by decide) tw264 dX3_keepLine_117 h29 rfl ?_
            refine v_if (fun h30 => ?_)
            refine v_get (v := pA (M.1 (M.1 a0 5) 3)) 4 3 rfl inX4 (by decide) tw193 dX3_keepLine_120 h30 rfl ?_
            refine v_aload_n dX3_keepLine_123 rfl ?_
            refine v_get (v := pA (M.1 a0 12)) 3 12 rfl inX3 (by decide) tw272 dX3_keepLine_124 h29 rfl ?_
            refine v_iconst dX3_keepLine_127 (by decide) ?_
            refine v_if (fun h31 => ?_)
            refine v_iaload h31 dX3_keepLine_128 ?_
            refine v_aload_n dX3_keepLine_129 rfl ?_
            refine v_get (v := pA (M.1 a0 12)) 3 12 rfl inX3 (by decide) tw272 dX3_keepLine_130 h29 rfl ?_
            refine v_iconst dX3_keepLine_133 (by decide) ?_
            refine v_if (fun h32 => ?_)
            refine v_iaload h32 dX3_keepLine_134 ?_
            refine v_cS (mi := mX3_keepLine) (c0 := 0) (c1 := 0) (As := [pI (M.1 (M.1 a0 12) 0), pI (M.1 (M.1 a0 12) 1)]) (st := [pA (M.1 (M.1 a0 5) 3)]) (kX10_cell d (by omega) _ _ _) okX10_cell (Or.inr nw8) tw621 rfl (Nat.le_of_ble_eq_true rfl) dX3_keepLine_135 (fun r33 => [pI r33, pA (M.1 (M.1 a0 5) 3)]) (fun r33 => M) (fun _ => rfl) (fun _ => rfl) (fun r33 h34 => ?_) rfl
            refine v_aload_n dX3_keepLine_138 rfl ?_
            refine v_get (v := pA (M.1 a0 12)) 3 12 rfl inX3 (by decide) tw272 dX3_keepLine_139 h29 rfl ?_
            refine v_iconst dX3_keepLine_142 (by decide) ?_
            refine v_if (fun h35 => ?_)
            refine v_iaload h35 dX3_keepLine_143 ?_
            refine v_if (fun h36 => ?_)
            refine v_iastore h36 dX3_keepLine_144 ?_
            refine v_bM (fun M37 e38 => ?_)
            exact v_return dX3_keepLine_145 rfl rfl
theorem chX3_readLine_0 : (cX3_readLine.data.toList.drop 0).take 16 = [42, 180, 0, 56, 4, 160, 0, 11, 42, 27, 182, 0, 112, 167, 0, 4] := by decide +kernel
theorem chX3_readLine_1 : (cX3_readLine.data.toList.drop 16).take 16 = [2, 61, 28, 2, 160, 0, 8, 42, 182, 0, 116, 177, 42, 28, 182, 0] := by decide +kernel
theorem chX3_readLine_2 : (cX3_readLine.data.toList.drop 32).take 16 = [119, 153, 0, 12, 42, 6, 42, 180, 0, 59, 182, 0, 102, 42, 182, 0] := by decide +kernel
theorem chX3_readLine_3 : (cX3_readLine.data.toList.drop 48).take 16 = [89, 3, 62, 29, 178, 0, 123, 28, 46, 162, 0, 32, 42, 180, 0, 56] := by decide +kernel
theorem chX3_readLine_4 : (cX3_readLine.data.toList.drop 64).take 16 = [5, 159, 0, 8, 42, 182, 0, 116, 177, 42, 28, 29, 182, 0, 126, 42] := by decide +kernel
theorem chX3_readLine_5 : (cX3_readLine.data.toList.drop 80).take 16 = [182, 0, 89, 132, 3, 1, 167, 255, 221, 42, 180, 0, 56, 6, 159, 0] := by decide +kernel
theorem chX3_readLine_6 : (cX3_readLine.data.toList.drop 96).take 16 = [8, 42, 182, 0, 116, 177, 42, 182, 0, 89, 42, 180, 0, 9, 154, 0] := by decide +kernel
theorem chX3_readLine_7 : (cX3_readLine.data.toList.drop 112).take 16 = [8, 42, 28, 182, 0, 129, 177] := by decide +kernel
theorem dX3_readLine_0 : decode cX3_readLine 0 = .ok (.aload_n 0, 1) := oq_42 (byt chX3_readLine_0 0 rfl)
theorem dX3_readLine_1 : decode cX3_readLine 1 = .ok (.getfield 56, 3) := oq_180 (byt chX3_readLine_0 1 rfl) (byt chX3_readLine_0 2 rfl) (byt chX3_readLine_0 3 rfl) rfl
theorem dX3_readLine_4 : decode cX3_readLine 4 = .ok (.iconst 1, 1) := oq_4 (byt chX3_readLine_0 4 rfl)
theorem dX3_readLine_5 : decode cX3_readLine 5 = .ok (.if_icmp .ne 11, 3) := oq_160 (byt chX3_readLine_0 5 rfl) (byt chX3_readLine_0 6 rfl) (byt chX3_readLine_0 7 rfl) (by decide +kernel)
theorem dX3_readLine_8 : decode cX3_readLine 8 = .ok (.aload_n 0, 1) := oq_42 (byt chX3_readLine_0 8 rfl)
theorem dX3_readLine_9 : decode cX3_readLine 9 = .ok (.iload_n 1, 1) := oq_27 (byt chX3_readLine_0 9 rfl)
theorem dX3_readLine_10 : decode cX3_readLine 10 = .ok (.invokevirtual 112, 3) := oq_182 (byt chX3_readLine_0 10 rfl) (byt chX3_readLine_0 11 rfl) (byt chX3_readLine_0 12 rfl) rfl
theorem dX3_readLine_13 : decode cX3_readLine 13 = .ok (.goto 4, 3) := oq_167 (byt chX3_readLine_0 13 rfl) (byt chX3_readLine_0 14 rfl) (byt chX3_readLine_0 15 rfl) (by decide +kernel)
theorem dX3_readLine_16 : decode cX3_readLine 16 = .ok (.iconst (-1), 1) := oq_2 (byt chX3_readLine_1 0 rfl)
theorem dX3_readLine_17 : decode cX3_readLine 17 = .ok (.istore_n 2, 1) := oq_61 (byt chX3_readLine_1 1 rfl)
theorem dX3_readLine_18 : decode cX3_readLine 18 = .ok (.iload_n 2, 1) := oq_28 (byt chX3_readLine_1 2 rfl)
theorem dX3_readLine_19 : decode cX3_readLine 19 = .ok (.iconst (-1), 1) := oq_2 (byt chX3_readLine_1 3 rfl)
theorem dX3_readLine_20 : decode cX3_readLine 20 = .ok (.if_icmp .ne 8, 3) := oq_160 (byt chX3_readLine_1 4 rfl) (byt chX3_readLine_1 5 rfl) (byt chX3_readLine_1 6 rfl) (by decide +kernel)
theorem dX3_readLine_23 : decode cX3_readLine 23 = .ok (.aload_n 0, 1) := oq_42 (byt chX3_readLine_1 7 rfl)
theorem dX3_readLine_24 : decode cX3_readLine 24 = .ok (.invokevirtual 116, 3) := oq_182 (byt chX3_readLine_1 8 rfl) (byt chX3_readLine_1 9 rfl) (byt chX3_readLine_1 10 rfl) rfl
theorem dX3_readLine_27 : decode cX3_readLine 27 = .ok (.return_, 1) := oq_177 (byt chX3_readLine_1 11 rfl)
theorem dX3_readLine_28 : decode cX3_readLine 28 = .ok (.aload_n 0, 1) := oq_42 (byt chX3_readLine_1 12 rfl)
theorem dX3_readLine_29 : decode cX3_readLine 29 = .ok (.iload_n 2, 1) := oq_28 (byt chX3_readLine_1 13 rfl)
theorem dX3_readLine_30 : decode cX3_readLine 30 = .ok (.invokevirtual 119, 3) := oq_182 (byt chX3_readLine_1 14 rfl) (byt chX3_readLine_1 15 rfl) (byt chX3_readLine_2 0 rfl) rfl
theorem dX3_readLine_33 : decode cX3_readLine 33 = .ok (.ifCond .eq 12, 3) := oq_153 (byt chX3_readLine_2 1 rfl) (byt chX3_readLine_2 2 rfl) (byt chX3_readLine_2 3 rfl) (by decide +kernel)
theorem dX3_readLine_36 : decode cX3_readLine 36 = .ok (.aload_n 0, 1) := oq_42 (byt chX3_readLine_2 4 rfl)
theorem dX3_readLine_37 : decode cX3_readLine 37 = .ok (.iconst 3, 1) := oq_6 (byt chX3_readLine_2 5 rfl)
theorem dX3_readLine_38 : decode cX3_readLine 38 = .ok (.aload_n 0, 1) := oq_42 (byt chX3_readLine_2 6 rfl)
theorem dX3_readLine_39 : decode cX3_readLine 39 = .ok (.getfield 59, 3) := oq_180 (byt chX3_readLine_2 7 rfl) (byt chX3_readLine_2 8 rfl) (byt chX3_readLine_2 9 rfl) rfl
theorem dX3_readLine_42 : decode cX3_readLine 42 = .ok (.invokevirtual 102, 3) := oq_182 (byt chX3_readLine_2 10 rfl) (byt chX3_readLine_2 11 rfl) (byt chX3_readLine_2 12 rfl) rfl
theorem dX3_readLine_45 : decode cX3_readLine 45 = .ok (.aload_n 0, 1) := oq_42 (byt chX3_readLine_2 13 rfl)
theorem dX3_readLine_46 : decode cX3_readLine 46 = .ok (.invokevirtual 89, 3) := oq_182 (byt chX3_readLine_2 14 rfl) (byt chX3_readLine_2 15 rfl) (byt chX3_readLine_3 0 rfl) rfl
theorem dX3_readLine_49 : decode cX3_readLine 49 = .ok (.iconst 0, 1) := oq_3 (byt chX3_readLine_3 1 rfl)
theorem dX3_readLine_50 : decode cX3_readLine 50 = .ok (.istore_n 3, 1) := oq_62 (byt chX3_readLine_3 2 rfl)
theorem dX3_readLine_51 : decode cX3_readLine 51 = .ok (.iload_n 3, 1) := oq_29 (byt chX3_readLine_3 3 rfl)
theorem dX3_readLine_52 : decode cX3_readLine 52 = .ok (.getstatic 123, 3) := oq_178 (byt chX3_readLine_3 4 rfl) (byt chX3_readLine_3 5 rfl) (byt chX3_readLine_3 6 rfl) rfl
theorem dX3_readLine_55 : decode cX3_readLine 55 = .ok (.iload_n 2, 1) := oq_28 (byt chX3_readLine_3 7 rfl)
theorem dX3_readLine_56 : decode cX3_readLine 56 = .ok (.iaload, 1) := oq_46 (byt chX3_readLine_3 8 rfl)
theorem dX3_readLine_57 : decode cX3_readLine 57 = .ok (.if_icmp .ge 32, 3) := oq_162 (byt chX3_readLine_3 9 rfl) (byt chX3_readLine_3 10 rfl) (byt chX3_readLine_3 11 rfl) (by decide +kernel)
theorem dX3_readLine_60 : decode cX3_readLine 60 = .ok (.aload_n 0, 1) := oq_42 (byt chX3_readLine_3 12 rfl)
theorem dX3_readLine_61 : decode cX3_readLine 61 = .ok (.getfield 56, 3) := oq_180 (byt chX3_readLine_3 13 rfl) (byt chX3_readLine_3 14 rfl) (byt chX3_readLine_3 15 rfl) rfl
theorem dX3_readLine_64 : decode cX3_readLine 64 = .ok (.iconst 2, 1) := oq_5 (byt chX3_readLine_4 0 rfl)
theorem dX3_readLine_65 : decode cX3_readLine 65 = .ok (.if_icmp .eq 8, 3) := oq_159 (byt chX3_readLine_4 1 rfl) (byt chX3_readLine_4 2 rfl) (byt chX3_readLine_4 3 rfl) (by decide +kernel)
theorem dX3_readLine_68 : decode cX3_readLine 68 = .ok (.aload_n 0, 1) := oq_42 (byt chX3_readLine_4 4 rfl)
theorem dX3_readLine_69 : decode cX3_readLine 69 = .ok (.invokevirtual 116, 3) := oq_182 (byt chX3_readLine_4 5 rfl) (byt chX3_readLine_4 6 rfl) (byt chX3_readLine_4 7 rfl) rfl
theorem dX3_readLine_72 : decode cX3_readLine 72 = .ok (.return_, 1) := oq_177 (byt chX3_readLine_4 8 rfl)
theorem dX3_readLine_73 : decode cX3_readLine 73 = .ok (.aload_n 0, 1) := oq_42 (byt chX3_readLine_4 9 rfl)
theorem dX3_readLine_74 : decode cX3_readLine 74 = .ok (.iload_n 2, 1) := oq_28 (byt chX3_readLine_4 10 rfl)
theorem dX3_readLine_75 : decode cX3_readLine 75 = .ok (.iload_n 3, 1) := oq_29 (byt chX3_readLine_4 11 rfl)
theorem dX3_readLine_76 : decode cX3_readLine 76 = .ok (.invokevirtual 126, 3) := oq_182 (byt chX3_readLine_4 12 rfl) (byt chX3_readLine_4 13 rfl) (byt chX3_readLine_4 14 rfl) rfl
theorem dX3_readLine_79 : decode cX3_readLine 79 = .ok (.aload_n 0, 1) := oq_42 (byt chX3_readLine_4 15 rfl)
theorem dX3_readLine_80 : decode cX3_readLine 80 = .ok (.invokevirtual 89, 3) := oq_182 (byt chX3_readLine_5 0 rfl) (byt chX3_readLine_5 1 rfl) (byt chX3_readLine_5 2 rfl) rfl
theorem dX3_readLine_83 : decode cX3_readLine 83 = .ok (.iinc 3 1, 3) := oq_132 (byt chX3_readLine_5 3 rfl) (byt chX3_readLine_5 4 rfl) (byt chX3_readLine_5 5 rfl) rfl
theorem dX3_readLine_86 : decode cX3_readLine 86 = .ok (.goto (-35), 3) := oq_167 (byt chX3_readLine_5 6 rfl) (byt chX3_readLine_5 7 rfl) (byt chX3_readLine_5 8 rfl) (by decide +kernel)
theorem dX3_readLine_89 : decode cX3_readLine 89 = .ok (.aload_n 0, 1) := oq_42 (byt chX3_readLine_5 9 rfl)
theorem dX3_readLine_90 : decode cX3_readLine 90 = .ok (.getfield 56, 3) := oq_180 (byt chX3_readLine_5 10 rfl) (byt chX3_readLine_5 11 rfl) (byt chX3_readLine_5 12 rfl) rfl
theorem dX3_readLine_93 : decode cX3_readLine 93 = .ok (.iconst 3, 1) := oq_6 (byt chX3_readLine_5 13 rfl)
theorem dX3_readLine_94 : decode cX3_readLine 94 = .ok (.if_icmp .eq 8, 3) := oq_159 (byt chX3_readLine_5 14 rfl) (byt chX3_readLine_5 15 rfl) (byt chX3_readLine_6 0 rfl) (by decide +kernel)
theorem dX3_readLine_97 : decode cX3_readLine 97 = .ok (.aload_n 0, 1) := oq_42 (byt chX3_readLine_6 1 rfl)
theorem dX3_readLine_98 : decode cX3_readLine 98 = .ok (.invokevirtual 116, 3) := oq_182 (byt chX3_readLine_6 2 rfl) (byt chX3_readLine_6 3 rfl) (byt chX3_readLine_6 4 rfl) rfl
theorem dX3_readLine_101 : decode cX3_readLine 101 = .ok (.return_, 1) := oq_177 (byt chX3_readLine_6 5 rfl)
theorem dX3_readLine_102 : decode cX3_readLine 102 = .ok (.aload_n 0, 1) := oq_42 (byt chX3_readLine_6 6 rfl)
theorem dX3_readLine_103 : decode cX3_readLine 103 = .ok (.invokevirtual 89, 3) := oq_182 (byt chX3_readLine_6 7 rfl) (byt chX3_readLine_6 8 rfl) (byt chX3_readLine_6 9 rfl) rfl
theorem dX3_readLine_106 : decode cX3_readLine 106 = .ok (.aload_n 0, 1) := oq_42 (byt chX3_readLine_6 10 rfl)
theorem dX3_readLine_107 : decode cX3_readLine 107 = .ok (.getfield 9, 3) := oq_180 (byt chX3_readLine_6 11 rfl) (byt chX3_readLine_6 12 rfl) (byt chX3_readLine_6 13 rfl) rfl
theorem dX3_readLine_110 : decode cX3_readLine 110 = .ok (.ifCond .ne 8, 3) := oq_154 (byt chX3_readLine_6 14 rfl) (byt chX3_readLine_6 15 rfl) (byt chX3_readLine_7 0 rfl) (by decide +kernel)
theorem dX3_readLine_113 : decode cX3_readLine 113 = .ok (.aload_n 0, 1) := oq_42 (byt chX3_readLine_7 1 rfl)
theorem dX3_readLine_114 : decode cX3_readLine 114 = .ok (.iload_n 2, 1) := oq_28 (byt chX3_readLine_7 2 rfl)
theorem dX3_readLine_115 : decode cX3_readLine 115 = .ok (.invokevirtual 129, 3) := oq_182 (byt chX3_readLine_7 3 rfl) (byt chX3_readLine_7 4 rfl) (byt chX3_readLine_7 5 rfl) rfl
theorem dX3_readLine_118 : decode cX3_readLine 118 = .ok (.return_, 1) := oq_177 (byt chX3_readLine_7 6 rfl)
abbrev mX3_readLine : MI := (yX3_readLine, cX3_readLine, 4, none, noE)
theorem okX3_readLine : cok mX3_readLine 1 := ⟨tw509, tw7, by decide, by decide, by decide, by decide +kernel⟩
def fX3_readLine (M : Mem) (a0 a1 : Int) : Option Mem :=
  if M.2.1 a0 = 3 then jn (fun (t3 : Int) => if t3 = (-1) then ((fX3_breakOff M a0).bind fun r5 => some r5) else ((fX3_isFull M a0 t3).bind fun r7 => jn (fun (t10 : Mem) => if t10.2.1 a0 = 3 then (fX3_step t10 a0).bind fun r11 => iterC (fun (rec14 : (Int × Mem) → Option Mem) (s15 : Int × Mem) => if (0 : Int) ≤ t3 ∧ t3 < 18 then if s15.1 < (sTab 1).getD t3.toNat 0 then (if s15.2.2.1 a0 = 3 then if s15.2.1 a0 9 = 2 then ((fX3_readNumber s15.2 a0 t3 s15.1).bind fun r20 => if r20.2.1 a0 = 3 then (fX3_step r20 a0).bind fun r22 => rec14 (w32 (s15.1 + 1), r22) else none) else ((fX3_breakOff s15.2 a0).bind fun r25 => some r25) else none) else (if s15.2.2.1 a0 = 3 then if s15.2.1 a0 9 = 3 then ((fX3_step s15.2 a0).bind fun r29 => if r29.2.1 a0 = 3 then if r29.1 a0 0 = 0 then ((fX3_keepLine r29 a0 t3).bind fun r33 => some r33) else (some r29) else none) else ((fX3_breakOff s15.2 a0).bind fun r35 => some r35) else none) else none) BIG (0, r11) else none) (fun (j9 : Mem → Option Mem) => if r7 = 0 then (j9 M) else ((fX3_note M a0 3 (M.1 a0 10)).bind fun r38 => j9 r38)))) (fun (j2 : Int → Option Mem) => if M.1 a0 9 = 1 then ((fX3_lineOf M a0 a1).bind fun r41 => j2 r41) else (j2 (-1))) else none
set_option maxRecDepth 100000 in
set_option maxHeartbeats 4000000 in
theorem kX3_readLine (d : Nat) (hd : 8 ≤ d) (M : Mem) (a0 a1 : Int) : Ct mX3_readLine d 0 0 [pA a0, pI a1] M dV (fX3_readLine M a0 a1) := by
  obtain ⟨d, rfl⟩ : ∃ k, d = k + 1 := ⟨d - 1, by omega⟩
  refine Ct.of 2 (fun _ _ _ => trivial) (by decide +kernel) rfl ?_
  unfold fX3_readLine
  refine v_aload_n dX3_readLine_0 rfl ?_
  refine v_if (fun h1 => ?_)
  refine v_get (v := pI (M.1 a0 9)) 3 9 rfl inX3 (by decide) tw269 dX3_readLine_1 h1 rfl ?_
  refine v_iconst dX3_readLine_4 (by decide) ?_
  refine v_join (fun (t3 : Int) => [some (pA a0), none, none, none]) (fun (t3 : Int) => [pI t3]) (fun (t3 : Int) => M) 17 (fun t3 => ?_) (fun j2 hj2 => ?_)
  · refine v_istore_n (ls' := [some (pA a0), none, some (pI t3), none]) dX3_readLine_17 (by decide) rfl ?_
    refine v_iload_n dX3_readLine_18 rfl ?_
    refine v_iconst dX3_readLine_19 (by decide) ?_
    refine v_icmp_ne (tgt := 28) dX3_readLine_20 (by decide) (fun c4 => ?_) (fun c4 => ?_)
    · refine v_aload_n dX3_readLine_23 rfl ?_
      refine v_cV (mi := mX3_readLine) (c0 := 0) (c1 := 0) (As := []) (st := []) (kX3_breakOff d (by omega) _ _) rfl h1 rfl okX3_breakOff (Or.inl tw590) tw592 tp7 rfl (Nat.le_of_ble_eq_true rfl) dX3_readLine_24 (fun r5 => []) (fun r5 => r5) (fun _ => rfl) (fun _ => rfl) (fun r5 h6 => ?_) rfl
      exact v_return dX3_readLine_27 rfl rfl
    · refine v_aload_n dX3_readLine_28 rfl ?_
      refine v_iload_n dX3_readLine_29 rfl ?_
      refine v_cV (mi := mX3_readLine) (c0 := 0) (c1 := 0) (As := [pI t3]) (st := []) (kX3_isFull d (by omega) _ _ _) rfl h1 rfl okX3_isFull (Or.inl tw594) tw596 tp8 rfl (Nat.le_of_ble_eq_true rfl) dX3_readLine_30 (fun r7 => [pI r7]) (fun r7 => M) (fun _ => rfl) (fun _ => rfl) (fun r7 h8 => ?_) rfl
      refine v_join (fun (t10 : Mem) => [some (pA a0), none, some (pI t3), none]) (fun (t10 : Mem) => []) (fun (t10 : Mem) => t10) 45 (fun t10 => ?_) (fun j9 hj9 => ?_)
      · refine v_aload_n dX3_readLine_45 rfl ?_
        refine v_if (fun h13 => ?_)
        refine v_cV (mi := mX3_readLine) (c0 := 0) (c1 := 0) (As := []) (st := []) (kX3_step d (by omega) _ _) rfl h13 rfl okX3_step (Or.inl tw485) tw487 tp1 rfl (Nat.le_of_ble_eq_true rfl) dX3_readLine_46 (fun r11 => []) (fun r11 => r11) (fun _ => rfl) (fun _ => rfl) (fun r11 h12 => ?_) rfl
        refine v_iconst dX3_readLine_49 (by decide) ?_
        refine v_istore_n (ls' := [some (pA a0), none, some (pI t3), some (pI 0)]) dX3_readLine_50 (by decide) rfl ?_
        refine v_loop (fun (s15 : Int × Mem) => [some (pA a0), none, some (pI t3), some (pI s15.1)]) (fun (s15 : Int × Mem) => s15.2) (s0 := (0, r11)) ?_
        intro rec14 hrec14 s15
        refine v_iload_n dX3_readLine_51 rfl ?_
        refine v_gets (mi := mX3_readLine) 1 (by decide) tw602 dX3_readLine_52 rfl ?_
        refine v_iload_n dX3_readLine_55 rfl ?_
        refine v_if (fun h16 => ?_)
        refine v_ciald (mi := mX3_readLine) 1 (by decide) rfl rfl h16 dX3_readLine_56 ?_
        refine v_icmp_ge (tgt := 89) dX3_readLine_57 (by decide) (fun c17 => ?_) (fun c17 => ?_)
        · refine v_aload_n dX3_readLine_60 rfl ?_
          refine v_if (fun h18 => ?_)
          refine v_get (v := pI (s15.2.1 a0 9)) 3 9 rfl inX3 (by decide) tw269 dX3_readLine_61 h18 rfl ?_
          refine v_iconst dX3_readLine_64 (by decide) ?_
          refine v_icmp_eq (tgt := 73) dX3_readLine_65 (by decide) (fun c19 => ?_) (fun c19 => ?_)
          · refine v_aload_n dX3_readLine_73 rfl ?_
            refine v_iload_n dX3_readLine_74 rfl ?_
            refine v_iload_n dX3_readLine_75 rfl ?_
            refine v_cV (mi := mX3_readLine) (c0 := 0) (c1 := 0) (As := [pI t3, pI s15.1]) (st := []) (kX3_readNumber d (by omega) _ _ _ _) rfl h18 rfl okX3_readNumber (Or.inl tw604) tw606 tp10 rfl (Nat.le_of_ble_eq_true rfl) dX3_readLine_76 (fun r20 => []) (fun r20 => r20) (fun _ => rfl) (fun _ => rfl) (fun r20 h21 => ?_) rfl
            refine v_aload_n dX3_readLine_79 rfl ?_
            refine v_if (fun h24 => ?_)
            refine v_cV (mi := mX3_readLine) (c0 := 0) (c1 := 0) (As := []) (st := []) (kX3_step d (by omega) _ _) rfl h24 rfl okX3_step (Or.inl tw485) tw487 tp1 rfl (Nat.le_of_ble_eq_true rfl) dX3_readLine_80 (fun r22 => []) (fun r22 => r22) (fun _ => rfl) (fun _ => rfl) (fun r22 h23 => ?_) rfl
            refine v_iinc (ls' := [some (pA a0), none, some (pI t3), some (pI (w32 (s15.1 + 1)))]) dX3_readLine_83 (by decide) rfl rfl ?_
            refine v_goto (tgt := 51) dX3_readLine_86 (by decide) ?_
            exact hrec14 (w32 (s15.1 + 1), r22)
          · refine v_aload_n dX3_readLine_68 rfl ?_
            refine v_cV (mi := mX3_readLine) (c0 := 0) (c1 := 0) (As := []) (st := []) (kX3_breakOff d (by omega) _ _) rfl h18 rfl okX3_breakOff (Or.inl tw590) tw592 tp7 rfl (Nat.le_of_ble_eq_true rfl) dX3_readLine_69 (fun r25 => []) (fun r25 => r25) (fun _ => rfl) (fun _ => rfl) (fun r25 h26 => ?_) rfl
            exact v_return dX3_readLine_72 rfl rfl
        · refine v_aload_n dX3_readLine_89 rfl ?_
          refine v_if (fun h27 => ?_)
          refine v_get (v := pI (s15.2.1 a0 9)) 3 9 rfl inX3 (by decide) tw269 dX3_readLine_90 h27 rfl ?_
          refine v_iconst dX3_readLine_93 (by decide) ?_
          refine v_icmp_eq (tgt := 102) dX3_readLine_94 (by decide) (fun c28 => ?_) (fun c28 => ?_)
          · refine v_aload_n dX3_readLine_102 rfl ?_
            refine v_cV (mi := mX3_readLine) (c0 := 0) (c1 := 0) (As := []) (st := []) (kX3_step d (by omega) _ _) rfl h27 rfl okX3_step (Or.inl tw485) tw487 tp1 rfl (Nat.le_of_ble_eq_true rfl) dX3_readLine_103 (fun r29 => []) (fun r29 => r29) (fun _ => rfl) (fun _ => rfl) (fun r29 h30 => ?_) rfl
            refine v_aload_n dX3_readLine_106 rfl ?_
            refine v_if (fun h31 => ?_)
            refine v_get (v := pI (r29.1 a0 0)) 3 0 rfl inX3 (by decide) tw254 dX3_readLine_107 h31 rfl ?_
            refine v_if_ne (tgt := 118) dX3_readLine_110 (by decide) (fun c32 => ?_) (fun c32 => ?_)
            · refine v_aload_n dX3_readLine_113 rfl ?_
              refine v_iload_n dX3_readLine_114 rfl ?_
              refine v_cV (mi := mX3_readLine) (c0 := 0) (c1 := 0) (As := [pI t3]) (st := []) (kX3_keepLine d (by omega) _ _ _) rfl h31 rfl okX3_keepLine (Or.inl tw612) tw614 tp11 rfl (Nat.le_of_ble_eq_true rfl) dX3_readLine_115 (fun r33 => []) (fun r33 => r33) (fun _ => rfl) (fun _ => rfl) (fun r33 h34 => ?_) rfl
              exact v_return dX3_readLine_118 rfl rfl
            · exact v_return dX3_readLine_118 rfl rfl
          · refine v_aload_n dX3_readLine_97 rfl ?_
            refine v_cV (mi := mX3_readLine) (c0 := 0) (c1 := 0) (As := []) (st := []) (kX3_breakOff d (by omega) _ _) rfl h27 rfl okX3_breakOff (Or.inl tw590) tw592 tp7 rfl (Nat.le_of_ble_eq_true rfl) dX3_readLine_98 (fun r35 => []) (fun r35 => r35) (fun _ => rfl) (fun _ => rfl) (fun r35 h36 => ?_) rfl
            exact v_return dX3_readLine_101 rfl rfl
      · refine v_if_eq (tgt := 45) dX3_readLine_33 (by decide) (fun c37 => ?_) (fun c37 => ?_)
        · exact hj9 M
        · refine v_aload_n dX3_readLine_36 rfl ?_
          refine v_iconst dX3_readLine_37 (by decide) ?_
          refine v_aload_n dX3_readLine_38 rfl ?_
          refine v_get (v := pI (M.1 a0 10)) 3 10 rfl inX3 (by decide) tw270 dX3_readLine_39 h1 rfl ?_
          refine v_cV (mi := mX3_readLine) (c0 := 0) (c1 := 0) (As := [pI 3, pI (M.1 a0 10)]) (st := []) (kX3_note d (by omega) _ _ _ _) rfl h1 rfl okX3_note (Or.inl tw598) tw600 tp9 rfl (Nat.le_of_ble_eq_true rfl) dX3_readLine_42 (fun r38 => []) (fun r38 => r38) (fun _ => rfl) (fun _ => rfl) (fun r38 h39 => ?_) rfl
          exact hj9 r38
  · refine v_icmp_ne (tgt := 16) dX3_readLine_5 (by decide) (fun c40 => ?_) (fun c40 => ?_)
    · refine v_aload_n dX3_readLine_8 rfl ?_
      refine v_iload_n dX3_readLine_9 rfl ?_
      refine v_cV (mi := mX3_readLine) (c0 := 0) (c1 := 0) (As := [pI a1]) (st := []) (kX3_lineOf d (by omega) _ _ _) rfl h1 rfl okX3_lineOf (Or.inl tw510) tw512 tp5 rfl (Nat.le_of_ble_eq_true rfl) dX3_readLine_10 (fun r41 => [pI r41]) (fun r41 => M) (fun _ => rfl) (fun _ => rfl) (fun r41 h42 => ?_) rfl
      refine v_goto (tgt := 17) dX3_readLine_13 (by decide) ?_
      exact v_drop [some (pA a0), none, none, none] (ls_s (ls_n (ls_n (ls_n ls_e)))) (hj2 r41)
    · refine v_iconst dX3_readLine_16 (by decide) ?_
      exact v_drop [some (pA a0), none, none, none] (ls_s (ls_n (ls_n (ls_n ls_e)))) (hj2 (-1))
theorem chX3_read_0 : (cX3_read.data.toList.drop 0).take 16 = [42, 43, 28, 43, 190, 184, 0, 79, 182, 0, 85, 42, 182, 0, 89, 3] := by decide +kernel
theorem chX3_read_1 : (cX3_read.data.toList.drop 16).take 16 = [54, 4, 21, 4, 42, 180, 0, 50, 163, 0, 28, 42, 180, 0, 56, 153] := by decide +kernel
theorem chX3_read_2 : (cX3_read.data.toList.drop 32).take 16 = [0, 21, 42, 180, 0, 69, 154, 0, 14, 42, 29, 182, 0, 92, 132, 4] := by decide +kernel
theorem chX3_read_3 : (cX3_read.data.toList.drop 48).take 16 = [1, 167, 255, 225, 42, 180, 0, 9, 154, 0, 40, 42, 180, 0, 73, 42] := by decide +kernel
theorem chX3_read_4 : (cX3_read.data.toList.drop 64).take 16 = [180, 0, 21, 180, 0, 96, 162, 0, 17, 42, 180, 0, 76, 42, 180, 0] := by decide +kernel
theorem chX3_read_5 : (cX3_read.data.toList.drop 80).take 16 = [21, 180, 0, 99, 161, 0, 12, 42, 7, 42, 180, 0, 50, 182, 0, 102] := by decide +kernel
theorem chX3_read_6 : (cX3_read.data.toList.drop 96).take 16 = [42, 1, 181, 0, 46, 177] := by decide +kernel
theorem dX3_read_0 : decode cX3_read 0 = .ok (.aload_n 0, 1) := oq_42 (byt chX3_read_0 0 rfl)
theorem dX3_read_1 : decode cX3_read 1 = .ok (.aload_n 1, 1) := oq_43 (byt chX3_read_0 1 rfl)
theorem dX3_read_2 : decode cX3_read 2 = .ok (.iload_n 2, 1) := oq_28 (byt chX3_read_0 2 rfl)
theorem dX3_read_3 : decode cX3_read 3 = .ok (.aload_n 1, 1) := oq_43 (byt chX3_read_0 3 rfl)
theorem dX3_read_4 : decode cX3_read 4 = .ok (.arraylength, 1) := oq_190 (byt chX3_read_0 4 rfl)
theorem dX3_read_5 : decode cX3_read 5 = .ok (.invokestatic 79, 3) := oq_184 (byt chX3_read_0 5 rfl) (byt chX3_read_0 6 rfl) (byt chX3_read_0 7 rfl) rfl
theorem dX3_read_8 : decode cX3_read 8 = .ok (.invokevirtual 85, 3) := oq_182 (byt chX3_read_0 8 rfl) (byt chX3_read_0 9 rfl) (byt chX3_read_0 10 rfl) rfl
theorem dX3_read_11 : decode cX3_read 11 = .ok (.aload_n 0, 1) := oq_42 (byt chX3_read_0 11 rfl)
theorem dX3_read_12 : decode cX3_read 12 = .ok (.invokevirtual 89, 3) := oq_182 (byt chX3_read_0 12 rfl) (byt chX3_read_0 13 rfl) (byt chX3_read_0 14 rfl) rfl
theorem dX3_read_15 : decode cX3_read 15 = .ok (.iconst 0, 1) := oq_3 (byt chX3_read_0 15 rfl)
theorem dX3_read_16 : decode cX3_read 16 = .ok (.istore 4, 2) := oq_54 (byt chX3_read_1 0 rfl) (byt chX3_read_1 1 rfl) rfl
theorem dX3_read_18 : decode cX3_read 18 = .ok (.iload 4, 2) := oq_21 (byt chX3_read_1 2 rfl) (byt chX3_read_1 3 rfl) rfl
theorem dX3_read_20 : decode cX3_read 20 = .ok (.aload_n 0, 1) := oq_42 (byt chX3_read_1 4 rfl)
theorem dX3_read_21 : decode cX3_read 21 = .ok (.getfield 50, 3) := oq_180 (byt chX3_read_1 5 rfl) (byt chX3_read_1 6 rfl) (byt chX3_read_1 7 rfl) rfl
theorem dX3_read_24 : decode cX3_read 24 = .ok (.if_icmp .gt 28, 3) := oq_163 (byt chX3_read_1 8 rfl) (byt chX3_read_1 9 rfl) (byt chX3_read_1 10 rfl) (by decide +kernel)
theorem dX3_read_27 : decode cX3_read 27 = .ok (.aload_n 0, 1) := oq_42 (byt chX3_read_1 11 rfl)
theorem dX3_read_28 : decode cX3_read 28 = .ok (.getfield 56, 3) := oq_180 (byt chX3_read_1 12 rfl) (byt chX3_read_1 13 rfl) (byt chX3_read_1 14 rfl) rfl
theorem dX3_read_31 : decode cX3_read 31 = .ok (.ifCond .eq 21, 3) := oq_153 (byt chX3_read_1 15 rfl) (byt chX3_read_2 0 rfl) (byt chX3_read_2 1 rfl) (by decide +kernel)
theorem dX3_read_34 : decode cX3_read 34 = .ok (.aload_n 0, 1) := oq_42 (byt chX3_read_2 2 rfl)
theorem dX3_read_35 : decode cX3_read 35 = .ok (.getfield 69, 3) := oq_180 (byt chX3_read_2 3 rfl) (byt chX3_read_2 4 rfl) (byt chX3_read_2 5 rfl) rfl
theorem dX3_read_38 : decode cX3_read 38 = .ok (.ifCond .ne 14, 3) := oq_154 (byt chX3_read_2 6 rfl) (byt chX3_read_2 7 rfl) (byt chX3_read_2 8 rfl) (by decide +kernel)
theorem dX3_read_41 : decode cX3_read 41 = .ok (.aload_n 0, 1) := oq_42 (byt chX3_read_2 9 rfl)
theorem dX3_read_42 : decode cX3_read 42 = .ok (.iload_n 3, 1) := oq_29 (byt chX3_read_2 10 rfl)
theorem dX3_read_43 : decode cX3_read 43 = .ok (.invokevirtual 92, 3) := oq_182 (byt chX3_read_2 11 rfl) (byt chX3_read_2 12 rfl) (byt chX3_read_2 13 rfl) rfl
theorem dX3_read_46 : decode cX3_read 46 = .ok (.iinc 4 1, 3) := oq_132 (byt chX3_read_2 14 rfl) (byt chX3_read_2 15 rfl) (byt chX3_read_3 0 rfl) rfl
theorem dX3_read_49 : decode cX3_read 49 = .ok (.goto (-31), 3) := oq_167 (byt chX3_read_3 1 rfl) (byt chX3_read_3 2 rfl) (byt chX3_read_3 3 rfl) (by decide +kernel)
theorem dX3_read_52 : decode cX3_read 52 = .ok (.aload_n 0, 1) := oq_42 (byt chX3_read_3 4 rfl)
theorem dX3_read_53 : decode cX3_read 53 = .ok (.getfield 9, 3) := oq_180 (byt chX3_read_3 5 rfl) (byt chX3_read_3 6 rfl) (byt chX3_read_3 7 rfl) rfl
theorem dX3_read_56 : decode cX3_read 56 = .ok (.ifCond .ne 40, 3) := oq_154 (byt chX3_read_3 8 rfl) (byt chX3_read_3 9 rfl) (byt chX3_read_3 10 rfl) (by decide +kernel)
theorem dX3_read_59 : decode cX3_read 59 = .ok (.aload_n 0, 1) := oq_42 (byt chX3_read_3 11 rfl)
theorem dX3_read_60 : decode cX3_read 60 = .ok (.getfield 73, 3) := oq_180 (byt chX3_read_3 12 rfl) (byt chX3_read_3 13 rfl) (byt chX3_read_3 14 rfl) rfl
theorem dX3_read_63 : decode cX3_read 63 = .ok (.aload_n 0, 1) := oq_42 (byt chX3_read_3 15 rfl)
theorem dX3_read_64 : decode cX3_read 64 = .ok (.getfield 21, 3) := oq_180 (byt chX3_read_4 0 rfl) (byt chX3_read_4 1 rfl) (byt chX3_read_4 2 rfl) rfl
theorem dX3_read_67 : decode cX3_read 67 = .ok (.getfield 96, 3) := oq_180 (byt chX3_read_4 3 rfl) (byt chX3_read_4 4 rfl) (byt chX3_read_4 5 rfl) rfl
theorem dX3_read_70 : decode cX3_read 70 = .ok (.if_icmp .ge 17, 3) := oq_162 (byt chX3_read_4 6 rfl) (byt chX3_read_4 7 rfl) (byt chX3_read_4 8 rfl) (by decide +kernel)
theorem dX3_read_73 : decode cX3_read 73 = .ok (.aload_n 0, 1) := oq_42 (byt chX3_read_4 9 rfl)
theorem dX3_read_74 : decode cX3_read 74 = .ok (.getfield 76, 3) := oq_180 (byt chX3_read_4 10 rfl) (byt chX3_read_4 11 rfl) (byt chX3_read_4 12 rfl) rfl
theorem dX3_read_77 : decode cX3_read 77 = .ok (.aload_n 0, 1) := oq_42 (byt chX3_read_4 13 rfl)
theorem dX3_read_78 : decode cX3_read 78 = .ok (.getfield 21, 3) := oq_180 (byt chX3_read_4 14 rfl) (byt chX3_read_4 15 rfl) (byt chX3_read_5 0 rfl) rfl
theorem dX3_read_81 : decode cX3_read 81 = .ok (.getfield 99, 3) := oq_180 (byt chX3_read_5 1 rfl) (byt chX3_read_5 2 rfl) (byt chX3_read_5 3 rfl) rfl
theorem dX3_read_84 : decode cX3_read 84 = .ok (.if_icmp .lt 12, 3) := oq_161 (byt chX3_read_5 4 rfl) (byt chX3_read_5 5 rfl) (byt chX3_read_5 6 rfl) (by decide +kernel)
theorem dX3_read_87 : decode cX3_read 87 = .ok (.aload_n 0, 1) := oq_42 (byt chX3_read_5 7 rfl)
theorem dX3_read_88 : decode cX3_read 88 = .ok (.iconst 4, 1) := oq_7 (byt chX3_read_5 8 rfl)
theorem dX3_read_89 : decode cX3_read 89 = .ok (.aload_n 0, 1) := oq_42 (byt chX3_read_5 9 rfl)
theorem dX3_read_90 : decode cX3_read 90 = .ok (.getfield 50, 3) := oq_180 (byt chX3_read_5 10 rfl) (byt chX3_read_5 11 rfl) (byt chX3_read_5 12 rfl) rfl
theorem dX3_read_93 : decode cX3_read 93 = .ok (.invokevirtual 102, 3) := oq_182 (byt chX3_read_5 13 rfl) (byt chX3_read_5 14 rfl) (byt chX3_read_5 15 rfl) rfl
theorem dX3_read_96 : decode cX3_read 96 = .ok (.aload_n 0, 1) := oq_42 (byt chX3_read_6 0 rfl)
theorem dX3_read_97 : decode cX3_read 97 = .ok (.aconst_null, 1) := oq_1 (byt chX3_read_6 1 rfl)
theorem dX3_read_98 : decode cX3_read 98 = .ok (.putfield 46, 3) := oq_181 (byt chX3_read_6 2 rfl) (byt chX3_read_6 3 rfl) (byt chX3_read_6 4 rfl) rfl
theorem dX3_read_101 : decode cX3_read 101 = .ok (.return_, 1) := oq_177 (byt chX3_read_6 5 rfl)
abbrev mX3_read : MI := (yX3_read, cX3_read, 5, none, noE)
theorem okX3_read : cok mX3_read 3 := ⟨tw467, tw7, by decide, by decide, by decide, by decide +kernel⟩
def fX3_read (M : Mem) (a0 a1 a2 a3 : Int) : Option Mem :=
  if 11 ≤ M.2.1 a1 then if M.2.1 a0 = 3 then (fX3_begin M a0 a1 (imin a2 (M.2.2.1 a1))).bind fun r2 => if r2.2.1 a0 = 3 then (fX3_step r2 a0).bind fun r5 => iterC (fun (rec8 : (Int × Mem) → Option Mem) (s9 : Int × Mem) => if s9.2.2.1 a0 = 3 then jn (fun (t12 : Unit) => jn (fun (t14 : Mem) => if t14.2.1 a0 = 3 then if (-1 : Int) ≤ (-1) then bM (mst t14 a0 6 (-1)) fun M17 => some M17 else none else none) (fun (j13 : Mem → Option Mem) => if s9.2.1 a0 0 = 0 then (if s9.2.2.1 (s9.2.1 a0 2) = 7 then jn (fun (t22 : Unit) => (fX3_note s9.2 a0 4 (s9.2.1 a0 7)).bind fun r23 => j13 r23) (fun (j21 : Unit → Option Mem) => if s9.2.1 a0 14 < s9.2.1 (s9.2.1 a0 2) 0 then (if s9.2.1 a0 15 < s9.2.1 (s9.2.1 a0 2) 1 then (j13 s9.2) else (j21 ())) else (j21 ())) else none) else (j13 s9.2))) (fun (j11 : Unit → Option Mem) => if s9.2.1 a0 7 < s9.1 then (j11 ()) else (if s9.2.1 a0 9 = 0 then (j11 ()) else (if s9.2.1 a0 13 = 0 then ((fX3_readLine s9.2 a0 a3).bind fun r30 => rec8 (w32 (s9.1 + 1), r30)) else (j11 ())))) else none) BIG (0, r5) else none else none else none
set_option maxRecDepth 100000 in
set_option maxHeartbeats 4000000 in
theorem kX3_read (d : Nat) (hd : 9 ≤ d) (M : Mem) (a0 a1 a2 a3 : Int) : Ct mX3_read d 0 0 [pA a0, pA a1, pI a2, pI a3] M dV (fX3_read M a0 a1 a2 a3) := by
  obtain ⟨d, rfl⟩ : ∃ k, d = k + 1 := ⟨d - 1, by omega⟩
  refine Ct.of 1 (fun _ _ _ => trivial) (by decide +kernel) rfl ?_
  unfold fX3_read
  refine v_aload_n dX3_read_0 rfl ?_
  refine v_aload_n dX3_read_1 rfl ?_
  refine v_iload_n dX3_read_2 rfl ?_
  refine v_aload_n dX3_read_3 rfl ?_
  refine v_if (fun h1 => ?_)
  refine v_alen h1 dX3_read_4 ?_
  refine v_mmin (mi := mX3_read) tw468 tw469 tw12 tw470 (Nat.le_of_ble_eq_true rfl) dX3_read_5 ?_
  refine v_if (fun h4 => ?_)
  refine v_cV (mi := mX3_read) (c0 := 0) (c1 := 0) (As := [pA a1, pI (imin a2 (M.2.2.1 a1))]) (st := []) (kX3_begin d (by omega) _ _ _ _) rfl h4 rfl okX3_begin (Or.inl tw471) tw473 tp0 rfl (Nat.le_of_ble_eq_true rfl) dX3_read_8 (fun r2 => []) (fun r2 => r2) (fun _ => rfl) (fun _ => rfl) (fun r2 h3 => ?_) rfl
  refine v_aload_n dX3_read_11 rfl ?_
  refine v_if (fun h7 => ?_)
  refine v_cV (mi := mX3_read) (c0 := 0) (c1 := 0) (As := []) (st := []) (kX3_step d (by omega) _ _) rfl h7 rfl okX3_step (Or.inl tw485) tw487 tp1 rfl (Nat.le_of_ble_eq_true rfl) dX3_read_12 (fun r5 => []) (fun r5 => r5) (fun _ => rfl) (fun _ => rfl) (fun r5 h6 => ?_) rfl
  refine v_iconst dX3_read_15 (by decide) ?_
  refine v_istore (ls' := [some (pA a0), some (pA a1), some (pI a2), some (pI a3), some (pI 0)]) dX3_read_16 (by decide) rfl ?_
  refine v_drop [some (pA a0), none, none, some (pI a3), some (pI 0)] (ls_s (ls_n (ls_n (ls_s (ls_s ls_e))))) ?_
  refine v_loop (fun (s9 : Int × Mem) => [some (pA a0), none, none, some (pI a3), some (pI s9.1)]) (fun (s9 : Int × Mem) => s9.2) (s0 := (0, r5)) ?_
  intro rec8 hrec8 s9
  refine v_iload dX3_read_18 rfl ?_
  refine v_aload_n dX3_read_20 rfl ?_
  refine v_if (fun h10 => ?_)
  refine v_get (v := pI (s9.2.1 a0 7)) 3 7 rfl inX3 (by decide) tw267 dX3_read_21 h10 rfl ?_
  refine v_join (fun (t12 : Unit) => [some (pA a0), none, none, none, none]) (fun (t12 : Unit) => []) (fun (t12 : Unit) => s9.2) 52 (fun t12 => ?_) (fun j11 hj11 => ?_)
  · refine v_aload_n dX3_read_52 rfl ?_
    refine v_get (v := pI (s9.2.1 a0 0)) 3 0 rfl inX3 (by decide) tw254 dX3_read_53 h10 rfl ?_
    refine v_join (fun (t14 : Mem) => [some (pA a0), none, none, none, none]) (fun (t14 : Mem) => []) (fun (t14 : Mem) => t14) 96 (fun t14 => ?_) (fun j13 hj13 => ?_)
    · refine v_aload_n dX3_read_96 rfl ?_
      refine v_null dX3_read_97 ?_
      refine v_if (fun h15 => ?_)
      refine v_if (fun h16 => ?_)
      refine v_put (x := (-1)) 3 6 rfl inX3 (by decide) tw266 (Or.inl rfl) rfl dX3_read_98 h15 rfl (fun _ => h16) ?_
      refine v_bM (fun M17 e18 => ?_)
      exact v_return dX3_read_101 rfl rfl
    · refine v_if_ne (tgt := 96) dX3_read_56 (by decide) (fun c19 => ?_) (fun c19 => ?_)
      · refine v_aload_n dX3_read_59 rfl ?_
        refine v_get (v := pI (s9.2.1 a0 14)) 3 14 rfl inX3 (by decide) tw274 dX3_read_60 h10 rfl ?_
        refine v_aload_n dX3_read_63 rfl ?_
        refine v_get (v := pA (s9.2.1 a0 2)) 3 2 rfl inX3 (by decide) tw258 dX3_read_64 h10 rfl ?_
        refine v_if (fun h20 => ?_)
        refine v_get (v := pI (s9.2.1 (s9.2.1 a0 2) 0)) 7 0 rfl inX7 (by decide) tw56 dX3_read_67 h20 rfl ?_
        refine v_join (fun (t22 : Unit) => [some (pA a0), none, none, none, none]) (fun (t22 : Unit) => []) (fun (t22 : Unit) => s9.2) 87 (fun t22 => ?_) (fun j21 hj21 => ?_)
        · refine v_aload_n dX3_read_87 rfl ?_
          refine v_iconst dX3_read_88 (by decide) ?_
          refine v_aload_n dX3_read_89 rfl ?_
          refine v_get (v := pI (s9.2.1 a0 7)) 3 7 rfl inX3 (by decide) tw267 dX3_read_90 h10 rfl ?_
          refine v_cV (mi := mX3_read) (c0 := 0) (c1 := 0) (As := [pI 4, pI (s9.2.1 a0 7)]) (st := []) (kX3_note d (by omega) _ _ _ _) rfl h10 rfl okX3_note (Or.inl tw598) tw600 tp9 rfl (Nat.le_of_ble_eq_true rfl) dX3_read_93 (fun r23 => []) (fun r23 => r23) (fun _ => rfl) (fun _ => rfl) (fun r23 h24 => ?_) rfl
          exact hj13 r23
        · refine v_icmp_ge (tgt := 87) dX3_read_70 (by decide) (fun c25 => ?_) (fun c25 => ?_)
          · refine v_aload_n dX3_read_73 rfl ?_
            refine v_get (v := pI (s9.2.1 a0 15)) 3 15 rfl inX3 (by decide) tw275 dX3_read_74 h10 rfl ?_
            refine v_aload_n dX3_read_77 rfl ?_
            refine v_get (v := pA (s9.2.1 a0 2)) 3 2 rfl inX3 (by decide) tw258 dX3_read_78 h10 rfl ?_
            refine v_get (v := pI (s9.2.1 (s9.2.1 a0 2) 1)) 7 1 rfl inX7 (by decide) tw62 dX3_read_81 h20 rfl ?_
            refine v_icmp_lt (tgt := 96) dX3_read_84 (by decide) (fun c26 => ?_) (fun c26 => ?_)
            · exact hj13 s9.2
            · exact hj21 ()
          · exact hj21 ()
      · exact hj13 s9.2
  · refine v_icmp_gt (tgt := 52) dX3_read_24 (by decide) (fun c27 => ?_) (fun c27 => ?_)
    · exact v_drop [some (pA a0), none, none, none, none] (ls_s (ls_n (ls_n (ls_n (ls_n ls_e))))) (hj11 ())
    · refine v_aload_n dX3_read_27 rfl ?_
      refine v_get (v := pI (s9.2.1 a0 9)) 3 9 rfl inX3 (by decide) tw269 dX3_read_28 h10 rfl ?_
      refine v_if_eq (tgt := 52) dX3_read_31 (by decide) (fun c28 => ?_) (fun c28 => ?_)
      · exact v_drop [some (pA a0), none, none, none, none] (ls_s (ls_n (ls_n (ls_n (ls_n ls_e))))) (hj11 ())
      · refine v_aload_n dX3_read_34 rfl ?_
        refine v_get (v := pI (s9.2.1 a0 13)) 3 13 rfl inX3 (by decide) tw273 dX3_read_35 h10 rfl ?_
        refine v_if_ne (tgt := 52) dX3_read_38 (by decide) (fun c29 => ?_) (fun c29 => ?_)
        · refine v_aload_n dX3_read_41 rfl ?_
          refine v_iload_n dX3_read_42 rfl ?_
          refine v_cV (mi := mX3_read) (c0 := 0) (c1 := 0) (As := [pI a3]) (st := []) (kX3_readLine d (by omega) _ _ _) rfl h10 rfl okX3_readLine (Or.inl tw506) tw508 tp4 rfl (Nat.le_of_ble_eq_true rfl) dX3_read_43 (fun r30 => []) (fun r30 => r30) (fun _ => rfl) (fun _ => rfl) (fun r30 h31 => ?_) rfl
          refine v_iinc (ls' := [some (pA a0), none, none, some (pI a3), some (pI (w32 (s9.1 + 1)))]) dX3_read_46 (by decide) rfl rfl ?_
          refine v_goto (tgt := 18) dX3_read_49 (by decide) ?_
          exact hrec8 (w32 (s9.1 + 1), r30)
        · exact v_drop [some (pA a0), none, none, none, none] (ls_s (ls_n (ls_n (ls_n (ls_n ls_e))))) (hj11 ())
theorem chX10_init_0 : (cX10_init.data.toList.drop 0).take 16 = [42, 183, 0, 3, 42, 187, 0, 9, 89, 183, 0, 11, 181, 0, 12, 42] := by decide +kernel
theorem chX10_init_1 : (cX10_init.data.toList.drop 16).take 16 = [6, 189, 0, 9, 181, 0, 16, 42, 187, 0, 20, 89, 183, 0, 22, 181] := by decide +kernel
theorem chX10_init_2 : (cX10_init.data.toList.drop 32).take 16 = [0, 23, 42, 187, 0, 27, 89, 42, 180, 0, 12, 180, 0, 29, 3, 50] := by decide +kernel
theorem chX10_init_3 : (cX10_init.data.toList.drop 48).take 16 = [42, 180, 0, 12, 180, 0, 33, 3, 50, 183, 0, 37, 181, 0, 40, 42] := by decide +kernel
theorem chX10_init_4 : (cX10_init.data.toList.drop 64).take 16 = [187, 0, 44, 89, 183, 0, 46, 181, 0, 47, 42, 187, 0, 51, 89, 42] := by decide +kernel
theorem chX10_init_5 : (cX10_init.data.toList.drop 80).take 16 = [180, 0, 12, 180, 0, 29, 3, 50, 183, 0, 53, 181, 0, 56, 177] := by decide +kernel
theorem dX10_init_0 : decode cX10_init 0 = .ok (.aload_n 0, 1) := oq_42 (byt chX10_init_0 0 rfl)
theorem dX10_init_1 : decode cX10_init 1 = .ok (.invokespecial 3, 3) := oq_183 (byt chX10_init_0 1 rfl) (byt chX10_init_0 2 rfl) (byt chX10_init_0 3 rfl) rfl
theorem dX10_init_4 : decode cX10_init 4 = .ok (.aload_n 0, 1) := oq_42 (byt chX10_init_0 4 rfl)
theorem dX10_init_5 : decode cX10_init 5 = .ok (.new 9, 3) := oq_187 (byt chX10_init_0 5 rfl) (byt chX10_init_0 6 rfl) (byt chX10_init_0 7 rfl) rfl
theorem dX10_init_8 : decode cX10_init 8 = .ok (.dup, 1) := oq_89 (byt chX10_init_0 8 rfl)
theorem dX10_init_9 : decode cX10_init 9 = .ok (.invokespecial 11, 3) := oq_183 (byt chX10_init_0 9 rfl) (byt chX10_init_0 10 rfl) (byt chX10_init_0 11 rfl) rfl
theorem dX10_init_12 : decode cX10_init 12 = .ok (.putfield 12, 3) := oq_181 (byt chX10_init_0 12 rfl) (byt chX10_init_0 13 rfl) (byt chX10_init_0 14 rfl) rfl
theorem dX10_init_15 : decode cX10_init 15 = .ok (.aload_n 0, 1) := oq_42 (byt chX10_init_0 15 rfl)
theorem dX10_init_16 : decode cX10_init 16 = .ok (.iconst 3, 1) := oq_6 (byt chX10_init_1 0 rfl)
theorem dX10_init_17 : decode cX10_init 17 = .ok (.anewarray 9, 3) := oq_189 (byt chX10_init_1 1 rfl) (byt chX10_init_1 2 rfl) (byt chX10_init_1 3 rfl) rfl
theorem dX10_init_20 : decode cX10_init 20 = .ok (.putfield 16, 3) := oq_181 (byt chX10_init_1 4 rfl) (byt chX10_init_1 5 rfl) (byt chX10_init_1 6 rfl) rfl
theorem dX10_init_23 : decode cX10_init 23 = .ok (.aload_n 0, 1) := oq_42 (byt chX10_init_1 7 rfl)
theorem dX10_init_24 : decode cX10_init 24 = .ok (.new 20, 3) := oq_187 (byt chX10_init_1 8 rfl) (byt chX10_init_1 9 rfl) (byt chX10_init_1 10 rfl) rfl
theorem dX10_init_27 : decode cX10_init 27 = .ok (.dup, 1) := oq_89 (byt chX10_init_1 11 rfl)
theorem dX10_init_28 : decode cX10_init 28 = .ok (.invokespecial 22, 3) := oq_183 (byt chX10_init_1 12 rfl) (byt chX10_init_1 13 rfl) (byt chX10_init_1 14 rfl) rfl
theorem dX10_init_31 : decode cX10_init 31 = .ok (.putfield 23, 3) := oq_181 (byt chX10_init_1 15 rfl) (byt chX10_init_2 0 rfl) (byt chX10_init_2 1 rfl) rfl
theorem dX10_init_34 : decode cX10_init 34 = .ok (.aload_n 0, 1) := oq_42 (byt chX10_init_2 2 rfl)
theorem dX10_init_35 : decode cX10_init 35 = .ok (.new 27, 3) := oq_187 (byt chX10_init_2 3 rfl) (byt chX10_init_2 4 rfl) (byt chX10_init_2 5 rfl) rfl
theorem dX10_init_38 : decode cX10_init 38 = .ok (.dup, 1) := oq_89 (byt chX10_init_2 6 rfl)
theorem dX10_init_39 : decode cX10_init 39 = .ok (.aload_n 0, 1) := oq_42 (byt chX10_init_2 7 rfl)
theorem dX10_init_40 : decode cX10_init 40 = .ok (.getfield 12, 3) := oq_180 (byt chX10_init_2 8 rfl) (byt chX10_init_2 9 rfl) (byt chX10_init_2 10 rfl) rfl
theorem dX10_init_43 : decode cX10_init 43 = .ok (.getfield 29, 3) := oq_180 (byt chX10_init_2 11 rfl) (byt chX10_init_2 12 rfl) (byt chX10_init_2 13 rfl) rfl
theorem dX10_init_46 : decode cX10_init 46 = .ok (.iconst 0, 1) := oq_3 (byt chX10_init_2 14 rfl)
theorem dX10_init_47 : decode cX10_init 47 = .ok (.aaload, 1) := oq_50 (byt chX10_init_2 15 rfl)
theorem dX10_init_48 : decode cX10_init 48 = .ok (.aload_n 0, 1) := oq_42 (byt chX10_init_3 0 rfl)
theorem dX10_init_49 : decode cX10_init 49 = .ok (.getfield 12, 3) := oq_180 (byt chX10_init_3 1 rfl) (byt chX10_init_3 2 rfl) (byt chX10_init_3 3 rfl) rfl
theorem dX10_init_52 : decode cX10_init 52 = .ok (.getfield 33, 3) := oq_180 (byt chX10_init_3 4 rfl) (byt chX10_init_3 5 rfl) (byt chX10_init_3 6 rfl) rfl
theorem dX10_init_55 : decode cX10_init 55 = .ok (.iconst 0, 1) := oq_3 (byt chX10_init_3 7 rfl)
theorem dX10_init_56 : decode cX10_init 56 = .ok (.aaload, 1) := oq_50 (byt chX10_init_3 8 rfl)
theorem dX10_init_57 : decode cX10_init 57 = .ok (.invokespecial 37, 3) := oq_183 (byt chX10_init_3 9 rfl) (byt chX10_init_3 10 rfl) (byt chX10_init_3 11 rfl) rfl
theorem dX10_init_60 : decode cX10_init 60 = .ok (.putfield 40, 3) := oq_181 (byt chX10_init_3 12 rfl) (byt chX10_init_3 13 rfl) (byt chX10_init_3 14 rfl) rfl
theorem dX10_init_63 : decode cX10_init 63 = .ok (.aload_n 0, 1) := oq_42 (byt chX10_init_3 15 rfl)
theorem dX10_init_64 : decode cX10_init 64 = .ok (.new 44, 3) := oq_187 (byt chX10_init_4 0 rfl) (byt chX10_init_4 1 rfl) (byt chX10_init_4 2 rfl) rfl
theorem dX10_init_67 : decode cX10_init 67 = .ok (.dup, 1) := oq_89 (byt chX10_init_4 3 rfl)
theorem dX10_init_68 : decode cX10_init 68 = .ok (.invokespecial 46, 3) := oq_183 (byt chX10_init_4 4 rfl) (byt chX10_init_4 5 rfl) (byt chX10_init_4 6 rfl) rfl
theorem dX10_init_71 : decode cX10_init 71 = .ok (.putfield 47, 3) := oq_181 (byt chX10_init_4 7 rfl) (byt chX10_init_4 8 rfl) (byt chX10_init_4 9 rfl) rfl
theorem dX10_init_74 : decode cX10_init 74 = .ok (.aload_n 0, 1) := oq_42 (byt chX10_init_4 10 rfl)
theorem dX10_init_75 : decode cX10_init 75 = .ok (.new 51, 3) := oq_187 (byt chX10_init_4 11 rfl) (byt chX10_init_4 12 rfl) (byt chX10_init_4 13 rfl) rfl
theorem dX10_init_78 : decode cX10_init 78 = .ok (.dup, 1) := oq_89 (byt chX10_init_4 14 rfl)
theorem dX10_init_79 : decode cX10_init 79 = .ok (.aload_n 0, 1) := oq_42 (byt chX10_init_4 15 rfl)
theorem dX10_init_80 : decode cX10_init 80 = .ok (.getfield 12, 3) := oq_180 (byt chX10_init_5 0 rfl) (byt chX10_init_5 1 rfl) (byt chX10_init_5 2 rfl) rfl
theorem dX10_init_83 : decode cX10_init 83 = .ok (.getfield 29, 3) := oq_180 (byt chX10_init_5 3 rfl) (byt chX10_init_5 4 rfl) (byt chX10_init_5 5 rfl) rfl
theorem dX10_init_86 : decode cX10_init 86 = .ok (.iconst 0, 1) := oq_3 (byt chX10_init_5 6 rfl)
theorem dX10_init_87 : decode cX10_init 87 = .ok (.aaload, 1) := oq_50 (byt chX10_init_5 7 rfl)
theorem dX10_init_88 : decode cX10_init 88 = .ok (.invokespecial 53, 3) := oq_183 (byt chX10_init_5 8 rfl) (byt chX10_init_5 9 rfl) (byt chX10_init_5 10 rfl) rfl
theorem dX10_init_91 : decode cX10_init 91 = .ok (.putfield 56, 3) := oq_181 (byt chX10_init_5 11 rfl) (byt chX10_init_5 12 rfl) (byt chX10_init_5 13 rfl) rfl
theorem dX10_init_94 : decode cX10_init 94 = .ok (.return_, 1) := oq_177 (byt chX10_init_5 14 rfl)
abbrev mX10_init : MI := (yX10_init, cX10_init, 1, none, noE)
theorem okX10_init : cok mX10_init 0 := ⟨tw24, tw1, by decide, by decide, by decide, by decide +kernel⟩
def fX10_init (M : Mem) (a0 : Int) : Option Mem :=
  if (0 : Int) ≤ a0 then bM (mnew M 6 9) fun M2 => if (0 : Int) ≤ (M.2.2.2 : Int) then (fX6_init M2 (M.2.2.2 : Int)).bind fun r5 => if r5.2.1 a0 = 9 then if (-1 : Int) ≤ (M.2.2.2 : Int) then bM (mst r5 a0 0 (M.2.2.2 : Int)) fun M10 => bM (mnew M10 17 3) fun M12 => if M12.2.1 a0 = 9 then if (-1 : Int) ≤ (M10.2.2.2 : Int) then bM (mst M12 a0 1 (M10.2.2.2 : Int)) fun M16 => bM (mnew M16 3 16) fun M18 => if (0 : Int) ≤ (M16.2.2.2 : Int) then (fX3_init M18 (M16.2.2.2 : Int)).bind fun r21 => if r21.2.1 a0 = 9 then if (-1 : Int) ≤ (M16.2.2.2 : Int) then bM (mst r21 a0 2 (M16.2.2.2 : Int)) fun M26 => bM (mnew M26 8 17) fun M28 => if M28.2.1 a0 = 9 then if M28.2.1 (M28.1 a0 0) = 6 then if 14 ≤ M28.2.1 (M28.1 (M28.1 a0 0) 5) ∧ (0 : Int) ≤ 0 ∧ 0 < M28.2.2.1 (M28.1 (M28.1 a0 0) 5) then if 14 ≤ M28.2.1 (M28.1 (M28.1 a0 0) 6) ∧ (0 : Int) ≤ 0 ∧ 0 < M28.2.2.1 (M28.1 (M28.1 a0 0) 6) then if (0 : Int) ≤ (M26.2.2.2 : Int) then (fX9_init M28 (M26.2.2.2 : Int) (M28.1 (M28.1 (M28.1 a0 0) 5) 0) (M28.1 (M28.1 (M28.1 a0 0) 6) 0)).bind fun r35 => if r35.2.1 a0 = 9 then if (-1 : Int) ≤ (M26.2.2.2 : Int) then bM (mst r35 a0 3 (M26.2.2.2 : Int)) fun M40 => bM (mnew M40 5 2) fun M42 => if (0 : Int) ≤ (M40.2.2.2 : Int) then (fX5_init M42 (M40.2.2.2 : Int)).bind fun r45 => if r45.2.1 a0 = 9 then if (-1 : Int) ≤ (M40.2.2.2 : Int) then bM (mst r45 a0 4 (M40.2.2.2 : Int)) fun M50 => bM (mnew M50 2 5) fun M52 => if M52.2.1 a0 = 9 then if M52.2.1 (M52.1 a0 0) = 6 then if 14 ≤ M52.2.1 (M52.1 (M52.1 a0 0) 5) ∧ (0 : Int) ≤ 0 ∧ 0 < M52.2.2.1 (M52.1 (M52.1 a0 0) 5) then if (0 : Int) ≤ (M50.2.2.2 : Int) then (fX2_init M52 (M50.2.2.2 : Int) (M52.1 (M52.1 (M52.1 a0 0) 5) 0)).bind fun r58 => if r58.2.1 a0 = 9 then if (-1 : Int) ≤ (M50.2.2.2 : Int) then bM (mst r58 a0 5 (M50.2.2.2 : Int)) fun M63 => some M63 else none else none else none else none else none else none else none else none else none else none else none else none else none else none else none else none else none else none else none else none else none else none else none else none else none
set_option maxRecDepth 100000 in
set_option maxHeartbeats 4000000 in
theorem kX10_init (d : Nat) (hd : 4 ≤ d) (M : Mem) (a0 : Int) : Ct mX10_init d 84 2163 [pA a0] M dV (fX10_init M a0) := by
  obtain ⟨d, rfl⟩ : ∃ k, d = k + 1 := ⟨d - 1, by omega⟩
  refine Ct.of 0 (fun _ _ _ => trivial) (by decide +kernel) rfl ?_
  unfold fX10_init
  refine v_aload_n dX10_init_0 rfl ?_
  refine v_if (fun h1 => ?_)
  refine v_objInit (mi := mX10_init) h1 tw25 tw26 tw27 (Nat.le_of_ble_eq_true rfl) dX10_init_1 ?_
  refine v_aload_n dX10_init_4 rfl ?_
  refine v_new (N := 9) 6 rfl inX6 tw28 tw29 tw2 ftX6 dX10_init_5 ?_
  refine v_bM (fun M2 e3 => ?_)
  have h4 : M2.2.1 (M.2.2.2 : Int) = 6 := by rw [e3]; exact mnew_k
  refine v_dup dX10_init_8 (by intro z hz; cases hz) ?_
  refine v_if (fun h7 => ?_)
  refine v_cI (mi := mX10_init) (c0 := 44) (c1 := 1248) (As := []) (st := [pA (M.2.2.2 : Int), pA a0]) (kX6_init d (by omega) _ _) h7 okX6_init rfl rfl (Or.inl tw30) tw31 rfl (Nat.le_of_ble_eq_true rfl) dX10_init_9 (fun r5 => [pA (M.2.2.2 : Int), pA a0]) (fun r5 => r5) (fun _ => rfl) (fun _ => rfl) (fun r5 h6 => ?_) rfl
  refine v_if (fun h8 => ?_)
  refine v_if (fun h9 => ?_)
  refine v_put (x := (M.2.2.2 : Int)) 9 0 rfl inX10 (by decide) tw421 (Or.inr ⟨rfl, rfl, rfl⟩) rfl dX10_init_12 h8 rfl (fun _ => h9) ?_
  refine v_bM (fun M10 e11 => ?_)
  refine v_aload_n dX10_init_15 rfl ?_
  refine v_iconst dX10_init_16 (by decide) ?_
  refine v_anewarray (n := 3) 17 "OneBack$Told" (by decide +kernel) (by decide) tw28 dX10_init_17 ?_
  refine v_bM (fun M12 e13 => ?_)
  refine v_if (fun h14 => ?_)
  refine v_if (fun h15 => ?_)
  refine v_put (x := (M10.2.2.2 : Int)) 9 1 rfl inX10 (by decide) tw422 (Or.inr ⟨rfl, rfl, rfl⟩) rfl dX10_init_20 h14 rfl (fun _ => h15) ?_
  refine v_bM (fun M16 e17 => ?_)
  refine v_aload_n dX10_init_23 rfl ?_
  refine v_new (N := 16) 3 rfl inX3 tw240 tw241 tw7 ftX3 dX10_init_24 ?_
  refine v_bM (fun M18 e19 => ?_)
  have h20 : M18.2.1 (M16.2.2.2 : Int) = 3 := by rw [e19]; exact mnew_k
  refine v_dup dX10_init_27 (by intro z hz; cases hz) ?_
  refine v_if (fun h23 => ?_)
  refine v_cI (mi := mX10_init) (c0 := 20) (c1 := 321) (As := []) (st := [pA (M16.2.2.2 : Int), pA a0]) (kX3_init d (by omega) _ _) h23 okX3_init rfl rfl (Or.inr nw4) tw243 rfl (Nat.le_of_ble_eq_true rfl) dX10_init_28 (fun r21 => [pA (M16.2.2.2 : Int), pA a0]) (fun r21 => r21) (fun _ => rfl) (fun _ => rfl) (fun r21 h22 => ?_) rfl
  refine v_if (fun h24 => ?_)
  refine v_if (fun h25 => ?_)
  refine v_put (x := (M16.2.2.2 : Int)) 9 2 rfl inX10 (by decide) tw423 (Or.inr ⟨rfl, rfl, rfl⟩) rfl dX10_init_31 h24 rfl (fun _ => h25) ?_
  refine v_bM (fun M26 e27 => ?_)
  refine v_aload_n dX10_init_34 rfl ?_
  refine v_new (N := 17) 8 rfl inX9 tw309 tw310 tw8 ftX9 dX10_init_35 ?_
  refine v_bM (fun M28 e29 => ?_)
  have h30 : M28.2.1 (M26.2.2.2 : Int) = 8 := by rw [e29]; exact mnew_k
  refine v_dup dX10_init_38 (by intro z hz; cases hz) ?_
  refine v_aload_n dX10_init_39 rfl ?_
  refine v_if (fun h31 => ?_)
  refine v_get (v := pA (M28.1 a0 0)) 9 0 rfl inX10 (by decide) tw421 dX10_init_40 h31 rfl ?_
  refine v_if (fun h32 => ?_)
  refine v_get (v := pA (M28.1 (M28.1 a0 0) 5)) 6 5 rfl inX6 (by decide) tw215 dX10_init_43 h32 rfl ?_
  refine v_iconst dX10_init_46 (by decide) ?_
  refine v_if (fun h33 => ?_)
  refine v_aaload h33 dX10_init_47 ?_
  refine v_aload_n dX10_init_48 rfl ?_
  refine v_get (v := pA (M28.1 a0 0)) 9 0 rfl inX10 (by decide) tw421 dX10_init_49 h31 rfl ?_
  refine v_get (v := pA (M28.1 (M28.1 a0 0) 6)) 6 6 rfl inX6 (by decide) tw217 dX10_init_52 h32 rfl ?_
  refine v_iconst dX10_init_55 (by decide) ?_
  refine v_if (fun h34 => ?_)
  refine v_aaload h34 dX10_init_56 ?_
  refine v_if (fun h37 => ?_)
  refine v_cI (mi := mX10_init) (c0 := 10) (c1 := 314) (As := [pA (M28.1 (M28.1 (M28.1 a0 0) 5) 0), pA (M28.1 (M28.1 (M28.1 a0 0) 6) 0)]) (st := [pA (M26.2.2.2 : Int), pA a0]) (kX9_init d (by omega) _ _ _ _) h37 okX9_init rfl rfl (Or.inl tw311) tw312 rfl (Nat.le_of_ble_eq_true rfl) dX10_init_57 (fun r35 => [pA (M26.2.2.2 : Int), pA a0]) (fun r35 => r35) (fun _ => rfl) (fun _ => rfl) (fun r35 h36 => ?_) rfl
  refine v_if (fun h38 => ?_)
  refine v_if (fun h39 => ?_)
  refine v_put (x := (M26.2.2.2 : Int)) 9 3 rfl inX10 (by decide) tw424 (Or.inr ⟨rfl, rfl, rfl⟩) rfl dX10_init_60 h38 rfl (fun _ => h39) ?_
  refine v_bM (fun M40 e41 => ?_)
  refine v_aload_n dX10_init_63 rfl ?_
  refine v_new (N := 2) 5 rfl inX5 tw384 tw385 tw9 ftX5 dX10_init_64 ?_
  refine v_bM (fun M42 e43 => ?_)
  have h44 : M42.2.1 (M40.2.2.2 : Int) = 5 := by rw [e43]; exact mnew_k
  refine v_dup dX10_init_67 (by intro z hz; cases hz) ?_
  refine v_if (fun h47 => ?_)
  refine v_cI (mi := mX10_init) (c0 := 2) (c1 := 218) (As := []) (st := [pA (M40.2.2.2 : Int), pA a0]) (kX5_init d (by omega) _ _) h47 okX5_init rfl rfl (Or.inr nw7) tw387 rfl (Nat.le_of_ble_eq_true rfl) dX10_init_68 (fun r45 => [pA (M40.2.2.2 : Int), pA a0]) (fun r45 => r45) (fun _ => rfl) (fun _ => rfl) (fun r45 h46 => ?_) rfl
  refine v_if (fun h48 => ?_)
  refine v_if (fun h49 => ?_)
  refine v_put (x := (M40.2.2.2 : Int)) 9 4 rfl inX10 (by decide) tw425 (Or.inr ⟨rfl, rfl, rfl⟩) rfl dX10_init_71 h48 rfl (fun _ => h49) ?_
  refine v_bM (fun M50 e51 => ?_)
  refine v_aload_n dX10_init_74 rfl ?_
  refine v_new (N := 5) 2 rfl inX2 tw397 tw398 tw10 ftX2 dX10_init_75 ?_
  refine v_bM (fun M52 e53 => ?_)
  have h54 : M52.2.1 (M50.2.2.2 : Int) = 2 := by rw [e53]; exact mnew_k
  refine v_dup dX10_init_78 (by intro z hz; cases hz) ?_
  refine v_aload_n dX10_init_79 rfl ?_
  refine v_if (fun h55 => ?_)
  refine v_get (v := pA (M52.1 a0 0)) 9 0 rfl inX10 (by decide) tw421 dX10_init_80 h55 rfl ?_
  refine v_if (fun h56 => ?_)
  refine v_get (v := pA (M52.1 (M52.1 a0 0) 5)) 6 5 rfl inX6 (by decide) tw215 dX10_init_83 h56 rfl ?_
  refine v_iconst dX10_init_86 (by decide) ?_
  refine v_if (fun h57 => ?_)
  refine v_aaload h57 dX10_init_87 ?_
  refine v_if (fun h60 => ?_)
  refine v_cI (mi := mX10_init) (c0 := 2) (c1 := 10) (As := [pA (M52.1 (M52.1 (M52.1 a0 0) 5) 0)]) (st := [pA (M50.2.2.2 : Int), pA a0]) (kX2_init d (by omega) _ _ _) h60 okX2_init rfl rfl (Or.inl tw399) tw400 rfl (Nat.le_of_ble_eq_true rfl) dX10_init_88 (fun r58 => [pA (M50.2.2.2 : Int), pA a0]) (fun r58 => r58) (fun _ => rfl) (fun _ => rfl) (fun r58 h59 => ?_) rfl
  refine v_if (fun h61 => ?_)
  refine v_if (fun h62 => ?_)
  refine v_put (x := (M50.2.2.2 : Int)) 9 5 rfl inX10 (by decide) tw426 (Or.inr ⟨rfl, rfl, rfl⟩) rfl dX10_init_91 h61 rfl (fun _ => h62) ?_
  refine v_bM (fun M63 e64 => ?_)
  exact v_return dX10_init_94 rfl rfl
theorem chX10_feed_0 : (cX10_feed.data.toList.drop 0).take 16 = [42, 180, 0, 12, 180, 0, 60, 17, 2, 68, 164, 0, 5, 2, 172, 42] := by decide +kernel
theorem chX10_feed_1 : (cX10_feed.data.toList.drop 16).take 16 = [180, 0, 12, 27, 182, 0, 64, 42, 180, 0, 12, 28, 182, 0, 64, 42] := by decide +kernel
theorem chX10_feed_2 : (cX10_feed.data.toList.drop 32).take 16 = [180, 0, 12, 29, 182, 0, 64, 42, 180, 0, 12, 21, 4, 182, 0, 64] := by decide +kernel
theorem chX10_feed_3 : (cX10_feed.data.toList.drop 48).take 16 = [42, 180, 0, 12, 21, 5, 182, 0, 64, 42, 180, 0, 12, 180, 0, 60] := by decide +kernel
theorem chX10_feed_4 : (cX10_feed.data.toList.drop 64).take 16 = [172] := by decide +kernel
theorem dX10_feed_0 : decode cX10_feed 0 = .ok (.aload_n 0, 1) := oq_42 (byt chX10_feed_0 0 rfl)
theorem dX10_feed_1 : decode cX10_feed 1 = .ok (.getfield 12, 3) := oq_180 (byt chX10_feed_0 1 rfl) (byt chX10_feed_0 2 rfl) (byt chX10_feed_0 3 rfl) rfl
theorem dX10_feed_4 : decode cX10_feed 4 = .ok (.getfield 60, 3) := oq_180 (byt chX10_feed_0 4 rfl) (byt chX10_feed_0 5 rfl) (byt chX10_feed_0 6 rfl) rfl
theorem dX10_feed_7 : decode cX10_feed 7 = .ok (.sipush 580, 3) := oq_17 (byt chX10_feed_0 7 rfl) (byt chX10_feed_0 8 rfl) (byt chX10_feed_0 9 rfl) (by decide +kernel)
theorem dX10_feed_10 : decode cX10_feed 10 = .ok (.if_icmp .le 5, 3) := oq_164 (byt chX10_feed_0 10 rfl) (byt chX10_feed_0 11 rfl) (byt chX10_feed_0 12 rfl) (by decide +kernel)
theorem dX10_feed_13 : decode cX10_feed 13 = .ok (.iconst (-1), 1) := oq_2 (byt chX10_feed_0 13 rfl)
theorem dX10_feed_14 : decode cX10_feed 14 = .ok (.ireturn, 1) := oq_172 (byt chX10_feed_0 14 rfl)
theorem dX10_feed_15 : decode cX10_feed 15 = .ok (.aload_n 0, 1) := oq_42 (byt chX10_feed_0 15 rfl)
theorem dX10_feed_16 : decode cX10_feed 16 = .ok (.getfield 12, 3) := oq_180 (byt chX10_feed_1 0 rfl) (byt chX10_feed_1 1 rfl) (byt chX10_feed_1 2 rfl) rfl
theorem dX10_feed_19 : decode cX10_feed 19 = .ok (.iload_n 1, 1) := oq_27 (byt chX10_feed_1 3 rfl)
theorem dX10_feed_20 : decode cX10_feed 20 = .ok (.invokevirtual 64, 3) := oq_182 (byt chX10_feed_1 4 rfl) (byt chX10_feed_1 5 rfl) (byt chX10_feed_1 6 rfl) rfl
theorem dX10_feed_23 : decode cX10_feed 23 = .ok (.aload_n 0, 1) := oq_42 (byt chX10_feed_1 7 rfl)
theorem dX10_feed_24 : decode cX10_feed 24 = .ok (.getfield 12, 3) := oq_180 (byt chX10_feed_1 8 rfl) (byt chX10_feed_1 9 rfl) (byt chX10_feed_1 10 rfl) rfl
theorem dX10_feed_27 : decode cX10_feed 27 = .ok (.iload_n 2, 1) := oq_28 (byt chX10_feed_1 11 rfl)
theorem dX10_feed_28 : decode cX10_feed 28 = .ok (.invokevirtual 64, 3) := oq_182 (byt chX10_feed_1 12 rfl) (byt chX10_feed_1 13 rfl) (byt chX10_feed_1 14 rfl) rfl
theorem dX10_feed_31 : decode cX10_feed 31 = .ok (.aload_n 0, 1) := oq_42 (byt chX10_feed_1 15 rfl)
theorem dX10_feed_32 : decode cX10_feed 32 = .ok (.getfield 12, 3) := oq_180 (byt chX10_feed_2 0 rfl) (byt chX10_feed_2 1 rfl) (byt chX10_feed_2 2 rfl) rfl
theorem dX10_feed_35 : decode cX10_feed 35 = .ok (.iload_n 3, 1) := oq_29 (byt chX10_feed_2 3 rfl)
theorem dX10_feed_36 : decode cX10_feed 36 = .ok (.invokevirtual 64, 3) := oq_182 (byt chX10_feed_2 4 rfl) (byt chX10_feed_2 5 rfl) (byt chX10_feed_2 6 rfl) rfl
theorem dX10_feed_39 : decode cX10_feed 39 = .ok (.aload_n 0, 1) := oq_42 (byt chX10_feed_2 7 rfl)
theorem dX10_feed_40 : decode cX10_feed 40 = .ok (.getfield 12, 3) := oq_180 (byt chX10_feed_2 8 rfl) (byt chX10_feed_2 9 rfl) (byt chX10_feed_2 10 rfl) rfl
theorem dX10_feed_43 : decode cX10_feed 43 = .ok (.iload 4, 2) := oq_21 (byt chX10_feed_2 11 rfl) (byt chX10_feed_2 12 rfl) rfl
theorem dX10_feed_45 : decode cX10_feed 45 = .ok (.invokevirtual 64, 3) := oq_182 (byt chX10_feed_2 13 rfl) (byt chX10_feed_2 14 rfl) (byt chX10_feed_2 15 rfl) rfl
theorem dX10_feed_48 : decode cX10_feed 48 = .ok (.aload_n 0, 1) := oq_42 (byt chX10_feed_3 0 rfl)
theorem dX10_feed_49 : decode cX10_feed 49 = .ok (.getfield 12, 3) := oq_180 (byt chX10_feed_3 1 rfl) (byt chX10_feed_3 2 rfl) (byt chX10_feed_3 3 rfl) rfl
theorem dX10_feed_52 : decode cX10_feed 52 = .ok (.iload 5, 2) := oq_21 (byt chX10_feed_3 4 rfl) (byt chX10_feed_3 5 rfl) rfl
theorem dX10_feed_54 : decode cX10_feed 54 = .ok (.invokevirtual 64, 3) := oq_182 (byt chX10_feed_3 6 rfl) (byt chX10_feed_3 7 rfl) (byt chX10_feed_3 8 rfl) rfl
theorem dX10_feed_57 : decode cX10_feed 57 = .ok (.aload_n 0, 1) := oq_42 (byt chX10_feed_3 9 rfl)
theorem dX10_feed_58 : decode cX10_feed 58 = .ok (.getfield 12, 3) := oq_180 (byt chX10_feed_3 10 rfl) (byt chX10_feed_3 11 rfl) (byt chX10_feed_3 12 rfl) rfl
theorem dX10_feed_61 : decode cX10_feed 61 = .ok (.getfield 60, 3) := oq_180 (byt chX10_feed_3 13 rfl) (byt chX10_feed_3 14 rfl) (byt chX10_feed_3 15 rfl) rfl
theorem dX10_feed_64 : decode cX10_feed 64 = .ok (.ireturn, 1) := oq_172 (byt chX10_feed_4 0 rfl)
abbrev mX10_feed : MI := (yX10_feed, cX10_feed, 6, (some .int), noE)
theorem okX10_feed : cok mX10_feed 5 := ⟨tw443, tw1, by decide, by decide, by decide, by decide +kernel⟩
def fX10_feed (M : Mem) (a0 a1 a2 a3 a4 a5 : Int) : Option (Int × Mem) :=
  if M.2.1 a0 = 9 then if M.2.1 (M.1 a0 0) = 6 then if 580 < M.1 (M.1 a0 0) 1 then (some ((-1), M)) else ((fX6_put M (M.1 a0 0) a1).bind fun r4 => if r4.2.1 a0 = 9 then if r4.2.1 (r4.1 a0 0) = 6 then (fX6_put r4 (r4.1 a0 0) a2).bind fun r7 => if r7.2.1 a0 = 9 then if r7.2.1 (r7.1 a0 0) = 6 then (fX6_put r7 (r7.1 a0 0) a3).bind fun r11 => if r11.2.1 a0 = 9 then if r11.2.1 (r11.1 a0 0) = 6 then (fX6_put r11 (r11.1 a0 0) a4).bind fun r15 => if r15.2.1 a0 = 9 then if r15.2.1 (r15.1 a0 0) = 6 then (fX6_put r15 (r15.1 a0 0) a5).bind fun r19 => if r19.2.1 a0 = 9 then if r19.2.1 (r19.1 a0 0) = 6 then some (r19.1 (r19.1 a0 0) 1, r19) else none else none else none else none else none else none else none else none else none else none) else none else none
set_option maxRecDepth 100000 in
set_option maxHeartbeats 4000000 in
theorem kX10_feed (d : Nat) (hd : 1 ≤ d) (M : Mem) (a0 a1 a2 a3 a4 a5 : Int) : Ct mX10_feed d 0 0 [pA a0, pI a1, pI a2, pI a3, pI a4, pI a5] M dIM (fX10_feed M a0 a1 a2 a3 a4 a5) := by
  obtain ⟨d, rfl⟩ : ∃ k, d = k + 1 := ⟨d - 1, by omega⟩
  refine Ct.of 0 (fun _ _ _ => trivial) (by decide +kernel) rfl ?_
  unfold fX10_feed
  refine v_aload_n dX10_feed_0 rfl ?_
  refine v_if (fun h1 => ?_)
  refine v_get (v := pA (M.1 a0 0)) 9 0 rfl inX10 (by decide) tw421 dX10_feed_1 h1 rfl ?_
  refine v_if (fun h2 => ?_)
  refine v_get (v := pI (M.1 (M.1 a0 0) 1)) 6 1 rfl inX6 (by decide) tw207 dX10_feed_4 h2 rfl ?_
  refine v_sipush dX10_feed_7 (by decide) ?_
  refine v_icmp_le (tgt := 15) dX10_feed_10 (by decide) (fun c3 => ?_) (fun c3 => ?_)
  · refine v_iconst dX10_feed_13 (by decide) ?_
    exact v_ireturn dX10_feed_14 rfl rfl
  · refine v_aload_n dX10_feed_15 rfl ?_
    refine v_get (v := pA (M.1 a0 0)) 9 0 rfl inX10 (by decide) tw421 dX10_feed_16 h1 rfl ?_
    refine v_iload_n dX10_feed_19 rfl ?_
    refine v_cV (mi := mX10_feed) (c0 := 0) (c1 := 0) (As := [pI a1]) (st := []) (kX6_put d (by omega) _ _ _) rfl h2 rfl okX6_put (Or.inl tw444) tw445 tw446 rfl (Nat.le_of_ble_eq_true rfl) dX10_feed_20 (fun r4 => []) (fun r4 => r4) (fun _ => rfl) (fun _ => rfl) (fun r4 h5 => ?_) rfl
    refine v_aload_n dX10_feed_23 rfl ?_
    refine v_if (fun h6 => ?_)
    refine v_get (v := pA (r4.1 a0 0)) 9 0 rfl inX10 (by decide) tw421 dX10_feed_24 h6 rfl ?_
    refine v_iload_n dX10_feed_27 rfl ?_
    refine v_if (fun h9 => ?_)
    refine v_cV (mi := mX10_feed) (c0 := 0) (c1 := 0) (As := [pI a2]) (st := []) (kX6_put d (by omega) _ _ _) rfl h9 rfl okX6_put (Or.inl tw444) tw445 tw446 rfl (Nat.le_of_ble_eq_true rfl) dX10_feed_28 (fun r7 => []) (fun r7 => r7) (fun _ => rfl) (fun _ => rfl) (fun r7 h8 => ?_) rfl
    refine v_aload_n dX10_feed_31 rfl ?_
    refine v_if (fun h10 => ?_)
    refine v_get (v := pA (r7.1 a0 0)) 9 0 rfl inX10 (by decide) tw421 dX10_feed_32 h10 rfl ?_
    refine v_iload_n dX10_feed_35 rfl ?_
    refine v_if (fun h13 => ?_)
    refine v_cV (mi := mX10_feed) (c0 := 0) (c1 := 0) (As := [pI a3]) (st := []) (kX6_put d (by omega) _ _ _) rfl h13 rfl okX6_put (Or.inl tw444) tw445 tw446 rfl (Nat.le_of_ble_eq_true rfl) dX10_feed_36 (fun r11 => []) (fun r11 => r11) (fun _ => rfl) (fun _ => rfl) (fun r11 h12 => ?_) rfl
    refine v_aload_n dX10_feed_39 rfl ?_
    refine v_if (fun h14 => ?_)
    refine v_get (v := pA (r11.1 a0 0)) 9 0 rfl inX10 (by decide) tw421 dX10_feed_40 h14 rfl ?_
    refine v_iload dX10_feed_43 rfl ?_
    refine v_if (fun h17 => ?_)
    refine v_cV (mi := mX10_feed) (c0 := 0) (c1 := 0) (As := [pI a4]) (st := []) (kX6_put d (by omega) _ _ _) rfl h17 rfl okX6_put (Or.inl tw444) tw445 tw446 rfl (Nat.le_of_ble_eq_true rfl) dX10_feed_45 (fun r15 => []) (fun r15 => r15) (fun _ => rfl) (fun _ => rfl) (fun r15 h16 => ?_) rfl
    refine v_aload_n dX10_feed_48 rfl ?_
    refine v_if (fun h18 => ?_)
    refine v_get (v := pA (r15.1 a0 0)) 9 0 rfl inX10 (by decide) tw421 dX10_feed_49 h18 rfl ?_
    refine v_iload dX10_feed_52 rfl ?_
    refine v_if (fun h21 => ?_)
    refine v_cV (mi := mX10_feed) (c0 := 0) (c1 := 0) (As := [pI a5]) (st := []) (kX6_put d (by omega) _ _ _) rfl h21 rfl okX6_put (Or.inl tw444) tw445 tw446 rfl (Nat.le_of_ble_eq_true rfl) dX10_feed_54 (fun r19 => []) (fun r19 => r19) (fun _ => rfl) (fun _ => rfl) (fun r19 h20 => ?_) rfl
    refine v_aload_n dX10_feed_57 rfl ?_
    refine v_if (fun h22 => ?_)
    refine v_get (v := pA (r19.1 a0 0)) 9 0 rfl inX10 (by decide) tw421 dX10_feed_58 h22 rfl ?_
    refine v_if (fun h23 => ?_)
    refine v_get (v := pI (r19.1 (r19.1 a0 0) 1)) 6 1 rfl inX6 (by decide) tw207 dX10_feed_61 h23 rfl ?_
    exact v_ireturn dX10_feed_64 rfl rfl
theorem chX10_end_0 : (cX10_end.data.toList.drop 0).take 16 = [27, 155, 0, 14, 27, 42, 180, 0, 12, 180, 0, 60, 164, 0, 5, 2] := by decide +kernel
theorem chX10_end_1 : (cX10_end.data.toList.drop 16).take 16 = [172, 42, 180, 0, 12, 27, 181, 0, 60, 27, 172] := by decide +kernel
theorem dX10_end_0 : decode cX10_end 0 = .ok (.iload_n 1, 1) := oq_27 (byt chX10_end_0 0 rfl)
theorem dX10_end_1 : decode cX10_end 1 = .ok (.ifCond .lt 14, 3) := oq_155 (byt chX10_end_0 1 rfl) (byt chX10_end_0 2 rfl) (byt chX10_end_0 3 rfl) (by decide +kernel)
theorem dX10_end_4 : decode cX10_end 4 = .ok (.iload_n 1, 1) := oq_27 (byt chX10_end_0 4 rfl)
theorem dX10_end_5 : decode cX10_end 5 = .ok (.aload_n 0, 1) := oq_42 (byt chX10_end_0 5 rfl)
theorem dX10_end_6 : decode cX10_end 6 = .ok (.getfield 12, 3) := oq_180 (byt chX10_end_0 6 rfl) (byt chX10_end_0 7 rfl) (byt chX10_end_0 8 rfl) rfl
theorem dX10_end_9 : decode cX10_end 9 = .ok (.getfield 60, 3) := oq_180 (byt chX10_end_0 9 rfl) (byt chX10_end_0 10 rfl) (byt chX10_end_0 11 rfl) rfl
theorem dX10_end_12 : decode cX10_end 12 = .ok (.if_icmp .le 5, 3) := oq_164 (byt chX10_end_0 12 rfl) (byt chX10_end_0 13 rfl) (byt chX10_end_0 14 rfl) (by decide +kernel)
theorem dX10_end_15 : decode cX10_end 15 = .ok (.iconst (-1), 1) := oq_2 (byt chX10_end_0 15 rfl)
theorem dX10_end_16 : decode cX10_end 16 = .ok (.ireturn, 1) := oq_172 (byt chX10_end_1 0 rfl)
theorem dX10_end_17 : decode cX10_end 17 = .ok (.aload_n 0, 1) := oq_42 (byt chX10_end_1 1 rfl)
theorem dX10_end_18 : decode cX10_end 18 = .ok (.getfield 12, 3) := oq_180 (byt chX10_end_1 2 rfl) (byt chX10_end_1 3 rfl) (byt chX10_end_1 4 rfl) rfl
theorem dX10_end_21 : decode cX10_end 21 = .ok (.iload_n 1, 1) := oq_27 (byt chX10_end_1 5 rfl)
theorem dX10_end_22 : decode cX10_end 22 = .ok (.putfield 60, 3) := oq_181 (byt chX10_end_1 6 rfl) (byt chX10_end_1 7 rfl) (byt chX10_end_1 8 rfl) rfl
theorem dX10_end_25 : decode cX10_end 25 = .ok (.iload_n 1, 1) := oq_27 (byt chX10_end_1 9 rfl)
theorem dX10_end_26 : decode cX10_end 26 = .ok (.ireturn, 1) := oq_172 (byt chX10_end_1 10 rfl)
abbrev mX10_end : MI := (yX10_end, cX10_end, 2, (some .int), noE)
theorem okX10_end : cok mX10_end 1 := ⟨tw451, tw1, by decide, by decide, by decide, by decide +kernel⟩
def fX10_end (M : Mem) (a0 a1 : Int) : Option (Int × Mem) :=
  if a1 < 0 then (some ((-1), M)) else (if M.2.1 a0 = 9 then if M.2.1 (M.1 a0 0) = 6 then if M.1 (M.1 a0 0) 1 < a1 then (some ((-1), M)) else (bM (mst M (M.1 a0 0) 1 a1) fun M5 => some (a1, M5)) else none else none)
set_option maxRecDepth 100000 in
set_option maxHeartbeats 4000000 in
theorem kX10_end (d : Nat) (hd : 0 ≤ d) (M : Mem) (a0 a1 : Int) : Ct mX10_end d 0 0 [pA a0, pI a1] M dIM (fX10_end M a0 a1) := by
  refine Ct.of 0 (fun _ _ _ => trivial) (by decide +kernel) rfl ?_
  unfold fX10_end
  refine v_iload_n dX10_end_0 rfl ?_
  refine v_if_lt (tgt := 15) dX10_end_1 (by decide) (fun c1 => ?_) (fun c1 => ?_)
  · refine v_iconst dX10_end_15 (by decide) ?_
    exact v_ireturn dX10_end_16 rfl rfl
  · refine v_iload_n dX10_end_4 rfl ?_
    refine v_aload_n dX10_end_5 rfl ?_
    refine v_if (fun h2 => ?_)
    refine v_get (v := pA (M.1 a0 0)) 9 0 rfl inX10 (by decide) tw421 dX10_end_6 h2 rfl ?_
    refine v_if (fun h3 => ?_)
    refine v_get (v := pI (M.1 (M.1 a0 0) 1)) 6 1 rfl inX6 (by decide) tw207 dX10_end_9 h3 rfl ?_
    refine v_icmp_le (tgt := 17) dX10_end_12 (by decide) (fun c4 => ?_) (fun c4 => ?_)
    · refine v_iconst dX10_end_15 (by decide) ?_
      exact v_ireturn dX10_end_16 rfl rfl
    · refine v_aload_n dX10_end_17 rfl ?_
      refine v_get (v := pA (M.1 a0 0)) 9 0 rfl inX10 (by decide) tw421 dX10_end_18 h2 rfl ?_
      refine v_iload_n dX10_end_21 rfl ?_
      refine v_put (x := a1) 6 1 rfl inX6 (by decide) tw207 (Or.inl rfl) rfl dX10_end_22 h3 rfl id ?_
      refine v_bM (fun M5 e6 => ?_)
      refine v_iload_n dX10_end_25 rfl ?_
      exact v_ireturn dX10_end_26 rfl rfl
