theorem chX11_hasSight_0 : (cX11_hasSight.data.toList.drop 0).take 16 = [42, 27, 181, 1, 176, 42, 6, 27, 182, 1, 8, 172] := by decide +kernel
theorem dX11_hasSight_0 : decode cX11_hasSight 0 = .ok (.aload_n 0, 1) := oq_42 (byt chX11_hasSight_0 0 rfl)
theorem dX11_hasSight_1 : decode cX11_hasSight 1 = .ok (.iload_n 1, 1) := oq_27 (byt chX11_hasSight_0 1 rfl)
theorem dX11_hasSight_2 : decode cX11_hasSight 2 = .ok (.putfield 432, 3) := oq_181 (byt chX11_hasSight_0 2 rfl) (byt chX11_hasSight_0 3 rfl) (byt chX11_hasSight_0 4 rfl) rfl
theorem dX11_hasSight_5 : decode cX11_hasSight 5 = .ok (.aload_n 0, 1) := oq_42 (byt chX11_hasSight_0 5 rfl)
theorem dX11_hasSight_6 : decode cX11_hasSight 6 = .ok (.iconst 3, 1) := oq_6 (byt chX11_hasSight_0 6 rfl)
theorem dX11_hasSight_7 : decode cX11_hasSight 7 = .ok (.iload_n 1, 1) := oq_27 (byt chX11_hasSight_0 7 rfl)
theorem dX11_hasSight_8 : decode cX11_hasSight 8 = .ok (.invokevirtual 264, 3) := oq_182 (byt chX11_hasSight_0 8 rfl) (byt chX11_hasSight_0 9 rfl) (byt chX11_hasSight_0 10 rfl) rfl
theorem dX11_hasSight_11 : decode cX11_hasSight 11 = .ok (.ireturn, 1) := oq_172 (byt chX11_hasSight_0 11 rfl)
abbrev mX11_hasSight : MI := (yX11_hasSight, cX11_hasSight, 2, (some .boolean), noE)
theorem okX11_hasSight : cok mX11_hasSight 1 := ⟨tw1710, tw11, by decide, by decide, by decide, by decide +kernel⟩
def fX11_hasSight (M : Mem) (a0 a1 : Int) : Option (Int × Mem) :=
  if M.2.1 a0 = 10 then bM (mst M a0 48 a1) fun M2 => (fX11_is M2 a0 3 a1).bind fun r4 => if r4 = 0 ∨ r4 = 1 then some (r4, M2) else none else none
set_option maxRecDepth 100000 in
set_option maxHeartbeats 4000000 in
theorem kX11_hasSight (d : Nat) (hd : 2 ≤ d) (M : Mem) (a0 a1 : Int) : Ct mX11_hasSight d 0 0 [pA a0, pI a1] M dIM (fX11_hasSight M a0 a1) := by
  obtain ⟨d, rfl⟩ : ∃ k, d = k + 1 := ⟨d - 1, by omega⟩
  refine Ct.of 0 (fun _ _ _ => trivial) (by decide +kernel) rfl ?_
  unfold fX11_hasSight
  refine v_aload_n dX11_hasSight_0 rfl ?_
  refine v_iload_n dX11_hasSight_1 rfl ?_
  refine v_if (fun h1 => ?_)
  refine v_put (x := a1) 10 48 rfl inX11 (by decide) tw1241 (Or.inl rfl) rfl dX11_hasSight_2 h1 rfl id ?_
  refine v_bM (fun M2 e3 => ?_)
  refine v_aload_n dX11_hasSight_5 rfl ?_
  refine v_iconst dX11_hasSight_6 (by decide) ?_
  refine v_iload_n dX11_hasSight_7 rfl ?_
  refine v_cV (mi := mX11_hasSight) (c0 := 0) (c1 := 0) (As := [pI 3, pI a1]) (st := []) (kX11_is d (by omega) _ _ _ _) rfl (by rw [e3]; exact h1) rfl okX11_is (Or.inl tw1367) tw1369 tp28 rfl (Nat.le_of_ble_eq_true rfl) dX11_hasSight_8 (fun r4 => [pI r4]) (fun r4 => M2) (fun _ => rfl) (fun _ => rfl) (fun r4 h5 => ?_) rfl
  refine v_if (fun h6 => ?_)
  exact v_breturn dX11_hasSight_11 rfl h6 rfl
theorem chX11_sight_0 : (cX11_sight.data.toList.drop 0).take 16 = [42, 3, 181, 0, 90, 42, 27, 182, 1, 179, 154, 0, 6, 16, 254, 172] := by decide +kernel
theorem chX11_sight_1 : (cX11_sight.data.toList.drop 16).take 16 = [28, 16, 10, 16, 9, 42, 182, 1, 182, 96, 184, 0, 98, 153, 0, 13] := by decide +kernel
theorem chX11_sight_2 : (cX11_sight.data.toList.drop 32).take 16 = [42, 28, 16, 10, 100, 3, 182, 1, 185, 172, 28, 16, 20, 16, 19, 42] := by decide +kernel
theorem chX11_sight_3 : (cX11_sight.data.toList.drop 48).take 16 = [182, 1, 182, 96, 184, 0, 98, 153, 0, 13, 42, 28, 16, 20, 100, 4] := by decide +kernel
theorem chX11_sight_4 : (cX11_sight.data.toList.drop 64).take 16 = [182, 1, 185, 172, 28, 154, 0, 10, 42, 182, 1, 182, 167, 0, 35, 28] := by decide +kernel
theorem chX11_sight_5 : (cX11_sight.data.toList.drop 80).take 16 = [16, 30, 16, 59, 184, 0, 98, 153, 0, 22, 42, 28, 16, 30, 100, 8] := by decide +kernel
theorem chX11_sight_6 : (cX11_sight.data.toList.drop 96).take 16 = [108, 28, 16, 30, 100, 8, 112, 182, 1, 188, 167, 0, 5, 16, 254, 172] := by decide +kernel
theorem dX11_sight_0 : decode cX11_sight 0 = .ok (.aload_n 0, 1) := oq_42 (byt chX11_sight_0 0 rfl)
theorem dX11_sight_1 : decode cX11_sight 1 = .ok (.iconst 0, 1) := oq_3 (byt chX11_sight_0 1 rfl)
theorem dX11_sight_2 : decode cX11_sight 2 = .ok (.putfield 90, 3) := oq_181 (byt chX11_sight_0 2 rfl) (byt chX11_sight_0 3 rfl) (byt chX11_sight_0 4 rfl) rfl
theorem dX11_sight_5 : decode cX11_sight 5 = .ok (.aload_n 0, 1) := oq_42 (byt chX11_sight_0 5 rfl)
theorem dX11_sight_6 : decode cX11_sight 6 = .ok (.iload_n 1, 1) := oq_27 (byt chX11_sight_0 6 rfl)
theorem dX11_sight_7 : decode cX11_sight 7 = .ok (.invokevirtual 435, 3) := oq_182 (byt chX11_sight_0 7 rfl) (byt chX11_sight_0 8 rfl) (byt chX11_sight_0 9 rfl) rfl
theorem dX11_sight_10 : decode cX11_sight 10 = .ok (.ifCond .ne 6, 3) := oq_154 (byt chX11_sight_0 10 rfl) (byt chX11_sight_0 11 rfl) (byt chX11_sight_0 12 rfl) (by decide +kernel)
theorem dX11_sight_13 : decode cX11_sight 13 = .ok (.bipush (-2), 2) := oq_16 (byt chX11_sight_0 13 rfl) (byt chX11_sight_0 14 rfl) rfl
theorem dX11_sight_15 : decode cX11_sight 15 = .ok (.ireturn, 1) := oq_172 (byt chX11_sight_0 15 rfl)
theorem dX11_sight_16 : decode cX11_sight 16 = .ok (.iload_n 2, 1) := oq_28 (byt chX11_sight_1 0 rfl)
theorem dX11_sight_17 : decode cX11_sight 17 = .ok (.bipush 10, 2) := oq_16 (byt chX11_sight_1 1 rfl) (byt chX11_sight_1 2 rfl) rfl
theorem dX11_sight_19 : decode cX11_sight 19 = .ok (.bipush 9, 2) := oq_16 (byt chX11_sight_1 3 rfl) (byt chX11_sight_1 4 rfl) rfl
theorem dX11_sight_21 : decode cX11_sight 21 = .ok (.aload_n 0, 1) := oq_42 (byt chX11_sight_1 5 rfl)
theorem dX11_sight_22 : decode cX11_sight 22 = .ok (.invokevirtual 438, 3) := oq_182 (byt chX11_sight_1 6 rfl) (byt chX11_sight_1 7 rfl) (byt chX11_sight_1 8 rfl) rfl
theorem dX11_sight_25 : decode cX11_sight 25 = .ok (.iadd, 1) := oq_96 (byt chX11_sight_1 9 rfl)
theorem dX11_sight_26 : decode cX11_sight 26 = .ok (.invokestatic 98, 3) := oq_184 (byt chX11_sight_1 10 rfl) (byt chX11_sight_1 11 rfl) (byt chX11_sight_1 12 rfl) rfl
theorem dX11_sight_29 : decode cX11_sight 29 = .ok (.ifCond .eq 13, 3) := oq_153 (byt chX11_sight_1 13 rfl) (byt chX11_sight_1 14 rfl) (byt chX11_sight_1 15 rfl) (by decide +kernel)
theorem dX11_sight_32 : decode cX11_sight 32 = .ok (.aload_n 0, 1) := oq_42 (byt chX11_sight_2 0 rfl)
theorem dX11_sight_33 : decode cX11_sight 33 = .ok (.iload_n 2, 1) := oq_28 (byt chX11_sight_2 1 rfl)
theorem dX11_sight_34 : decode cX11_sight 34 = .ok (.bipush 10, 2) := oq_16 (byt chX11_sight_2 2 rfl) (byt chX11_sight_2 3 rfl) rfl
theorem dX11_sight_36 : decode cX11_sight 36 = .ok (.isub, 1) := oq_100 (byt chX11_sight_2 4 rfl)
theorem dX11_sight_37 : decode cX11_sight 37 = .ok (.iconst 0, 1) := oq_3 (byt chX11_sight_2 5 rfl)
theorem dX11_sight_38 : decode cX11_sight 38 = .ok (.invokevirtual 441, 3) := oq_182 (byt chX11_sight_2 6 rfl) (byt chX11_sight_2 7 rfl) (byt chX11_sight_2 8 rfl) rfl
theorem dX11_sight_41 : decode cX11_sight 41 = .ok (.ireturn, 1) := oq_172 (byt chX11_sight_2 9 rfl)
theorem dX11_sight_42 : decode cX11_sight 42 = .ok (.iload_n 2, 1) := oq_28 (byt chX11_sight_2 10 rfl)
theorem dX11_sight_43 : decode cX11_sight 43 = .ok (.bipush 20, 2) := oq_16 (byt chX11_sight_2 11 rfl) (byt chX11_sight_2 12 rfl) rfl
theorem dX11_sight_45 : decode cX11_sight 45 = .ok (.bipush 19, 2) := oq_16 (byt chX11_sight_2 13 rfl) (byt chX11_sight_2 14 rfl) rfl
theorem dX11_sight_47 : decode cX11_sight 47 = .ok (.aload_n 0, 1) := oq_42 (byt chX11_sight_2 15 rfl)
theorem dX11_sight_48 : decode cX11_sight 48 = .ok (.invokevirtual 438, 3) := oq_182 (byt chX11_sight_3 0 rfl) (byt chX11_sight_3 1 rfl) (byt chX11_sight_3 2 rfl) rfl
theorem dX11_sight_51 : decode cX11_sight 51 = .ok (.iadd, 1) := oq_96 (byt chX11_sight_3 3 rfl)
theorem dX11_sight_52 : decode cX11_sight 52 = .ok (.invokestatic 98, 3) := oq_184 (byt chX11_sight_3 4 rfl) (byt chX11_sight_3 5 rfl) (byt chX11_sight_3 6 rfl) rfl
theorem dX11_sight_55 : decode cX11_sight 55 = .ok (.ifCond .eq 13, 3) := oq_153 (byt chX11_sight_3 7 rfl) (byt chX11_sight_3 8 rfl) (byt chX11_sight_3 9 rfl) (by decide +kernel)
theorem dX11_sight_58 : decode cX11_sight 58 = .ok (.aload_n 0, 1) := oq_42 (byt chX11_sight_3 10 rfl)
theorem dX11_sight_59 : decode cX11_sight 59 = .ok (.iload_n 2, 1) := oq_28 (byt chX11_sight_3 11 rfl)
theorem dX11_sight_60 : decode cX11_sight 60 = .ok (.bipush 20, 2) := oq_16 (byt chX11_sight_3 12 rfl) (byt chX11_sight_3 13 rfl) rfl
theorem dX11_sight_62 : decode cX11_sight 62 = .ok (.isub, 1) := oq_100 (byt chX11_sight_3 14 rfl)
theorem dX11_sight_63 : decode cX11_sight 63 = .ok (.iconst 1, 1) := oq_4 (byt chX11_sight_3 15 rfl)
theorem dX11_sight_64 : decode cX11_sight 64 = .ok (.invokevirtual 441, 3) := oq_182 (byt chX11_sight_4 0 rfl) (byt chX11_sight_4 1 rfl) (byt chX11_sight_4 2 rfl) rfl
theorem dX11_sight_67 : decode cX11_sight 67 = .ok (.ireturn, 1) := oq_172 (byt chX11_sight_4 3 rfl)
theorem dX11_sight_68 : decode cX11_sight 68 = .ok (.iload_n 2, 1) := oq_28 (byt chX11_sight_4 4 rfl)
theorem dX11_sight_69 : decode cX11_sight 69 = .ok (.ifCond .ne 10, 3) := oq_154 (byt chX11_sight_4 5 rfl) (byt chX11_sight_4 6 rfl) (byt chX11_sight_4 7 rfl) (by decide +kernel)
theorem dX11_sight_72 : decode cX11_sight 72 = .ok (.aload_n 0, 1) := oq_42 (byt chX11_sight_4 8 rfl)
theorem dX11_sight_73 : decode cX11_sight 73 = .ok (.invokevirtual 438, 3) := oq_182 (byt chX11_sight_4 9 rfl) (byt chX11_sight_4 10 rfl) (byt chX11_sight_4 11 rfl) rfl
theorem dX11_sight_76 : decode cX11_sight 76 = .ok (.goto 35, 3) := oq_167 (byt chX11_sight_4 12 rfl) (byt chX11_sight_4 13 rfl) (byt chX11_sight_4 14 rfl) (by decide +kernel)
theorem dX11_sight_79 : decode cX11_sight 79 = .ok (.iload_n 2, 1) := oq_28 (byt chX11_sight_4 15 rfl)
theorem dX11_sight_80 : decode cX11_sight 80 = .ok (.bipush 30, 2) := oq_16 (byt chX11_sight_5 0 rfl) (byt chX11_sight_5 1 rfl) rfl
theorem dX11_sight_82 : decode cX11_sight 82 = .ok (.bipush 59, 2) := oq_16 (byt chX11_sight_5 2 rfl) (byt chX11_sight_5 3 rfl) rfl
theorem dX11_sight_84 : decode cX11_sight 84 = .ok (.invokestatic 98, 3) := oq_184 (byt chX11_sight_5 4 rfl) (byt chX11_sight_5 5 rfl) (byt chX11_sight_5 6 rfl) rfl
theorem dX11_sight_87 : decode cX11_sight 87 = .ok (.ifCond .eq 22, 3) := oq_153 (byt chX11_sight_5 7 rfl) (byt chX11_sight_5 8 rfl) (byt chX11_sight_5 9 rfl) (by decide +kernel)
theorem dX11_sight_90 : decode cX11_sight 90 = .ok (.aload_n 0, 1) := oq_42 (byt chX11_sight_5 10 rfl)
theorem dX11_sight_91 : decode cX11_sight 91 = .ok (.iload_n 2, 1) := oq_28 (byt chX11_sight_5 11 rfl)
theorem dX11_sight_92 : decode cX11_sight 92 = .ok (.bipush 30, 2) := oq_16 (byt chX11_sight_5 12 rfl) (byt chX11_sight_5 13 rfl) rfl
theorem dX11_sight_94 : decode cX11_sight 94 = .ok (.isub, 1) := oq_100 (byt chX11_sight_5 14 rfl)
theorem dX11_sight_95 : decode cX11_sight 95 = .ok (.iconst 5, 1) := oq_8 (byt chX11_sight_5 15 rfl)
theorem dX11_sight_96 : decode cX11_sight 96 = .ok (.idiv, 1) := oq_108 (byt chX11_sight_6 0 rfl)
theorem dX11_sight_97 : decode cX11_sight 97 = .ok (.iload_n 2, 1) := oq_28 (byt chX11_sight_6 1 rfl)
theorem dX11_sight_98 : decode cX11_sight 98 = .ok (.bipush 30, 2) := oq_16 (byt chX11_sight_6 2 rfl) (byt chX11_sight_6 3 rfl) rfl
theorem dX11_sight_100 : decode cX11_sight 100 = .ok (.isub, 1) := oq_100 (byt chX11_sight_6 4 rfl)
theorem dX11_sight_101 : decode cX11_sight 101 = .ok (.iconst 5, 1) := oq_8 (byt chX11_sight_6 5 rfl)
theorem dX11_sight_102 : decode cX11_sight 102 = .ok (.irem, 1) := oq_112 (byt chX11_sight_6 6 rfl)
theorem dX11_sight_103 : decode cX11_sight 103 = .ok (.invokevirtual 444, 3) := oq_182 (byt chX11_sight_6 7 rfl) (byt chX11_sight_6 8 rfl) (byt chX11_sight_6 9 rfl) rfl
theorem dX11_sight_106 : decode cX11_sight 106 = .ok (.goto 5, 3) := oq_167 (byt chX11_sight_6 10 rfl) (byt chX11_sight_6 11 rfl) (byt chX11_sight_6 12 rfl) (by decide +kernel)
theorem dX11_sight_109 : decode cX11_sight 109 = .ok (.bipush (-2), 2) := oq_16 (byt chX11_sight_6 13 rfl) (byt chX11_sight_6 14 rfl) rfl
theorem dX11_sight_111 : decode cX11_sight 111 = .ok (.ireturn, 1) := oq_172 (byt chX11_sight_6 15 rfl)
abbrev mX11_sight : MI := (yX11_sight, cX11_sight, 3, (some .int), noE)
theorem okX11_sight : cok mX11_sight 2 := ⟨tw1706, tw11, by decide, by decide, by decide, by decide +kernel⟩
def fX11_sight (M : Mem) (a0 a1 a2 : Int) : Option (Int × Mem) :=
  if M.2.1 a0 = 10 then bM (mst M a0 0 0) fun M2 => (fX11_hasSight M2 a0 a1).bind fun r4 => if r4.1 = 0 then (some ((-2), r4.2)) else (if r4.2.2.1 a0 = 10 then (fX11_gifts r4.2 a0).bind fun r7 => (fX11_in r4.2 a2 10 (w32 (9 + r7))).bind fun r10 => if r10 = 0 then ((fX11_gifts r4.2 a0).bind fun r13 => (fX11_in r4.2 a2 20 (w32 (19 + r13))).bind fun r15 => if r15 = 0 then (if a2 = 0 then ((fX11_gifts r4.2 a0).bind fun r19 => some (r19, r4.2)) else ((fX11_in r4.2 a2 30 59).bind fun r21 => if r21 = 0 then (some ((-2), r4.2)) else ((fX11_left r4.2 a0 (w32 ((w32 (a2 - 30)).tdiv 5)) ((w32 (a2 - 30)).tmod 5)).bind fun r24 => some (r24, r4.2)))) else ((fX11_giftOf r4.2 a0 (w32 (a2 - 20)) 1).bind fun r26 => some (r26, r4.2))) else ((fX11_giftOf r4.2 a0 (w32 (a2 - 10)) 0).bind fun r28 => some (r28, r4.2)) else none) else none
set_option maxRecDepth 100000 in
set_option maxHeartbeats 4000000 in
theorem kX11_sight (d : Nat) (hd : 3 ≤ d) (M : Mem) (a0 a1 a2 : Int) : Ct mX11_sight d 0 0 [pA a0, pI a1, pI a2] M dIM (fX11_sight M a0 a1 a2) := by
  obtain ⟨d, rfl⟩ : ∃ k, d = k + 1 := ⟨d - 1, by omega⟩
  refine Ct.of 0 (fun _ _ _ => trivial) (by decide +kernel) rfl ?_
  unfold fX11_sight
  refine v_aload_n dX11_sight_0 rfl ?_
  refine v_iconst dX11_sight_1 (by decide) ?_
  refine v_if (fun h1 => ?_)
  refine v_put (x := 0) 10 0 rfl inX11 (by decide) tw1193 (Or.inl rfl) rfl dX11_sight_2 h1 rfl id ?_
  refine v_bM (fun M2 e3 => ?_)
  refine v_aload_n dX11_sight_5 rfl ?_
  refine v_iload_n dX11_sight_6 rfl ?_
  refine v_cV (mi := mX11_sight) (c0 := 0) (c1 := 0) (As := [pI a1]) (st := []) (kX11_hasSight d (by omega) _ _ _) rfl (by rw [e3]; exact h1) rfl okX11_hasSight (Or.inl tw1707) tw1709 tp90 rfl (Nat.le_of_ble_eq_true rfl) dX11_sight_7 (fun r4 => [pI r4.1]) (fun r4 => r4.2) (fun _ => rfl) (fun _ => rfl) (fun r4 h5 => ?_) rfl
  refine v_if_ne (tgt := 16) dX11_sight_10 (by decide) (fun c6 => ?_) (fun c6 => ?_)
  · refine v_bipush dX11_sight_13 (by decide) ?_
    exact v_ireturn dX11_sight_15 rfl rfl
  · refine v_iload_n dX11_sight_16 rfl ?_
    refine v_bipush dX11_sight_17 (by decide) ?_
    refine v_bipush dX11_sight_19 (by decide) ?_
    refine v_aload_n dX11_sight_21 rfl ?_
    refine v_if (fun h9 => ?_)
    refine v_cV (mi := mX11_sight) (c0 := 0) (c1 := 0) (As := []) (st := [pI 9, pI 10, pI a2]) (kX11_gifts d (by omega) _ _) rfl h9 rfl okX11_gifts (Or.inl tw1711) tw1713 tp91 rfl (Nat.le_of_ble_eq_true rfl) dX11_sight_22 (fun r7 => [pI r7, pI 9, pI 10, pI a2]) (fun r7 => r4.2) (fun _ => rfl) (fun _ => rfl) (fun r7 h8 => ?_) rfl
    refine v_iadd dX11_sight_25 ?_
    refine v_cS (mi := mX11_sight) (c0 := 0) (c1 := 0) (As := [pI a2, pI 10, pI (w32 (9 + r7))]) (st := []) (kX11_in d (by omega) _ _ _ _) okX11_in (Or.inl tw1360) tw1361 rfl (Nat.le_of_ble_eq_true rfl) dX11_sight_26 (fun r10 => [pI r10]) (fun r10 => r4.2) (fun _ => rfl) (fun _ => rfl) (fun r10 h11 => ?_) rfl
    refine v_if_eq (tgt := 42) dX11_sight_29 (by decide) (fun c12 => ?_) (fun c12 => ?_)
    · refine v_iload_n dX11_sight_42 rfl ?_
      refine v_bipush dX11_sight_43 (by decide) ?_
      refine v_bipush dX11_sight_45 (by decide) ?_
      refine v_aload_n dX11_sight_47 rfl ?_
      refine v_cV (mi := mX11_sight) (c0 := 0) (c1 := 0) (As := []) (st := [pI 19, pI 20, pI a2]) (kX11_gifts d (by omega) _ _) rfl h9 rfl okX11_gifts (Or.inl tw1711) tw1713 tp91 rfl (Nat.le_of_ble_eq_true rfl) dX11_sight_48 (fun r13 => [pI r13, pI 19, pI 20, pI a2]) (fun r13 => r4.2) (fun _ => rfl) (fun _ => rfl) (fun r13 h14 => ?_) rfl
      refine v_iadd dX11_sight_51 ?_
      refine v_cS (mi := mX11_sight) (c0 := 0) (c1 := 0) (As := [pI a2, pI 20, pI (w32 (19 + r13))]) (st := []) (kX11_in d (by omega) _ _ _ _) okX11_in (Or.inl tw1360) tw1361 rfl (Nat.le_of_ble_eq_true rfl) dX11_sight_52 (fun r15 => [pI r15]) (fun r15 => r4.2) (fun _ => rfl) (fun _ => rfl) (fun r15 h16 => ?_) rfl
      refine v_if_eq (tgt := 68) dX11_sight_55 (by decide) (fun c17 => ?_) (fun c17 => ?_)
      · refine v_iload_n dX11_sight_68 rfl ?_
        refine v_if_ne (tgt := 79) dX11_sight_69 (by decide) (fun c18 => ?_) (fun c18 => ?_)
        · refine v_aload_n dX11_sight_72 rfl ?_
          refine v_cV (mi := mX11_sight) (c0 := 0) (c1 := 0) (As := []) (st := []) (kX11_gifts d (by omega) _ _) rfl h9 rfl okX11_gifts (Or.inl tw1711) tw1713 tp91 rfl (Nat.le_of_ble_eq_true rfl) dX11_sight_73 (fun r19 => [pI r19]) (fun r19 => r4.2) (fun _ => rfl) (fun _ => rfl) (fun r19 h20 => ?_) rfl
          refine v_goto (tgt := 111) dX11_sight_76 (by decide) ?_
          exact v_ireturn dX11_sight_111 rfl rfl
        · refine v_iload_n dX11_sight_79 rfl ?_
          refine v_bipush dX11_sight_80 (by decide) ?_
          refine v_bipush dX11_sight_82 (by decide) ?_
          refine v_cS (mi := mX11_sight) (c0 := 0) (c1 := 0) (As := [pI a2, pI 30, pI 59]) (st := []) (kX11_in d (by omega) _ _ _ _) okX11_in (Or.inl tw1360) tw1361 rfl (Nat.le_of_ble_eq_true rfl) dX11_sight_84 (fun r21 => [pI r21]) (fun r21 => r4.2) (fun _ => rfl) (fun _ => rfl) (fun r21 h22 => ?_) rfl
          refine v_if_eq (tgt := 109) dX11_sight_87 (by decide) (fun c23 => ?_) (fun c23 => ?_)
          · refine v_bipush dX11_sight_109 (by decide) ?_
            exact v_ireturn dX11_sight_111 rfl rfl
          · refine v_aload_n dX11_sight_90 rfl ?_
            refine v_iload_n dX11_sight_91 rfl ?_
            refine v_bipush dX11_sight_92 (by decide) ?_
            refine v_isub dX11_sight_94 ?_
            refine v_iconst dX11_sight_95 (by decide) ?_
            refine v_idiv (by decide) dX11_sight_96 ?_
            refine v_iload_n dX11_sight_97 rfl ?_
            refine v_bipush dX11_sight_98 (by decide) ?_
            refine v_isub dX11_sight_100 ?_
            refine v_iconst dX11_sight_101 (by decide) ?_
            refine v_irem (by decide) dX11_sight_102 ?_
            refine v_cV (mi := mX11_sight) (c0 := 0) (c1 := 0) (As := [pI (w32 ((w32 (a2 - 30)).tdiv 5)), pI ((w32 (a2 - 30)).tmod 5)]) (st := []) (kX11_left d (by omega) _ _ _ _) rfl h9 rfl okX11_left (Or.inl tw1719) tw1721 tp93 rfl (Nat.le_of_ble_eq_true rfl) dX11_sight_103 (fun r24 => [pI r24]) (fun r24 => r4.2) (fun _ => rfl) (fun _ => rfl) (fun r24 h25 => ?_) rfl
            refine v_goto (tgt := 111) dX11_sight_106 (by decide) ?_
            exact v_ireturn dX11_sight_111 rfl rfl
      · refine v_aload_n dX11_sight_58 rfl ?_
        refine v_iload_n dX11_sight_59 rfl ?_
        refine v_bipush dX11_sight_60 (by decide) ?_
        refine v_isub dX11_sight_62 ?_
        refine v_iconst dX11_sight_63 (by decide) ?_
        refine v_cV (mi := mX11_sight) (c0 := 0) (c1 := 0) (As := [pI (w32 (a2 - 20)), pI 1]) (st := []) (kX11_giftOf d (by omega) _ _ _ _) rfl h9 rfl okX11_giftOf (Or.inl tw1715) tw1717 tp92 rfl (Nat.le_of_ble_eq_true rfl) dX11_sight_64 (fun r26 => [pI r26]) (fun r26 => r4.2) (fun _ => rfl) (fun _ => rfl) (fun r26 h27 => ?_) rfl
        exact v_ireturn dX11_sight_67 rfl rfl
    · refine v_aload_n dX11_sight_32 rfl ?_
      refine v_iload_n dX11_sight_33 rfl ?_
      refine v_bipush dX11_sight_34 (by decide) ?_
      refine v_isub dX11_sight_36 ?_
      refine v_iconst dX11_sight_37 (by decide) ?_
      refine v_cV (mi := mX11_sight) (c0 := 0) (c1 := 0) (As := [pI (w32 (a2 - 10)), pI 0]) (st := []) (kX11_giftOf d (by omega) _ _ _ _) rfl h9 rfl okX11_giftOf (Or.inl tw1715) tw1717 tp92 rfl (Nat.le_of_ble_eq_true rfl) dX11_sight_38 (fun r28 => [pI r28]) (fun r28 => r4.2) (fun _ => rfl) (fun _ => rfl) (fun r28 h29 => ?_) rfl
      exact v_ireturn dX11_sight_41 rfl rfl
theorem chX11_handOf_0 : (cX11_handOf.data.toList.drop 0).take 16 = [26, 5, 27, 104, 122, 6, 126, 172] := by decide +kernel
theorem dX11_handOf_0 : decode cX11_handOf 0 = .ok (.iload_n 0, 1) := oq_26 (byt chX11_handOf_0 0 rfl)
theorem dX11_handOf_1 : decode cX11_handOf 1 = .ok (.iconst 2, 1) := oq_5 (byt chX11_handOf_0 1 rfl)
theorem dX11_handOf_2 : decode cX11_handOf 2 = .ok (.iload_n 1, 1) := oq_27 (byt chX11_handOf_0 2 rfl)
theorem dX11_handOf_3 : decode cX11_handOf 3 = .ok (.imul, 1) := oq_104 (byt chX11_handOf_0 3 rfl)
theorem dX11_handOf_4 : decode cX11_handOf 4 = .ok (.ishr, 1) := oq_122 (byt chX11_handOf_0 4 rfl)
theorem dX11_handOf_5 : decode cX11_handOf 5 = .ok (.iconst 3, 1) := oq_6 (byt chX11_handOf_0 5 rfl)
theorem dX11_handOf_6 : decode cX11_handOf 6 = .ok (.iand, 1) := oq_126 (byt chX11_handOf_0 6 rfl)
theorem dX11_handOf_7 : decode cX11_handOf 7 = .ok (.ireturn, 1) := oq_172 (byt chX11_handOf_0 7 rfl)
abbrev mX11_handOf : MI := (yX11_handOf, cX11_handOf, 2, (some .int), noE)
theorem okX11_handOf : cok mX11_handOf 2 := ⟨tw1733, tw11, by decide, by decide, by decide, by decide +kernel⟩
def fX11_handOf (M : Mem) (a0 a1 : Int) : Option Int :=
  some (bAnd (bShr a0 (w32 (2 * a1))) 3)
set_option maxRecDepth 100000 in
set_option maxHeartbeats 4000000 in
theorem kX11_handOf (d : Nat) (hd : 0 ≤ d) (M : Mem) (a0 a1 : Int) : Ct mX11_handOf d 0 0 [pI a0, pI a1] M (dI M) (fX11_handOf M a0 a1) := by
  refine Ct.of 0 (fun _ _ _ => trivial) (by decide +kernel) rfl ?_
  unfold fX11_handOf
  refine v_iload_n dX11_handOf_0 rfl ?_
  refine v_iconst dX11_handOf_1 (by decide) ?_
  refine v_iload_n dX11_handOf_2 rfl ?_
  refine v_imul dX11_handOf_3 ?_
  refine v_ishr dX11_handOf_4 ?_
  refine v_iconst dX11_handOf_5 (by decide) ?_
  refine v_iand dX11_handOf_6 ?_
  exact v_ireturn dX11_handOf_7 rfl rfl
theorem chX11_canBe_0 : (cX11_canBe.data.toList.drop 0).take 16 = [3, 61, 28, 42, 182, 1, 182, 162, 0, 136, 27, 28, 184, 1, 191, 62] := by decide +kernel
theorem chX11_canBe_1 : (cX11_canBe.data.toList.drop 16).take 16 = [3, 54, 4, 3, 54, 5, 21, 5, 42, 182, 1, 182, 162, 0, 73, 42] := by decide +kernel
theorem chX11_canBe_2 : (cX11_canBe.data.toList.drop 32).take 16 = [21, 5, 3, 182, 1, 185, 42, 28, 3, 182, 1, 185, 160, 0, 23, 42] := by decide +kernel
theorem chX11_canBe_3 : (cX11_canBe.data.toList.drop 48).take 16 = [21, 5, 4, 182, 1, 185, 42, 28, 4, 182, 1, 185, 160, 0, 7, 4] := by decide +kernel
theorem chX11_canBe_4 : (cX11_canBe.data.toList.drop 64).take 16 = [167, 0, 4, 3, 54, 6, 21, 4, 21, 6, 153, 0, 17, 27, 21, 5] := by decide +kernel
theorem chX11_canBe_5 : (cX11_canBe.data.toList.drop 80).take 16 = [184, 1, 191, 29, 160, 0, 7, 4, 167, 0, 4, 3, 96, 54, 4, 132] := by decide +kernel
theorem chX11_canBe_6 : (cX11_canBe.data.toList.drop 96).take 16 = [5, 1, 167, 255, 180, 29, 42, 180, 1, 28, 162, 0, 29, 21, 4, 42] := by decide +kernel
theorem chX11_canBe_7 : (cX11_canBe.data.toList.drop 112).take 16 = [180, 0, 53, 29, 42, 28, 3, 182, 1, 185, 42, 28, 4, 182, 1, 185] := by decide +kernel
theorem chX11_canBe_8 : (cX11_canBe.data.toList.drop 128).take 16 = [184, 1, 88, 46, 164, 0, 5, 3, 172, 132, 2, 1, 167, 255, 118, 4] := by decide +kernel
theorem chX11_canBe_9 : (cX11_canBe.data.toList.drop 144).take 16 = [172] := by decide +kernel
theorem dX11_canBe_0 : decode cX11_canBe 0 = .ok (.iconst 0, 1) := oq_3 (byt chX11_canBe_0 0 rfl)
theorem dX11_canBe_1 : decode cX11_canBe 1 = .ok (.istore_n 2, 1) := oq_61 (byt chX11_canBe_0 1 rfl)
theorem dX11_canBe_2 : decode cX11_canBe 2 = .ok (.iload_n 2, 1) := oq_28 (byt chX11_canBe_0 2 rfl)
theorem dX11_canBe_3 : decode cX11_canBe 3 = .ok (.aload_n 0, 1) := oq_42 (byt chX11_canBe_0 3 rfl)
theorem dX11_canBe_4 : decode cX11_canBe 4 = .ok (.invokevirtual 438, 3) := oq_182 (byt chX11_canBe_0 4 rfl) (byt chX11_canBe_0 5 rfl) (byt chX11_canBe_0 6 rfl) rfl
theorem dX11_canBe_7 : decode cX11_canBe 7 = .ok (.if_icmp .ge 136, 3) := oq_162 (byt chX11_canBe_0 7 rfl) (byt chX11_canBe_0 8 rfl) (byt chX11_canBe_0 9 rfl) (by decide +kernel)
theorem dX11_canBe_10 : decode cX11_canBe 10 = .ok (.iload_n 1, 1) := oq_27 (byt chX11_canBe_0 10 rfl)
theorem dX11_canBe_11 : decode cX11_canBe 11 = .ok (.iload_n 2, 1) := oq_28 (byt chX11_canBe_0 11 rfl)
theorem dX11_canBe_12 : decode cX11_canBe 12 = .ok (.invokestatic 447, 3) := oq_184 (byt chX11_canBe_0 12 rfl) (byt chX11_canBe_0 13 rfl) (byt chX11_canBe_0 14 rfl) rfl
theorem dX11_canBe_15 : decode cX11_canBe 15 = .ok (.istore_n 3, 1) := oq_62 (byt chX11_canBe_0 15 rfl)
theorem dX11_canBe_16 : decode cX11_canBe 16 = .ok (.iconst 0, 1) := oq_3 (byt chX11_canBe_1 0 rfl)
theorem dX11_canBe_17 : decode cX11_canBe 17 = .ok (.istore 4, 2) := oq_54 (byt chX11_canBe_1 1 rfl) (byt chX11_canBe_1 2 rfl) rfl
theorem dX11_canBe_19 : decode cX11_canBe 19 = .ok (.iconst 0, 1) := oq_3 (byt chX11_canBe_1 3 rfl)
theorem dX11_canBe_20 : decode cX11_canBe 20 = .ok (.istore 5, 2) := oq_54 (byt chX11_canBe_1 4 rfl) (byt chX11_canBe_1 5 rfl) rfl
theorem dX11_canBe_22 : decode cX11_canBe 22 = .ok (.iload 5, 2) := oq_21 (byt chX11_canBe_1 6 rfl) (byt chX11_canBe_1 7 rfl) rfl
theorem dX11_canBe_24 : decode cX11_canBe 24 = .ok (.aload_n 0, 1) := oq_42 (byt chX11_canBe_1 8 rfl)
theorem dX11_canBe_25 : decode cX11_canBe 25 = .ok (.invokevirtual 438, 3) := oq_182 (byt chX11_canBe_1 9 rfl) (byt chX11_canBe_1 10 rfl) (byt chX11_canBe_1 11 rfl) rfl
theorem dX11_canBe_28 : decode cX11_canBe 28 = .ok (.if_icmp .ge 73, 3) := oq_162 (byt chX11_canBe_1 12 rfl) (byt chX11_canBe_1 13 rfl) (byt chX11_canBe_1 14 rfl) (by decide +kernel)
theorem dX11_canBe_31 : decode cX11_canBe 31 = .ok (.aload_n 0, 1) := oq_42 (byt chX11_canBe_1 15 rfl)
theorem dX11_canBe_32 : decode cX11_canBe 32 = .ok (.iload 5, 2) := oq_21 (byt chX11_canBe_2 0 rfl) (byt chX11_canBe_2 1 rfl) rfl
theorem dX11_canBe_34 : decode cX11_canBe 34 = .ok (.iconst 0, 1) := oq_3 (byt chX11_canBe_2 2 rfl)
theorem dX11_canBe_35 : decode cX11_canBe 35 = .ok (.invokevirtual 441, 3) := oq_182 (byt chX11_canBe_2 3 rfl) (byt chX11_canBe_2 4 rfl) (byt chX11_canBe_2 5 rfl) rfl
theorem dX11_canBe_38 : decode cX11_canBe 38 = .ok (.aload_n 0, 1) := oq_42 (byt chX11_canBe_2 6 rfl)
theorem dX11_canBe_39 : decode cX11_canBe 39 = .ok (.iload_n 2, 1) := oq_28 (byt chX11_canBe_2 7 rfl)
theorem dX11_canBe_40 : decode cX11_canBe 40 = .ok (.iconst 0, 1) := oq_3 (byt chX11_canBe_2 8 rfl)
theorem dX11_canBe_41 : decode cX11_canBe 41 = .ok (.invokevirtual 441, 3) := oq_182 (byt chX11_canBe_2 9 rfl) (byt chX11_canBe_2 10 rfl) (byt chX11_canBe_2 11 rfl) rfl
theorem dX11_canBe_44 : decode cX11_canBe 44 = .ok (.if_icmp .ne 23, 3) := oq_160 (byt chX11_canBe_2 12 rfl) (byt chX11_canBe_2 13 rfl) (byt chX11_canBe_2 14 rfl) (by decide +kernel)
theorem dX11_canBe_47 : decode cX11_canBe 47 = .ok (.aload_n 0, 1) := oq_42 (byt chX11_canBe_2 15 rfl)
theorem dX11_canBe_48 : decode cX11_canBe 48 = .ok (.iload 5, 2) := oq_21 (byt chX11_canBe_3 0 rfl) (byt chX11_canBe_3 1 rfl) rfl
theorem dX11_canBe_50 : decode cX11_canBe 50 = .ok (.iconst 1, 1) := oq_4 (byt chX11_canBe_3 2 rfl)
theorem dX11_canBe_51 : decode cX11_canBe 51 = .ok (.invokevirtual 441, 3) := oq_182 (byt chX11_canBe_3 3 rfl) (byt chX11_canBe_3 4 rfl) (byt chX11_canBe_3 5 rfl) rfl
theorem dX11_canBe_54 : decode cX11_canBe 54 = .ok (.aload_n 0, 1) := oq_42 (byt chX11_canBe_3 6 rfl)
theorem dX11_canBe_55 : decode cX11_canBe 55 = .ok (.iload_n 2, 1) := oq_28 (byt chX11_canBe_3 7 rfl)
theorem dX11_canBe_56 : decode cX11_canBe 56 = .ok (.iconst 1, 1) := oq_4 (byt chX11_canBe_3 8 rfl)
theorem dX11_canBe_57 : decode cX11_canBe 57 = .ok (.invokevirtual 441, 3) := oq_182 (byt chX11_canBe_3 9 rfl) (byt chX11_canBe_3 10 rfl) (byt chX11_canBe_3 11 rfl) rfl
theorem dX11_canBe_60 : decode cX11_canBe 60 = .ok (.if_icmp .ne 7, 3) := oq_160 (byt chX11_canBe_3 12 rfl) (byt chX11_canBe_3 13 rfl) (byt chX11_canBe_3 14 rfl) (by decide +kernel)
theorem dX11_canBe_63 : decode cX11_canBe 63 = .ok (.iconst 1, 1) := oq_4 (byt chX11_canBe_3 15 rfl)
theorem dX11_canBe_64 : decode cX11_canBe 64 = .ok (.goto 4, 3) := oq_167 (byt chX11_canBe_4 0 rfl) (byt chX11_canBe_4 1 rfl) (byt chX11_canBe_4 2 rfl) (by decide +kernel)
theorem dX11_canBe_67 : decode cX11_canBe 67 = .ok (.iconst 0, 1) := oq_3 (byt chX11_canBe_4 3 rfl)
theorem dX11_canBe_68 : decode cX11_canBe 68 = .ok (.istore 6, 2) := oq_54 (byt chX11_canBe_4 4 rfl) (byt chX11_canBe_4 5 rfl) rfl
theorem dX11_canBe_70 : decode cX11_canBe 70 = .ok (.iload 4, 2) := oq_21 (byt chX11_canBe_4 6 rfl) (byt chX11_canBe_4 7 rfl) rfl
theorem dX11_canBe_72 : decode cX11_canBe 72 = .ok (.iload 6, 2) := oq_21 (byt chX11_canBe_4 8 rfl) (byt chX11_canBe_4 9 rfl) rfl
theorem dX11_canBe_74 : decode cX11_canBe 74 = .ok (.ifCond .eq 17, 3) := oq_153 (byt chX11_canBe_4 10 rfl) (byt chX11_canBe_4 11 rfl) (byt chX11_canBe_4 12 rfl) (by decide +kernel)
theorem dX11_canBe_77 : decode cX11_canBe 77 = .ok (.iload_n 1, 1) := oq_27 (byt chX11_canBe_4 13 rfl)
theorem dX11_canBe_78 : decode cX11_canBe 78 = .ok (.iload 5, 2) := oq_21 (byt chX11_canBe_4 14 rfl) (byt chX11_canBe_4 15 rfl) rfl
theorem dX11_canBe_80 : decode cX11_canBe 80 = .ok (.invokestatic 447, 3) := oq_184 (byt chX11_canBe_5 0 rfl) (byt chX11_canBe_5 1 rfl) (byt chX11_canBe_5 2 rfl) rfl
theorem dX11_canBe_83 : decode cX11_canBe 83 = .ok (.iload_n 3, 1) := oq_29 (byt chX11_canBe_5 3 rfl)
theorem dX11_canBe_84 : decode cX11_canBe 84 = .ok (.if_icmp .ne 7, 3) := oq_160 (byt chX11_canBe_5 4 rfl) (byt chX11_canBe_5 5 rfl) (byt chX11_canBe_5 6 rfl) (by decide +kernel)
theorem dX11_canBe_87 : decode cX11_canBe 87 = .ok (.iconst 1, 1) := oq_4 (byt chX11_canBe_5 7 rfl)
theorem dX11_canBe_88 : decode cX11_canBe 88 = .ok (.goto 4, 3) := oq_167 (byt chX11_canBe_5 8 rfl) (byt chX11_canBe_5 9 rfl) (byt chX11_canBe_5 10 rfl) (by decide +kernel)
theorem dX11_canBe_91 : decode cX11_canBe 91 = .ok (.iconst 0, 1) := oq_3 (byt chX11_canBe_5 11 rfl)
theorem dX11_canBe_92 : decode cX11_canBe 92 = .ok (.iadd, 1) := oq_96 (byt chX11_canBe_5 12 rfl)
theorem dX11_canBe_93 : decode cX11_canBe 93 = .ok (.istore 4, 2) := oq_54 (byt chX11_canBe_5 13 rfl) (byt chX11_canBe_5 14 rfl) rfl
theorem dX11_canBe_95 : decode cX11_canBe 95 = .ok (.iinc 5 1, 3) := oq_132 (byt chX11_canBe_5 15 rfl) (byt chX11_canBe_6 0 rfl) (byt chX11_canBe_6 1 rfl) rfl
theorem dX11_canBe_98 : decode cX11_canBe 98 = .ok (.goto (-76), 3) := oq_167 (byt chX11_canBe_6 2 rfl) (byt chX11_canBe_6 3 rfl) (byt chX11_canBe_6 4 rfl) (by decide +kernel)
theorem dX11_canBe_101 : decode cX11_canBe 101 = .ok (.iload_n 3, 1) := oq_29 (byt chX11_canBe_6 5 rfl)
theorem dX11_canBe_102 : decode cX11_canBe 102 = .ok (.aload_n 0, 1) := oq_42 (byt chX11_canBe_6 6 rfl)
theorem dX11_canBe_103 : decode cX11_canBe 103 = .ok (.getfield 284, 3) := oq_180 (byt chX11_canBe_6 7 rfl) (byt chX11_canBe_6 8 rfl) (byt chX11_canBe_6 9 rfl) rfl
theorem dX11_canBe_106 : decode cX11_canBe 106 = .ok (.if_icmp .ge 29, 3) := oq_162 (byt chX11_canBe_6 10 rfl) (byt chX11_canBe_6 11 rfl) (byt chX11_canBe_6 12 rfl) (by decide +kernel)
theorem dX11_canBe_109 : decode cX11_canBe 109 = .ok (.iload 4, 2) := oq_21 (byt chX11_canBe_6 13 rfl) (byt chX11_canBe_6 14 rfl) rfl
theorem dX11_canBe_111 : decode cX11_canBe 111 = .ok (.aload_n 0, 1) := oq_42 (byt chX11_canBe_6 15 rfl)
theorem dX11_canBe_112 : decode cX11_canBe 112 = .ok (.getfield 53, 3) := oq_180 (byt chX11_canBe_7 0 rfl) (byt chX11_canBe_7 1 rfl) (byt chX11_canBe_7 2 rfl) rfl
theorem dX11_canBe_115 : decode cX11_canBe 115 = .ok (.iload_n 3, 1) := oq_29 (byt chX11_canBe_7 3 rfl)
theorem dX11_canBe_116 : decode cX11_canBe 116 = .ok (.aload_n 0, 1) := oq_42 (byt chX11_canBe_7 4 rfl)
theorem dX11_canBe_117 : decode cX11_canBe 117 = .ok (.iload_n 2, 1) := oq_28 (byt chX11_canBe_7 5 rfl)
theorem dX11_canBe_118 : decode cX11_canBe 118 = .ok (.iconst 0, 1) := oq_3 (byt chX11_canBe_7 6 rfl)
theorem dX11_canBe_119 : decode cX11_canBe 119 = .ok (.invokevirtual 441, 3) := oq_182 (byt chX11_canBe_7 7 rfl) (byt chX11_canBe_7 8 rfl) (byt chX11_canBe_7 9 rfl) rfl
theorem dX11_canBe_122 : decode cX11_canBe 122 = .ok (.aload_n 0, 1) := oq_42 (byt chX11_canBe_7 10 rfl)
theorem dX11_canBe_123 : decode cX11_canBe 123 = .ok (.iload_n 2, 1) := oq_28 (byt chX11_canBe_7 11 rfl)
theorem dX11_canBe_124 : decode cX11_canBe 124 = .ok (.iconst 1, 1) := oq_4 (byt chX11_canBe_7 12 rfl)
theorem dX11_canBe_125 : decode cX11_canBe 125 = .ok (.invokevirtual 441, 3) := oq_182 (byt chX11_canBe_7 13 rfl) (byt chX11_canBe_7 14 rfl) (byt chX11_canBe_7 15 rfl) rfl
theorem dX11_canBe_128 : decode cX11_canBe 128 = .ok (.invokestatic 344, 3) := oq_184 (byt chX11_canBe_8 0 rfl) (byt chX11_canBe_8 1 rfl) (byt chX11_canBe_8 2 rfl) rfl
theorem dX11_canBe_131 : decode cX11_canBe 131 = .ok (.iaload, 1) := oq_46 (byt chX11_canBe_8 3 rfl)
theorem dX11_canBe_132 : decode cX11_canBe 132 = .ok (.if_icmp .le 5, 3) := oq_164 (byt chX11_canBe_8 4 rfl) (byt chX11_canBe_8 5 rfl) (byt chX11_canBe_8 6 rfl) (by decide +kernel)
theorem dX11_canBe_135 : decode cX11_canBe 135 = .ok (.iconst 0, 1) := oq_3 (byt chX11_canBe_8 7 rfl)
theorem dX11_canBe_136 : decode cX11_canBe 136 = .ok (.ireturn, 1) := oq_172 (byt chX11_canBe_8 8 rfl)
theorem dX11_canBe_137 : decode cX11_canBe 137 = .ok (.iinc 2 1, 3) := oq_132 (byt chX11_canBe_8 9 rfl) (byt chX11_canBe_8 10 rfl) (byt chX11_canBe_8 11 rfl) rfl
theorem dX11_canBe_140 : decode cX11_canBe 140 = .ok (.goto (-138), 3) := oq_167 (byt chX11_canBe_8 12 rfl) (byt chX11_canBe_8 13 rfl) (byt chX11_canBe_8 14 rfl) (by decide +kernel)
theorem dX11_canBe_143 : decode cX11_canBe 143 = .ok (.iconst 1, 1) := oq_4 (byt chX11_canBe_8 15 rfl)
theorem dX11_canBe_144 : decode cX11_canBe 144 = .ok (.ireturn, 1) := oq_172 (byt chX11_canBe_9 0 rfl)
abbrev mX11_canBe : MI := (yX11_canBe, cX11_canBe, 7, (some .boolean), noE)
theorem okX11_canBe : cok mX11_canBe 1 := ⟨tw1730, tw11, by decide, by decide, by decide, by decide +kernel⟩
def fX11_canBe (M : Mem) (a0 a1 : Int) : Option Int :=
  iterC (fun (rec1 : Int → Option Int) (s2 : Int) => if M.2.1 a0 = 10 then (fX11_gifts M a0).bind fun r3 => if s2 < r3 then ((fX11_handOf M a1 s2).bind fun r7 => iterC (fun (rec9 : (Int × Int) → Option Int) (s10 : Int × Int) => (fX11_gifts M a0).bind fun r11 => if s10.2 < r11 then ((fX11_giftOf M a0 s10.2 0).bind fun r14 => (fX11_giftOf M a0 s2 0).bind fun r16 => jn (fun (t19 : Int) => if t19 = 0 then (rec9 (w32 (s10.1 + 0), w32 (s10.2 + 1))) else ((fX11_handOf M a1 s10.2).bind fun r21 => if r21 = r7 then (rec9 (w32 (s10.1 + 1), w32 (s10.2 + 1))) else (rec9 (w32 (s10.1 + 0), w32 (s10.2 + 1))))) (fun (j18 : Int → Option Int) => jn (fun (t25 : Unit) => j18 0) (fun (j24 : Unit → Option Int) => if r14 = r16 then ((fX11_giftOf M a0 s10.2 1).bind fun r27 => (fX11_giftOf M a0 s2 1).bind fun r29 => if r27 = r29 then (j18 1) else (j24 ())) else (j24 ())))) else (if r7 < M.1 a0 26 then ((fX11_giftOf M a0 s2 0).bind fun r33 => (fX11_giftOf M a0 s2 1).bind fun r35 => (fX11_place M r7 r33 r35).bind fun r37 => if M.2.1 (M.1 a0 32) = 12 ∧ (0 : Int) ≤ r37 ∧ r37 < M.2.2.1 (M.1 a0 32) then if M.1 (M.1 a0 32) r37 < s10.1 then (some 0) else (rec1 (w32 (s2 + 1))) else none) else (some 0))) BIG (0, 0)) else (some 1) else none) BIG 0
set_option maxRecDepth 100000 in
set_option maxHeartbeats 4000000 in
theorem kX11_canBe (d : Nat) (hd : 1 ≤ d) (M : Mem) (a0 a1 : Int) : Ct mX11_canBe d 0 0 [pA a0, pI a1] M (dI M) (fX11_canBe M a0 a1) := by
  obtain ⟨d, rfl⟩ : ∃ k, d = k + 1 := ⟨d - 1, by omega⟩
  refine Ct.of 5 (fun _ _ _ => trivial) (by decide +kernel) rfl ?_
  unfold fX11_canBe
  refine v_iconst dX11_canBe_0 (by decide) ?_
  refine v_istore_n (ls' := [some (pA a0), some (pI a1), some (pI 0), none, none, none, none]) dX11_canBe_1 (by decide) rfl ?_
  refine v_loop (fun (s2 : Int) => [some (pA a0), some (pI a1), some (pI s2), none, none, none, none]) (fun (s2 : Int) => M) (s0 := 0) ?_
  intro rec1 hrec1 s2
  refine v_iload_n dX11_canBe_2 rfl ?_
  refine v_aload_n dX11_canBe_3 rfl ?_
  refine v_if (fun h5 => ?_)
  refine v_cV (mi := mX11_canBe) (c0 := 0) (c1 := 0) (As := []) (st := [pI s2]) (kX11_gifts d (by omega) _ _) rfl h5 rfl okX11_gifts (Or.inl tw1711) tw1713 tp91 rfl (Nat.le_of_ble_eq_true rfl) dX11_canBe_4 (fun r3 => [pI r3, pI s2]) (fun r3 => M) (fun _ => rfl) (fun _ => rfl) (fun r3 h4 => ?_) rfl
  refine v_icmp_ge (tgt := 143) dX11_canBe_7 (by decide) (fun c6 => ?_) (fun c6 => ?_)
  · refine v_iload_n dX11_canBe_10 rfl ?_
    refine v_iload_n dX11_canBe_11 rfl ?_
    refine v_cS (mi := mX11_canBe) (c0 := 0) (c1 := 0) (As := [pI a1, pI s2]) (st := []) (kX11_handOf d (by omega) _ _ _) okX11_handOf (Or.inl tw1731) tw1732 rfl (Nat.le_of_ble_eq_true rfl) dX11_canBe_12 (fun r7 => [pI r7]) (fun r7 => M) (fun _ => rfl) (fun _ => rfl) (fun r7 h8 => ?_) rfl
    refine v_istore_n (ls' := [some (pA a0), some (pI a1), some (pI s2), some (pI r7), none, none, none]) dX11_canBe_15 (by decide) rfl ?_
    refine v_iconst dX11_canBe_16 (by decide) ?_
    refine v_istore (ls' := [some (pA a0), some (pI a1), some (pI s2), some (pI r7), some (pI 0), none, none]) dX11_canBe_17 (by decide) rfl ?_
    refine v_iconst dX11_canBe_19 (by decide) ?_
    refine v_istore (ls' := [some (pA a0), some (pI a1), some (pI s2), some (pI r7), some (pI 0), some (pI 0), none]) dX11_canBe_20 (by decide) rfl ?_
    refine v_loop (fun (s10 : Int × Int) => [some (pA a0), some (pI a1), some (pI s2), some (pI r7), some (pI s10.1), some (pI s10.2), none]) (fun (s10 : Int × Int) => M) (s0 := (0, 0)) ?_
    intro rec9 hrec9 s10
    refine v_iload dX11_canBe_22 rfl ?_
    refine v_aload_n dX11_canBe_24 rfl ?_
    refine v_cV (mi := mX11_canBe) (c0 := 0) (c1 := 0) (As := []) (st := [pI s10.2]) (kX11_gifts d (by omega) _ _) rfl h5 rfl okX11_gifts (Or.inl tw1711) tw1713 tp91 rfl (Nat.le_of_ble_eq_true rfl) dX11_canBe_25 (fun r11 => [pI r11, pI s10.2]) (fun r11 => M) (fun _ => rfl) (fun _ => rfl) (fun r11 h12 => ?_) rfl
    refine v_icmp_ge (tgt := 101) dX11_canBe_28 (by decide) (fun c13 => ?_) (fun c13 => ?_)
    · refine v_aload_n dX11_canBe_31 rfl ?_
      refine v_iload dX11_canBe_32 rfl ?_
      refine v_iconst dX11_canBe_34 (by decide) ?_
      refine v_cV (mi := mX11_canBe) (c0 := 0) (c1 := 0) (As := [pI s10.2, pI 0]) (st := []) (kX11_giftOf d (by omega) _ _ _ _) rfl h5 rfl okX11_giftOf (Or.inl tw1715) tw1717 tp92 rfl (Nat.le_of_ble_eq_true rfl) dX11_canBe_35 (fun r14 => [pI r14]) (fun r14 => M) (fun _ => rfl) (fun _ => rfl) (fun r14 h15 => ?_) rfl
      refine v_aload_n dX11_canBe_38 rfl ?_
      refine v_iload_n dX11_canBe_39 rfl ?_
      refine v_iconst dX11_canBe_40 (by decide) ?_
      refine v_cV (mi := mX11_canBe) (c0 := 0) (c1 := 0) (As := [pI s2, pI 0]) (st := [pI r14]) (kX11_giftOf d (by omega) _ _ _ _) rfl h5 rfl okX11_giftOf (Or.inl tw1715) tw1717 tp92 rfl (Nat.le_of_ble_eq_true rfl) dX11_canBe_41 (fun r16 => [pI r16, pI r14]) (fun r16 => M) (fun _ => rfl) (fun _ => rfl) (fun r16 h17 => ?_) rfl
      refine v_join (fun (t19 : Int) => [some (pA a0), some (pI a1), some (pI s2), some (pI r7), some (pI s10.1), some (pI s10.2), none]) (fun (t19 : Int) => [pI t19]) (fun (t19 : Int) => M) 68 (fun t19 => ?_) (fun j18 hj18 => ?_)
      · refine v_istore (ls' := [some (pA a0), some (pI a1), some (pI s2), some (pI r7), some (pI s10.1), some (pI s10.2), some (pI t19)]) dX11_canBe_68 (by decide) rfl ?_
        refine v_iload dX11_canBe_70 rfl ?_
        refine v_iload dX11_canBe_72 rfl ?_
        refine v_if_eq (tgt := 91) dX11_canBe_74 (by decide) (fun c20 => ?_) (fun c20 => ?_)
        · refine v_iconst dX11_canBe_91 (by decide) ?_
          refine v_iadd dX11_canBe_92 ?_
          refine v_istore (ls' := [some (pA a0), some (pI a1), some (pI s2), some (pI r7), some (pI (w32 (s10.1 + 0))), some (pI s10.2), some (pI t19)]) dX11_canBe_93 (by decide) rfl ?_
          refine v_iinc (ls' := [some (pA a0), some (pI a1), some (pI s2), some (pI r7), some (pI (w32 (s10.1 + 0))), some (pI (w32 (s10.2 + 1))), some (pI t19)]) dX11_canBe_95 (by decide) rfl rfl ?_
          refine v_goto (tgt := 22) dX11_canBe_98 (by decide) ?_
          exact v_drop [some (pA a0), some (pI a1), some (pI s2), some (pI r7), some (pI (w32 (s10.1 + 0))), some (pI (w32 (s10.2 + 1))), none] (ls_s (ls_s (ls_s (ls_s (ls_s (ls_s (ls_n ls_e))))))) (hrec9 (w32 (s10.1 + 0), w32 (s10.2 + 1)))
        · refine v_iload_n dX11_canBe_77 rfl ?_
          refine v_iload dX11_canBe_78 rfl ?_
          refine v_cS (mi := mX11_canBe) (c0 := 0) (c1 := 0) (As := [pI a1, pI s10.2]) (st := [pI s10.1]) (kX11_handOf d (by omega) _ _ _) okX11_handOf (Or.inl tw1731) tw1732 rfl (Nat.le_of_ble_eq_true rfl) dX11_canBe_80 (fun r21 => [pI r21, pI s10.1]) (fun r21 => M) (fun _ => rfl) (fun _ => rfl) (fun r21 h22 => ?_) rfl
          refine v_iload_n dX11_canBe_83 rfl ?_
          refine v_icmp_ne (tgt := 91) dX11_canBe_84 (by decide) (fun c23 => ?_) (fun c23 => ?_)
          · refine v_iconst dX11_canBe_87 (by decide) ?_
            refine v_goto (tgt := 92) dX11_canBe_88 (by decide) ?_
            refine v_iadd dX11_canBe_92 ?_
            refine v_istore (ls' := [some (pA a0), some (pI a1), some (pI s2), some (pI r7), some (pI (w32 (s10.1 + 1))), some (pI s10.2), some (pI t19)]) dX11_canBe_93 (by decide) rfl ?_
            refine v_iinc (ls' := [some (pA a0), some (pI a1), some (pI s2), some (pI r7), some (pI (w32 (s10.1 + 1))), some (pI (w32 (s10.2 + 1))), some (pI t19)]) dX11_canBe_95 (by decide) rfl rfl ?_
            refine v_goto (tgt := 22) dX11_canBe_98 (by decide) ?_
            exact v_drop [some (pA a0), some (pI a1), some (pI s2), some (pI r7), some (pI (w32 (s10.1 + 1))), some (pI (w32 (s10.2 + 1))), none] (ls_s (ls_s (ls_s (ls_s (ls_s (ls_s (ls_n ls_e))))))) (hrec9 (w32 (s10.1 + 1), w32 (s10.2 + 1)))
          · refine v_iconst dX11_canBe_91 (by decide) ?_
            refine v_iadd dX11_canBe_92 ?_
            refine v_istore (ls' := [some (pA a0), some (pI a1), some (pI s2), some (pI r7), some (pI (w32 (s10.1 + 0))), some (pI s10.2), some (pI t19)]) dX11_canBe_93 (by decide) rfl ?_
            refine v_iinc (ls' := [some (pA a0), some (pI a1), some (pI s2), some (pI r7), some (pI (w32 (s10.1 + 0))), some (pI (w32 (s10.2 + 1))), some (pI t19)]) dX11_canBe_95 (by decide) rfl rfl ?_
            refine v_goto (tgt := 22) dX11_canBe_98 (by decide) ?_
            exact v_drop [some (pA a0), some (pI a1), some (pI s2), some (pI r7), some (pI (w32 (s10.1 + 0))), some (pI (w32 (s10.2 + 1))), none] (ls_s (ls_s (ls_s (ls_s (ls_s (ls_s (ls_n ls_e))))))) (hrec9 (w32 (s10.1 + 0), w32 (s10.2 + 1)))
      · refine v_join (fun (t25 : Unit) => [some (pA a0), some (pI a1), some (pI s2), some (pI r7), some (pI s10.1), some (pI s10.2), none]) (fun (t25 : Unit) => []) (fun (t25 : Unit) => M) 67 (fun t25 => ?_) (fun j24 hj24 => ?_)
        · refine v_iconst dX11_canBe_67 (by decide) ?_
          exact hj18 0
        · refine v_icmp_ne (tgt := 67) dX11_canBe_44 (by decide) (fun c26 => ?_) (fun c26 => ?_)
          · refine v_aload_n dX11_canBe_47 rfl ?_
            refine v_iload dX11_canBe_48 rfl ?_
            refine v_iconst dX11_canBe_50 (by decide) ?_
            refine v_cV (mi := mX11_canBe) (c0 := 0) (c1 := 0) (As := [pI s10.2, pI 1]) (st := []) (kX11_giftOf d (by omega) _ _ _ _) rfl h5 rfl okX11_giftOf (Or.inl tw1715) tw1717 tp92 rfl (Nat.le_of_ble_eq_true rfl) dX11_canBe_51 (fun r27 => [pI r27]) (fun r27 => M) (fun _ => rfl) (fun _ => rfl) (fun r27 h28 => ?_) rfl
            refine v_aload_n dX11_canBe_54 rfl ?_
            refine v_iload_n dX11_canBe_55 rfl ?_
            refine v_iconst dX11_canBe_56 (by decide) ?_
            refine v_cV (mi := mX11_canBe) (c0 := 0) (c1 := 0) (As := [pI s2, pI 1]) (st := [pI r27]) (kX11_giftOf d (by omega) _ _ _ _) rfl h5 rfl okX11_giftOf (Or.inl tw1715) tw1717 tp92 rfl (Nat.le_of_ble_eq_true rfl) dX11_canBe_57 (fun r29 => [pI r29, pI r27]) (fun r29 => M) (fun _ => rfl) (fun _ => rfl) (fun r29 h30 => ?_) rfl
            refine v_icmp_ne (tgt := 67) dX11_canBe_60 (by decide) (fun c31 => ?_) (fun c31 => ?_)
            · refine v_iconst dX11_canBe_63 (by decide) ?_
              refine v_goto (tgt := 68) dX11_canBe_64 (by decide) ?_
              exact hj18 1
            · exact hj24 ()
          · exact hj24 ()
    · refine v_iload_n dX11_canBe_101 rfl ?_
      refine v_aload_n dX11_canBe_102 rfl ?_
      refine v_get (v := pI (M.1 a0 26)) 10 26 rfl inX11 (by decide) tw1219 dX11_canBe_103 h5 rfl ?_
      refine v_icmp_ge (tgt := 135) dX11_canBe_106 (by decide) (fun c32 => ?_) (fun c32 => ?_)
      · refine v_iload dX11_canBe_109 rfl ?_
        refine v_aload_n dX11_canBe_111 rfl ?_
        refine v_get (v := pA (M.1 a0 32)) 10 32 rfl inX11 (by decide) tw1225 dX11_canBe_112 h5 rfl ?_
        refine v_iload_n dX11_canBe_115 rfl ?_
        refine v_aload_n dX11_canBe_116 rfl ?_
        refine v_iload_n dX11_canBe_117 rfl ?_
        refine v_iconst dX11_canBe_118 (by decide) ?_
        refine v_cV (mi := mX11_canBe) (c0 := 0) (c1 := 0) (As := [pI s2, pI 0]) (st := [pI r7, pA (M.1 a0 32), pI s10.1]) (kX11_giftOf d (by omega) _ _ _ _) rfl h5 rfl okX11_giftOf (Or.inl tw1715) tw1717 tp92 rfl (Nat.le_of_ble_eq_true rfl) dX11_canBe_119 (fun r33 => [pI r33, pI r7, pA (M.1 a0 32), pI s10.1]) (fun r33 => M) (fun _ => rfl) (fun _ => rfl) (fun r33 h34 => ?_) rfl
        refine v_aload_n dX11_canBe_122 rfl ?_
        refine v_iload_n dX11_canBe_123 rfl ?_
        refine v_iconst dX11_canBe_124 (by decide) ?_
        refine v_cV (mi := mX11_canBe) (c0 := 0) (c1 := 0) (As := [pI s2, pI 1]) (st := [pI r33, pI r7, pA (M.1 a0 32), pI s10.1]) (kX11_giftOf d (by omega) _ _ _ _) rfl h5 rfl okX11_giftOf (Or.inl tw1715) tw1717 tp92 rfl (Nat.le_of_ble_eq_true rfl) dX11_canBe_125 (fun r35 => [pI r35, pI r33, pI r7, pA (M.1 a0 32), pI s10.1]) (fun r35 => M) (fun _ => rfl) (fun _ => rfl) (fun r35 h36 => ?_) rfl
        refine v_cS (mi := mX11_canBe) (c0 := 0) (c1 := 0) (As := [pI r7, pI r33, pI r35]) (st := [pA (M.1 a0 32), pI s10.1]) (kX11_place d (by omega) _ _ _ _) okX11_place (Or.inl tw1594) tw1595 rfl (Nat.le_of_ble_eq_true rfl) dX11_canBe_128 (fun r37 => [pI r37, pA (M.1 a0 32), pI s10.1]) (fun r37 => M) (fun _ => rfl) (fun _ => rfl) (fun r37 h38 => ?_) rfl
        refine v_if (fun h39 => ?_)
        refine v_iaload h39 dX11_canBe_131 ?_
        refine v_icmp_le (tgt := 137) dX11_canBe_132 (by decide) (fun c40 => ?_) (fun c40 => ?_)
        · refine v_iconst dX11_canBe_135 (by decide) ?_
          exact v_breturn dX11_canBe_136 rfl (by decide) rfl
        · refine v_iinc (ls' := [some (pA a0), some (pI a1), some (pI (w32 (s2 + 1))), some (pI r7), some (pI s10.1), some (pI s10.2), none]) dX11_canBe_137 (by decide) rfl rfl ?_
          refine v_goto (tgt := 2) dX11_canBe_140 (by decide) ?_
          exact v_drop [some (pA a0), some (pI a1), some (pI (w32 (s2 + 1))), none, none, none, none] (ls_s (ls_s (ls_s (ls_n (ls_n (ls_n (ls_n ls_e))))))) (hrec1 (w32 (s2 + 1)))
      · refine v_iconst dX11_canBe_135 (by decide) ?_
        exact v_breturn dX11_canBe_136 rfl (by decide) rfl
  · refine v_iconst dX11_canBe_143 (by decide) ?_
    exact v_breturn dX11_canBe_144 rfl (by decide) rfl
theorem chX11_hands_0 : (cX11_hands.data.toList.drop 0).take 16 = [42, 3, 181, 0, 90, 42, 21, 4, 182, 1, 179, 153, 0, 34, 42, 27] := by decide +kernel
theorem chX11_hands_1 : (cX11_hands.data.toList.drop 16).take 16 = [28, 29, 182, 1, 116, 153, 0, 24, 21, 5, 2, 159, 0, 20, 21, 5] := by decide +kernel
theorem chX11_hands_2 : (cX11_hands.data.toList.drop 32).take 16 = [3, 42, 182, 1, 182, 4, 100, 184, 0, 98, 154, 0, 5, 2, 172, 42] := by decide +kernel
theorem chX11_hands_3 : (cX11_hands.data.toList.drop 48).take 16 = [42, 182, 1, 70, 182, 1, 119, 87, 3, 54, 6, 3, 54, 7, 21, 7] := by decide +kernel
theorem chX11_hands_4 : (cX11_hands.data.toList.drop 64).take 16 = [4, 5, 42, 182, 1, 182, 104, 120, 162, 0, 28, 21, 6, 42, 21, 7] := by decide +kernel
theorem chX11_hands_5 : (cX11_hands.data.toList.drop 80).take 16 = [182, 1, 194, 153, 0, 7, 4, 167, 0, 4, 3, 96, 54, 6, 132, 7] := by decide +kernel
theorem chX11_hands_6 : (cX11_hands.data.toList.drop 96).take 16 = [1, 167, 255, 221, 21, 5, 2, 159, 0, 8, 21, 6, 154, 0, 6, 21] := by decide +kernel
theorem chX11_hands_7 : (cX11_hands.data.toList.drop 112).take 16 = [6, 172, 3, 54, 7, 3, 54, 8, 21, 8, 42, 180, 1, 28, 162, 0] := by decide +kernel
theorem chX11_hands_8 : (cX11_hands.data.toList.drop 128).take 16 = [49, 21, 7, 42, 180, 0, 53, 21, 8, 42, 21, 5, 3, 182, 1, 185] := by decide +kernel
theorem chX11_hands_9 : (cX11_hands.data.toList.drop 144).take 16 = [42, 21, 5, 4, 182, 1, 185, 184, 1, 88, 46, 158, 0, 10, 4, 21] := by decide +kernel
theorem chX11_hands_10 : (cX11_hands.data.toList.drop 160).take 16 = [8, 120, 167, 0, 4, 3, 128, 54, 7, 132, 8, 1, 167, 255, 204, 21] := by decide +kernel
theorem chX11_hands_11 : (cX11_hands.data.toList.drop 176).take 16 = [7, 172] := by decide +kernel
theorem dX11_hands_0 : decode cX11_hands 0 = .ok (.aload_n 0, 1) := oq_42 (byt chX11_hands_0 0 rfl)
theorem dX11_hands_1 : decode cX11_hands 1 = .ok (.iconst 0, 1) := oq_3 (byt chX11_hands_0 1 rfl)
theorem dX11_hands_2 : decode cX11_hands 2 = .ok (.putfield 90, 3) := oq_181 (byt chX11_hands_0 2 rfl) (byt chX11_hands_0 3 rfl) (byt chX11_hands_0 4 rfl) rfl
theorem dX11_hands_5 : decode cX11_hands 5 = .ok (.aload_n 0, 1) := oq_42 (byt chX11_hands_0 5 rfl)
theorem dX11_hands_6 : decode cX11_hands 6 = .ok (.iload 4, 2) := oq_21 (byt chX11_hands_0 6 rfl) (byt chX11_hands_0 7 rfl) rfl
theorem dX11_hands_8 : decode cX11_hands 8 = .ok (.invokevirtual 435, 3) := oq_182 (byt chX11_hands_0 8 rfl) (byt chX11_hands_0 9 rfl) (byt chX11_hands_0 10 rfl) rfl
theorem dX11_hands_11 : decode cX11_hands 11 = .ok (.ifCond .eq 34, 3) := oq_153 (byt chX11_hands_0 11 rfl) (byt chX11_hands_0 12 rfl) (byt chX11_hands_0 13 rfl) (by decide +kernel)
theorem dX11_hands_14 : decode cX11_hands 14 = .ok (.aload_n 0, 1) := oq_42 (byt chX11_hands_0 14 rfl)
theorem dX11_hands_15 : decode cX11_hands 15 = .ok (.iload_n 1, 1) := oq_27 (byt chX11_hands_0 15 rfl)
theorem dX11_hands_16 : decode cX11_hands 16 = .ok (.iload_n 2, 1) := oq_28 (byt chX11_hands_1 0 rfl)
theorem dX11_hands_17 : decode cX11_hands 17 = .ok (.iload_n 3, 1) := oq_29 (byt chX11_hands_1 1 rfl)
theorem dX11_hands_18 : decode cX11_hands 18 = .ok (.invokevirtual 372, 3) := oq_182 (byt chX11_hands_1 2 rfl) (byt chX11_hands_1 3 rfl) (byt chX11_hands_1 4 rfl) rfl
theorem dX11_hands_21 : decode cX11_hands 21 = .ok (.ifCond .eq 24, 3) := oq_153 (byt chX11_hands_1 5 rfl) (byt chX11_hands_1 6 rfl) (byt chX11_hands_1 7 rfl) (by decide +kernel)
theorem dX11_hands_24 : decode cX11_hands 24 = .ok (.iload 5, 2) := oq_21 (byt chX11_hands_1 8 rfl) (byt chX11_hands_1 9 rfl) rfl
theorem dX11_hands_26 : decode cX11_hands 26 = .ok (.iconst (-1), 1) := oq_2 (byt chX11_hands_1 10 rfl)
theorem dX11_hands_27 : decode cX11_hands 27 = .ok (.if_icmp .eq 20, 3) := oq_159 (byt chX11_hands_1 11 rfl) (byt chX11_hands_1 12 rfl) (byt chX11_hands_1 13 rfl) (by decide +kernel)
theorem dX11_hands_30 : decode cX11_hands 30 = .ok (.iload 5, 2) := oq_21 (byt chX11_hands_1 14 rfl) (byt chX11_hands_1 15 rfl) rfl
theorem dX11_hands_32 : decode cX11_hands 32 = .ok (.iconst 0, 1) := oq_3 (byt chX11_hands_2 0 rfl)
theorem dX11_hands_33 : decode cX11_hands 33 = .ok (.aload_n 0, 1) := oq_42 (byt chX11_hands_2 1 rfl)
theorem dX11_hands_34 : decode cX11_hands 34 = .ok (.invokevirtual 438, 3) := oq_182 (byt chX11_hands_2 2 rfl) (byt chX11_hands_2 3 rfl) (byt chX11_hands_2 4 rfl) rfl
theorem dX11_hands_37 : decode cX11_hands 37 = .ok (.iconst 1, 1) := oq_4 (byt chX11_hands_2 5 rfl)
theorem dX11_hands_38 : decode cX11_hands 38 = .ok (.isub, 1) := oq_100 (byt chX11_hands_2 6 rfl)
theorem dX11_hands_39 : decode cX11_hands 39 = .ok (.invokestatic 98, 3) := oq_184 (byt chX11_hands_2 7 rfl) (byt chX11_hands_2 8 rfl) (byt chX11_hands_2 9 rfl) rfl
theorem dX11_hands_42 : decode cX11_hands 42 = .ok (.ifCond .ne 5, 3) := oq_154 (byt chX11_hands_2 10 rfl) (byt chX11_hands_2 11 rfl) (byt chX11_hands_2 12 rfl) (by decide +kernel)
theorem dX11_hands_45 : decode cX11_hands 45 = .ok (.iconst (-1), 1) := oq_2 (byt chX11_hands_2 13 rfl)
theorem dX11_hands_46 : decode cX11_hands 46 = .ok (.ireturn, 1) := oq_172 (byt chX11_hands_2 14 rfl)
theorem dX11_hands_47 : decode cX11_hands 47 = .ok (.aload_n 0, 1) := oq_42 (byt chX11_hands_2 15 rfl)
theorem dX11_hands_48 : decode cX11_hands 48 = .ok (.aload_n 0, 1) := oq_42 (byt chX11_hands_3 0 rfl)
theorem dX11_hands_49 : decode cX11_hands 49 = .ok (.invokevirtual 326, 3) := oq_182 (byt chX11_hands_3 1 rfl) (byt chX11_hands_3 2 rfl) (byt chX11_hands_3 3 rfl) rfl
theorem dX11_hands_52 : decode cX11_hands 52 = .ok (.invokevirtual 375, 3) := oq_182 (byt chX11_hands_3 4 rfl) (byt chX11_hands_3 5 rfl) (byt chX11_hands_3 6 rfl) rfl
theorem dX11_hands_55 : decode cX11_hands 55 = .ok (.pop, 1) := oq_87 (byt chX11_hands_3 7 rfl)
theorem dX11_hands_56 : decode cX11_hands 56 = .ok (.iconst 0, 1) := oq_3 (byt chX11_hands_3 8 rfl)
theorem dX11_hands_57 : decode cX11_hands 57 = .ok (.istore 6, 2) := oq_54 (byt chX11_hands_3 9 rfl) (byt chX11_hands_3 10 rfl) rfl
theorem dX11_hands_59 : decode cX11_hands 59 = .ok (.iconst 0, 1) := oq_3 (byt chX11_hands_3 11 rfl)
theorem dX11_hands_60 : decode cX11_hands 60 = .ok (.istore 7, 2) := oq_54 (byt chX11_hands_3 12 rfl) (byt chX11_hands_3 13 rfl) rfl
theorem dX11_hands_62 : decode cX11_hands 62 = .ok (.iload 7, 2) := oq_21 (byt chX11_hands_3 14 rfl) (byt chX11_hands_3 15 rfl) rfl
theorem dX11_hands_64 : decode cX11_hands 64 = .ok (.iconst 1, 1) := oq_4 (byt chX11_hands_4 0 rfl)
theorem dX11_hands_65 : decode cX11_hands 65 = .ok (.iconst 2, 1) := oq_5 (byt chX11_hands_4 1 rfl)
theorem dX11_hands_66 : decode cX11_hands 66 = .ok (.aload_n 0, 1) := oq_42 (byt chX11_hands_4 2 rfl)
theorem dX11_hands_67 : decode cX11_hands 67 = .ok (.invokevirtual 438, 3) := oq_182 (byt chX11_hands_4 3 rfl) (byt chX11_hands_4 4 rfl) (byt chX11_hands_4 5 rfl) rfl
theorem dX11_hands_70 : decode cX11_hands 70 = .ok (.imul, 1) := oq_104 (byt chX11_hands_4 6 rfl)
theorem dX11_hands_71 : decode cX11_hands 71 = .ok (.ishl, 1) := oq_120 (byt chX11_hands_4 7 rfl)
theorem dX11_hands_72 : decode cX11_hands 72 = .ok (.if_icmp .ge 28, 3) := oq_162 (byt chX11_hands_4 8 rfl) (byt chX11_hands_4 9 rfl) (byt chX11_hands_4 10 rfl) (by decide +kernel)
theorem dX11_hands_75 : decode cX11_hands 75 = .ok (.iload 6, 2) := oq_21 (byt chX11_hands_4 11 rfl) (byt chX11_hands_4 12 rfl) rfl
theorem dX11_hands_77 : decode cX11_hands 77 = .ok (.aload_n 0, 1) := oq_42 (byt chX11_hands_4 13 rfl)
theorem dX11_hands_78 : decode cX11_hands 78 = .ok (.iload 7, 2) := oq_21 (byt chX11_hands_4 14 rfl) (byt chX11_hands_4 15 rfl) rfl
theorem dX11_hands_80 : decode cX11_hands 80 = .ok (.invokevirtual 450, 3) := oq_182 (byt chX11_hands_5 0 rfl) (byt chX11_hands_5 1 rfl) (byt chX11_hands_5 2 rfl) rfl
theorem dX11_hands_83 : decode cX11_hands 83 = .ok (.ifCond .eq 7, 3) := oq_153 (byt chX11_hands_5 3 rfl) (byt chX11_hands_5 4 rfl) (byt chX11_hands_5 5 rfl) (by decide +kernel)
theorem dX11_hands_86 : decode cX11_hands 86 = .ok (.iconst 1, 1) := oq_4 (byt chX11_hands_5 6 rfl)
theorem dX11_hands_87 : decode cX11_hands 87 = .ok (.goto 4, 3) := oq_167 (byt chX11_hands_5 7 rfl) (byt chX11_hands_5 8 rfl) (byt chX11_hands_5 9 rfl) (by decide +kernel)
theorem dX11_hands_90 : decode cX11_hands 90 = .ok (.iconst 0, 1) := oq_3 (byt chX11_hands_5 10 rfl)
theorem dX11_hands_91 : decode cX11_hands 91 = .ok (.iadd, 1) := oq_96 (byt chX11_hands_5 11 rfl)
theorem dX11_hands_92 : decode cX11_hands 92 = .ok (.istore 6, 2) := oq_54 (byt chX11_hands_5 12 rfl) (byt chX11_hands_5 13 rfl) rfl
theorem dX11_hands_94 : decode cX11_hands 94 = .ok (.iinc 7 1, 3) := oq_132 (byt chX11_hands_5 14 rfl) (byt chX11_hands_5 15 rfl) (byt chX11_hands_6 0 rfl) rfl
theorem dX11_hands_97 : decode cX11_hands 97 = .ok (.goto (-35), 3) := oq_167 (byt chX11_hands_6 1 rfl) (byt chX11_hands_6 2 rfl) (byt chX11_hands_6 3 rfl) (by decide +kernel)
theorem dX11_hands_100 : decode cX11_hands 100 = .ok (.iload 5, 2) := oq_21 (byt chX11_hands_6 4 rfl) (byt chX11_hands_6 5 rfl) rfl
theorem dX11_hands_102 : decode cX11_hands 102 = .ok (.iconst (-1), 1) := oq_2 (byt chX11_hands_6 6 rfl)
theorem dX11_hands_103 : decode cX11_hands 103 = .ok (.if_icmp .eq 8, 3) := oq_159 (byt chX11_hands_6 7 rfl) (byt chX11_hands_6 8 rfl) (byt chX11_hands_6 9 rfl) (by decide +kernel)
theorem dX11_hands_106 : decode cX11_hands 106 = .ok (.iload 6, 2) := oq_21 (byt chX11_hands_6 10 rfl) (byt chX11_hands_6 11 rfl) rfl
theorem dX11_hands_108 : decode cX11_hands 108 = .ok (.ifCond .ne 6, 3) := oq_154 (byt chX11_hands_6 12 rfl) (byt chX11_hands_6 13 rfl) (byt chX11_hands_6 14 rfl) (by decide +kernel)
theorem dX11_hands_111 : decode cX11_hands 111 = .ok (.iload 6, 2) := oq_21 (byt chX11_hands_6 15 rfl) (byt chX11_hands_7 0 rfl) rfl
theorem dX11_hands_113 : decode cX11_hands 113 = .ok (.ireturn, 1) := oq_172 (byt chX11_hands_7 1 rfl)
theorem dX11_hands_114 : decode cX11_hands 114 = .ok (.iconst 0, 1) := oq_3 (byt chX11_hands_7 2 rfl)
theorem dX11_hands_115 : decode cX11_hands 115 = .ok (.istore 7, 2) := oq_54 (byt chX11_hands_7 3 rfl) (byt chX11_hands_7 4 rfl) rfl
theorem dX11_hands_117 : decode cX11_hands 117 = .ok (.iconst 0, 1) := oq_3 (byt chX11_hands_7 5 rfl)
theorem dX11_hands_118 : decode cX11_hands 118 = .ok (.istore 8, 2) := oq_54 (byt chX11_hands_7 6 rfl) (byt chX11_hands_7 7 rfl) rfl
theorem dX11_hands_120 : decode cX11_hands 120 = .ok (.iload 8, 2) := oq_21 (byt chX11_hands_7 8 rfl) (byt chX11_hands_7 9 rfl) rfl
theorem dX11_hands_122 : decode cX11_hands 122 = .ok (.aload_n 0, 1) := oq_42 (byt chX11_hands_7 10 rfl)
theorem dX11_hands_123 : decode cX11_hands 123 = .ok (.getfield 284, 3) := oq_180 (byt chX11_hands_7 11 rfl) (byt chX11_hands_7 12 rfl) (byt chX11_hands_7 13 rfl) rfl
theorem dX11_hands_126 : decode cX11_hands 126 = .ok (.if_icmp .ge 49, 3) := oq_162 (byt chX11_hands_7 14 rfl) (byt chX11_hands_7 15 rfl) (byt chX11_hands_8 0 rfl) (by decide +kernel)
theorem dX11_hands_129 : decode cX11_hands 129 = .ok (.iload 7, 2) := oq_21 (byt chX11_hands_8 1 rfl) (byt chX11_hands_8 2 rfl) rfl
theorem dX11_hands_131 : decode cX11_hands 131 = .ok (.aload_n 0, 1) := oq_42 (byt chX11_hands_8 3 rfl)
theorem dX11_hands_132 : decode cX11_hands 132 = .ok (.getfield 53, 3) := oq_180 (byt chX11_hands_8 4 rfl) (byt chX11_hands_8 5 rfl) (byt chX11_hands_8 6 rfl) rfl
theorem dX11_hands_135 : decode cX11_hands 135 = .ok (.iload 8, 2) := oq_21 (byt chX11_hands_8 7 rfl) (byt chX11_hands_8 8 rfl) rfl
theorem dX11_hands_137 : decode cX11_hands 137 = .ok (.aload_n 0, 1) := oq_42 (byt chX11_hands_8 9 rfl)
theorem dX11_hands_138 : decode cX11_hands 138 = .ok (.iload 5, 2) := oq_21 (byt chX11_hands_8 10 rfl) (byt chX11_hands_8 11 rfl) rfl
theorem dX11_hands_140 : decode cX11_hands 140 = .ok (.iconst 0, 1) := oq_3 (byt chX11_hands_8 12 rfl)
theorem dX11_hands_141 : decode cX11_hands 141 = .ok (.invokevirtual 441, 3) := oq_182 (byt chX11_hands_8 13 rfl) (byt chX11_hands_8 14 rfl) (byt chX11_hands_8 15 rfl) rfl
theorem dX11_hands_144 : decode cX11_hands 144 = .ok (.aload_n 0, 1) := oq_42 (byt chX11_hands_9 0 rfl)
theorem dX11_hands_145 : decode cX11_hands 145 = .ok (.iload 5, 2) := oq_21 (byt chX11_hands_9 1 rfl) (byt chX11_hands_9 2 rfl) rfl
theorem dX11_hands_147 : decode cX11_hands 147 = .ok (.iconst 1, 1) := oq_4 (byt chX11_hands_9 3 rfl)
theorem dX11_hands_148 : decode cX11_hands 148 = .ok (.invokevirtual 441, 3) := oq_182 (byt chX11_hands_9 4 rfl) (byt chX11_hands_9 5 rfl) (byt chX11_hands_9 6 rfl) rfl
theorem dX11_hands_151 : decode cX11_hands 151 = .ok (.invokestatic 344, 3) := oq_184 (byt chX11_hands_9 7 rfl) (byt chX11_hands_9 8 rfl) (byt chX11_hands_9 9 rfl) rfl
theorem dX11_hands_154 : decode cX11_hands 154 = .ok (.iaload, 1) := oq_46 (byt chX11_hands_9 10 rfl)
theorem dX11_hands_155 : decode cX11_hands 155 = .ok (.ifCond .le 10, 3) := oq_158 (byt chX11_hands_9 11 rfl) (byt chX11_hands_9 12 rfl) (byt chX11_hands_9 13 rfl) (by decide +kernel)
theorem dX11_hands_158 : decode cX11_hands 158 = .ok (.iconst 1, 1) := oq_4 (byt chX11_hands_9 14 rfl)
theorem dX11_hands_159 : decode cX11_hands 159 = .ok (.iload 8, 2) := oq_21 (byt chX11_hands_9 15 rfl) (byt chX11_hands_10 0 rfl) rfl
theorem dX11_hands_161 : decode cX11_hands 161 = .ok (.ishl, 1) := oq_120 (byt chX11_hands_10 1 rfl)
theorem dX11_hands_162 : decode cX11_hands 162 = .ok (.goto 4, 3) := oq_167 (byt chX11_hands_10 2 rfl) (byt chX11_hands_10 3 rfl) (byt chX11_hands_10 4 rfl) (by decide +kernel)
theorem dX11_hands_165 : decode cX11_hands 165 = .ok (.iconst 0, 1) := oq_3 (byt chX11_hands_10 5 rfl)
theorem dX11_hands_166 : decode cX11_hands 166 = .ok (.ior, 1) := oq_128 (byt chX11_hands_10 6 rfl)
theorem dX11_hands_167 : decode cX11_hands 167 = .ok (.istore 7, 2) := oq_54 (byt chX11_hands_10 7 rfl) (byt chX11_hands_10 8 rfl) rfl
theorem dX11_hands_169 : decode cX11_hands 169 = .ok (.iinc 8 1, 3) := oq_132 (byt chX11_hands_10 9 rfl) (byt chX11_hands_10 10 rfl) (byt chX11_hands_10 11 rfl) rfl
theorem dX11_hands_172 : decode cX11_hands 172 = .ok (.goto (-52), 3) := oq_167 (byt chX11_hands_10 12 rfl) (byt chX11_hands_10 13 rfl) (byt chX11_hands_10 14 rfl) (by decide +kernel)
theorem dX11_hands_175 : decode cX11_hands 175 = .ok (.iload 7, 2) := oq_21 (byt chX11_hands_10 15 rfl) (byt chX11_hands_11 0 rfl) rfl
theorem dX11_hands_177 : decode cX11_hands 177 = .ok (.ireturn, 1) := oq_172 (byt chX11_hands_11 1 rfl)
abbrev mX11_hands : MI := (yX11_hands, cX11_hands, 9, (some .int), noE)
theorem okX11_hands : cok mX11_hands 5 := ⟨tw1726, tw11, by decide, by decide, by decide, by decide +kernel⟩
def fX11_hands (M : Mem) (a0 a1 a2 a3 a4 a5 : Int) : Option (Int × Mem) :=
  if M.2.1 a0 = 10 then bM (mst M a0 0 0) fun M2 => (fX11_hasSight M2 a0 a4).bind fun r4 => if r4.1 = 0 then (some ((-1), r4.2)) else (if r4.2.2.1 a0 = 10 then (fX11_layAll r4.2 a0 a1 a2 a3).bind fun r7 => if r7.1 = 0 then (some ((-1), r7.2)) else (jn (fun (t12 : Unit) => if r7.2.2.1 a0 = 10 then (fX11_deeds r7.2 a0).bind fun r13 => (fX11_play r7.2 a0 r13).bind fun r16 => iterC (fun (rec18 : (Int × Int) → Option (Int × Mem)) (s19 : Int × Int) => if r16.2.2.1 a0 = 10 then (fX11_gifts r16.2 a0).bind fun r20 => if s19.2 < bShl 1 (w32 (2 * r20)) then ((fX11_canBe r16.2 a0 s19.2).bind fun r24 => if r24 = 0 then (rec18 (w32 (s19.1 + 0), w32 (s19.2 + 1))) else (rec18 (w32 (s19.1 + 1), w32 (s19.2 + 1)))) else (if a5 = (-1) then (some (s19.1, r16.2)) else (if s19.1 = 0 then (some (s19.1, r16.2)) else (iterC (fun (rec29 : (Int × Int) → Option (Int × Mem)) (s30 : Int × Int) => if s30.2 < r16.2.1 a0 26 then ((fX11_giftOf r16.2 a0 a5 0).bind fun r32 => (fX11_giftOf r16.2 a0 a5 1).bind fun r34 => (fX11_place r16.2 s30.2 r32 r34).bind fun r36 => if r16.2.2.1 (r16.2.1 a0 32) = 12 ∧ (0 : Int) ≤ r36 ∧ r36 < r16.2.2.2.1 (r16.2.1 a0 32) then if 0 < r16.2.1 (r16.2.1 a0 32) r36 then (rec29 (bOr s30.1 (bShl 1 s30.2), w32 (s30.2 + 1))) else (rec29 (bOr s30.1 0, w32 (s30.2 + 1))) else none) else (some (s30.1, r16.2))) BIG (0, 0)))) else none) BIG (0, 0) else none) (fun (j11 : Unit → Option (Int × Mem)) => if a5 = (-1) then (j11 ()) else (if r7.2.2.1 a0 = 10 then (fX11_gifts r7.2 a0).bind fun r41 => (fX11_in r7.2 a5 0 (w32 (r41 - 1))).bind fun r44 => if r44 = 0 then (some ((-1), r7.2)) else (j11 ()) else none))) else none) else none
set_option maxRecDepth 100000 in
set_option maxHeartbeats 4000000 in
theorem kX11_hands (d : Nat) (hd : 7 ≤ d) (M : Mem) (a0 a1 a2 a3 a4 a5 : Int) : Ct mX11_hands d 0 0 [pA a0, pI a1, pI a2, pI a3, pI a4, pI a5] M dIM (fX11_hands M a0 a1 a2 a3 a4 a5) := by
  obtain ⟨d, rfl⟩ : ∃ k, d = k + 1 := ⟨d - 1, by omega⟩
  refine Ct.of 3 (fun _ _ _ => trivial) (by decide +kernel) rfl ?_
  unfold fX11_hands
  refine v_aload_n dX11_hands_0 rfl ?_
  refine v_iconst dX11_hands_1 (by decide) ?_
  refine v_if (fun h1 => ?_)
  refine v_put (x := 0) 10 0 rfl inX11 (by decide) tw1193 (Or.inl rfl) rfl dX11_hands_2 h1 rfl id ?_
  refine v_bM (fun M2 e3 => ?_)
  refine v_aload_n dX11_hands_5 rfl ?_
  refine v_iload dX11_hands_6 rfl ?_
  refine v_cV (mi := mX11_hands) (c0 := 0) (c1 := 0) (As := [pI a4]) (st := []) (kX11_hasSight d (by omega) _ _ _) rfl (by rw [e3]; exact h1) rfl okX11_hasSight (Or.inl tw1707) tw1709 tp90 rfl (Nat.le_of_ble_eq_true rfl) dX11_hands_8 (fun r4 => [pI r4.1]) (fun r4 => r4.2) (fun _ => rfl) (fun _ => rfl) (fun r4 h5 => ?_) rfl
  refine v_if_eq (tgt := 45) dX11_hands_11 (by decide) (fun c6 => ?_) (fun c6 => ?_)
  · refine v_iconst dX11_hands_45 (by decide) ?_
    exact v_ireturn dX11_hands_46 rfl rfl
  · refine v_aload_n dX11_hands_14 rfl ?_
    refine v_iload_n dX11_hands_15 rfl ?_
    refine v_iload_n dX11_hands_16 rfl ?_
    refine v_iload_n dX11_hands_17 rfl ?_
    refine v_if (fun h9 => ?_)
    refine v_cV (mi := mX11_hands) (c0 := 0) (c1 := 0) (As := [pI a1, pI a2, pI a3]) (st := []) (kX11_layAll d (by omega) _ _ _ _ _) rfl h9 rfl okX11_layAll (Or.inl tw1570) tw1572 tp66 rfl (Nat.le_of_ble_eq_true rfl) dX11_hands_18 (fun r7 => [pI r7.1]) (fun r7 => r7.2) (fun _ => rfl) (fun _ => rfl) (fun r7 h8 => ?_) rfl
    refine v_if_eq (tgt := 45) dX11_hands_21 (by decide) (fun c10 => ?_) (fun c10 => ?_)
    · refine v_iconst dX11_hands_45 (by decide) ?_
      exact v_ireturn dX11_hands_46 rfl rfl
    · refine v_iload dX11_hands_24 rfl ?_
      refine v_iconst dX11_hands_26 (by decide) ?_
      refine v_join (fun (t12 : Unit) => [some (pA a0), none, none, none, none, some (pI a5), none, none, none]) (fun (t12 : Unit) => []) (fun (t12 : Unit) => r7.2) 47 (fun t12 => ?_) (fun j11 hj11 => ?_)
      · refine v_aload_n dX11_hands_47 rfl ?_
        refine v_aload_n dX11_hands_48 rfl ?_
        refine v_if (fun h15 => ?_)
        refine v_cV (mi := mX11_hands) (c0 := 0) (c1 := 0) (As := []) (st := [pA a0]) (kX11_deeds d (by omega) _ _) rfl h15 rfl okX11_deeds (Or.inl tw1558) tw1560 tp64 rfl (Nat.le_of_ble_eq_true rfl) dX11_hands_49 (fun r13 => [pI r13, pA a0]) (fun r13 => r7.2) (fun _ => rfl) (fun _ => rfl) (fun r13 h14 => ?_) rfl
        refine v_cV (mi := mX11_hands) (c0 := 0) (c1 := 0) (As := [pI r13]) (st := []) (kX11_play d (by omega) _ _ _) rfl h15 rfl okX11_play (Or.inl tw1574) tw1576 tp67 rfl (Nat.le_of_ble_eq_true rfl) dX11_hands_52 (fun r16 => [pI r16.1]) (fun r16 => r16.2) (fun _ => rfl) (fun _ => rfl) (fun r16 h17 => ?_) rfl
        refine v_pop dX11_hands_55 (by intro z hz; cases hz) ?_
        refine v_iconst dX11_hands_56 (by decide) ?_
        refine v_istore (ls' := [some (pA a0), none, none, none, none, some (pI a5), some (pI 0), none, none]) dX11_hands_57 (by decide) rfl ?_
        refine v_iconst dX11_hands_59 (by decide) ?_
        refine v_istore (ls' := [some (pA a0), none, none, none, none, some (pI a5), some (pI 0), some (pI 0), none]) dX11_hands_60 (by decide) rfl ?_
        refine v_loop (fun (s19 : Int × Int) => [some (pA a0), none, none, none, none, some (pI a5), some (pI s19.1), some (pI s19.2), none]) (fun (s19 : Int × Int) => r16.2) (s0 := (0, 0)) ?_
        intro rec18 hrec18 s19
        refine v_iload dX11_hands_62 rfl ?_
        refine v_iconst dX11_hands_64 (by decide) ?_
        refine v_iconst dX11_hands_65 (by decide) ?_
        refine v_aload_n dX11_hands_66 rfl ?_
        refine v_if (fun h22 => ?_)
        refine v_cV (mi := mX11_hands) (c0 := 0) (c1 := 0) (As := []) (st := [pI 2, pI 1, pI s19.2]) (kX11_gifts d (by omega) _ _) rfl h22 rfl okX11_gifts (Or.inl tw1711) tw1713 tp91 rfl (Nat.le_of_ble_eq_true rfl) dX11_hands_67 (fun r20 => [pI r20, pI 2, pI 1, pI s19.2]) (fun r20 => r16.2) (fun _ => rfl) (fun _ => rfl) (fun r20 h21 => ?_) rfl
        refine v_imul dX11_hands_70 ?_
        refine v_ishl dX11_hands_71 ?_
        refine v_icmp_ge (tgt := 100) dX11_hands_72 (by decide) (fun c23 => ?_) (fun c23 => ?_)
        · refine v_iload dX11_hands_75 rfl ?_
          refine v_aload_n dX11_hands_77 rfl ?_
          refine v_iload dX11_hands_78 rfl ?_
          refine v_cV (mi := mX11_hands) (c0 := 0) (c1 := 0) (As := [pI s19.2]) (st := [pI s19.1]) (kX11_canBe d (by omega) _ _ _) rfl h22 rfl okX11_canBe (Or.inl tw1727) tw1729 tp94 rfl (Nat.le_of_ble_eq_true rfl) dX11_hands_80 (fun r24 => [pI r24, pI s19.1]) (fun r24 => r16.2) (fun _ => rfl) (fun _ => rfl) (fun r24 h25 => ?_) rfl
          refine v_if_eq (tgt := 90) dX11_hands_83 (by decide) (fun c26 => ?_) (fun c26 => ?_)
          · refine v_iconst dX11_hands_90 (by decide) ?_
            refine v_iadd dX11_hands_91 ?_
            refine v_istore (ls' := [some (pA a0), none, none, none, none, some (pI a5), some (pI (w32 (s19.1 + 0))), some (pI s19.2), none]) dX11_hands_92 (by decide) rfl ?_
            refine v_iinc (ls' := [some (pA a0), none, none, none, none, some (pI a5), some (pI (w32 (s19.1 + 0))), some (pI (w32 (s19.2 + 1))), none]) dX11_hands_94 (by decide) rfl rfl ?_
            refine v_goto (tgt := 62) dX11_hands_97 (by decide) ?_
            exact hrec18 (w32 (s19.1 + 0), w32 (s19.2 + 1))
          · refine v_iconst dX11_hands_86 (by decide) ?_
            refine v_goto (tgt := 91) dX11_hands_87 (by decide) ?_
            refine v_iadd dX11_hands_91 ?_
            refine v_istore (ls' := [some (pA a0), none, none, none, none, some (pI a5), some (pI (w32 (s19.1 + 1))), some (pI s19.2), none]) dX11_hands_92 (by decide) rfl ?_
            refine v_iinc (ls' := [some (pA a0), none, none, none, none, some (pI a5), some (pI (w32 (s19.1 + 1))), some (pI (w32 (s19.2 + 1))), none]) dX11_hands_94 (by decide) rfl rfl ?_
            refine v_goto (tgt := 62) dX11_hands_97 (by decide) ?_
            exact hrec18 (w32 (s19.1 + 1), w32 (s19.2 + 1))
        · refine v_iload dX11_hands_100 rfl ?_
          refine v_iconst dX11_hands_102 (by decide) ?_
          refine v_icmp_eq (tgt := 111) dX11_hands_103 (by decide) (fun c27 => ?_) (fun c27 => ?_)
          · refine v_iload dX11_hands_111 rfl ?_
            exact v_ireturn dX11_hands_113 rfl rfl
          · refine v_iload dX11_hands_106 rfl ?_
            refine v_if_ne (tgt := 114) dX11_hands_108 (by decide) (fun c28 => ?_) (fun c28 => ?_)
            · refine v_iload dX11_hands_111 rfl ?_
              exact v_ireturn dX11_hands_113 rfl rfl
            · refine v_iconst dX11_hands_114 (by decide) ?_
              refine v_istore (ls' := [some (pA a0), none, none, none, none, some (pI a5), some (pI s19.1), some (pI 0), none]) dX11_hands_115 (by decide) rfl ?_
              refine v_iconst dX11_hands_117 (by decide) ?_
              refine v_istore (ls' := [some (pA a0), none, none, none, none, some (pI a5), some (pI s19.1), some (pI 0), some (pI 0)]) dX11_hands_118 (by decide) rfl ?_
              refine v_drop [some (pA a0), none, none, none, none, some (pI a5), none, some (pI 0), some (pI 0)] (ls_s (ls_n (ls_n (ls_n (ls_n (ls_s (ls_n (ls_s (ls_s ls_e))))))))) ?_
              refine v_loop (fun (s30 : Int × Int) => [some (pA a0), none, none, none, none, some (pI a5), none, some (pI s30.1), some (pI s30.2)]) (fun (s30 : Int × Int) => r16.2) (s0 := (0, 0)) ?_
              intro rec29 hrec29 s30
              refine v_iload dX11_hands_120 rfl ?_
              refine v_aload_n dX11_hands_122 rfl ?_
              refine v_get (v := pI (r16.2.1 a0 26)) 10 26 rfl inX11 (by decide) tw1219 dX11_hands_123 h22 rfl ?_
              refine v_icmp_ge (tgt := 175) dX11_hands_126 (by decide) (fun c31 => ?_) (fun c31 => ?_)
              · refine v_iload dX11_hands_129 rfl ?_
                refine v_aload_n dX11_hands_131 rfl ?_
                refine v_get (v := pA (r16.2.1 a0 32)) 10 32 rfl inX11 (by decide) tw1225 dX11_hands_132 h22 rfl ?_
                refine v_iload dX11_hands_135 rfl ?_
                refine v_aload_n dX11_hands_137 rfl ?_
                refine v_iload dX11_hands_138 rfl ?_
                refine v_iconst dX11_hands_140 (by decide) ?_
                refine v_cV (mi := mX11_hands) (c0 := 0) (c1 := 0) (As := [pI a5, pI 0]) (st := [pI s30.2, pA (r16.2.1 a0 32), pI s30.1]) (kX11_giftOf d (by omega) _ _ _ _) rfl h22 rfl okX11_giftOf (Or.inl tw1715) tw1717 tp92 rfl (Nat.le_of_ble_eq_true rfl) dX11_hands_141 (fun r32 => [pI r32, pI s30.2, pA (r16.2.1 a0 32), pI s30.1]) (fun r32 => r16.2) (fun _ => rfl) (fun _ => rfl) (fun r32 h33 => ?_) rfl
                refine v_aload_n dX11_hands_144 rfl ?_
                refine v_iload dX11_hands_145 rfl ?_
                refine v_iconst dX11_hands_147 (by decide) ?_
                refine v_cV (mi := mX11_hands) (c0 := 0) (c1 := 0) (As := [pI a5, pI 1]) (st := [pI r32, pI s30.2, pA (r16.2.1 a0 32), pI s30.1]) (kX11_giftOf d (by omega) _ _ _ _) rfl h22 rfl okX11_giftOf (Or.inl tw1715) tw1717 tp92 rfl (Nat.le_of_ble_eq_true rfl) dX11_hands_148 (fun r34 => [pI r34, pI r32, pI s30.2, pA (r16.2.1 a0 32), pI s30.1]) (fun r34 => r16.2) (fun _ => rfl) (fun _ => rfl) (fun r34 h35 => ?_) rfl
                refine v_cS (mi := mX11_hands) (c0 := 0) (c1 := 0) (As := [pI s30.2, pI r32, pI r34]) (st := [pA (r16.2.1 a0 32), pI s30.1]) (kX11_place d (by omega) _ _ _ _) okX11_place (Or.inl tw1594) tw1595 rfl (Nat.le_of_ble_eq_true rfl) dX11_hands_151 (fun r36 => [pI r36, pA (r16.2.1 a0 32), pI s30.1]) (fun r36 => r16.2) (fun _ => rfl) (fun _ => rfl) (fun r36 h37 => ?_) rfl
                refine v_if (fun h38 => ?_)
                refine v_iaload h38 dX11_hands_154 ?_
                refine v_if_le (tgt := 165) dX11_hands_155 (by decide) (fun c39 => ?_) (fun c39 => ?_)
                · refine v_iconst dX11_hands_158 (by decide) ?_
                  refine v_iload dX11_hands_159 rfl ?_
                  refine v_ishl dX11_hands_161 ?_
                  refine v_goto (tgt := 166) dX11_hands_162 (by decide) ?_
                  refine v_ior dX11_hands_166 ?_
                  refine v_istore (ls' := [some (pA a0), none, none, none, none, some (pI a5), none, some (pI (bOr s30.1 (bShl 1 s30.2))), some (pI s30.2)]) dX11_hands_167 (by decide) rfl ?_
                  refine v_iinc (ls' := [some (pA a0), none, none, none, none, some (pI a5), none, some (pI (bOr s30.1 (bShl 1 s30.2))), some (pI (w32 (s30.2 + 1)))]) dX11_hands_169 (by decide) rfl rfl ?_
                  refine v_goto (tgt := 120) dX11_hands_172 (by decide) ?_
                  exact hrec29 (bOr s30.1 (bShl 1 s30.2), w32 (s30.2 + 1))
                · refine v_iconst dX11_hands_165 (by decide) ?_
                  refine v_ior dX11_hands_166 ?_
                  refine v_istore (ls' := [some (pA a0), none, none, none, none, some (pI a5), none, some (pI (bOr s30.1 0)), some (pI s30.2)]) dX11_hands_167 (by decide) rfl ?_
                  refine v_iinc (ls' := [some (pA a0), none, none, none, none, some (pI a5), none, some (pI (bOr s30.1 0)), some (pI (w32 (s30.2 + 1)))]) dX11_hands_169 (by decide) rfl rfl ?_
                  refine v_goto (tgt := 120) dX11_hands_172 (by decide) ?_
                  exact hrec29 (bOr s30.1 0, w32 (s30.2 + 1))
              · refine v_iload dX11_hands_175 rfl ?_
                exact v_ireturn dX11_hands_177 rfl rfl
      · refine v_icmp_eq (tgt := 47) dX11_hands_27 (by decide) (fun c40 => ?_) (fun c40 => ?_)
        · exact v_drop [some (pA a0), none, none, none, none, some (pI a5), none, none, none] (ls_s (ls_n (ls_n (ls_n (ls_n (ls_s (ls_n (ls_n (ls_n ls_e))))))))) (hj11 ())
        · refine v_iload dX11_hands_30 rfl ?_
          refine v_iconst dX11_hands_32 (by decide) ?_
          refine v_aload_n dX11_hands_33 rfl ?_
          refine v_if (fun h43 => ?_)
          refine v_cV (mi := mX11_hands) (c0 := 0) (c1 := 0) (As := []) (st := [pI 0, pI a5]) (kX11_gifts d (by omega) _ _) rfl h43 rfl okX11_gifts (Or.inl tw1711) tw1713 tp91 rfl (Nat.le_of_ble_eq_true rfl) dX11_hands_34 (fun r41 => [pI r41, pI 0, pI a5]) (fun r41 => r7.2) (fun _ => rfl) (fun _ => rfl) (fun r41 h42 => ?_) rfl
          refine v_iconst dX11_hands_37 (by decide) ?_
          refine v_isub dX11_hands_38 ?_
          refine v_cS (mi := mX11_hands) (c0 := 0) (c1 := 0) (As := [pI a5, pI 0, pI (w32 (r41 - 1))]) (st := []) (kX11_in d (by omega) _ _ _ _) okX11_in (Or.inl tw1360) tw1361 rfl (Nat.le_of_ble_eq_true rfl) dX11_hands_39 (fun r44 => [pI r44]) (fun r44 => r7.2) (fun _ => rfl) (fun _ => rfl) (fun r44 h45 => ?_) rfl
          refine v_if_ne (tgt := 47) dX11_hands_42 (by decide) (fun c46 => ?_) (fun c46 => ?_)
          · refine v_iconst dX11_hands_45 (by decide) ?_
            exact v_ireturn dX11_hands_46 rfl rfl
          · exact v_drop [some (pA a0), none, none, none, none, some (pI a5), none, none, none] (ls_s (ls_n (ls_n (ls_n (ls_n (ls_s (ls_n (ls_n (ls_n ls_e))))))))) (hj11 ())
theorem chX11_isToldAll_0 : (cX11_isToldAll.data.toList.drop 0).take 16 = [3, 61, 28, 42, 180, 1, 25, 162, 0, 21, 42, 28, 27, 182, 1, 188] := by decide +kernel
theorem chX11_isToldAll_1 : (cX11_isToldAll.data.toList.drop 16).take 16 = [2, 160, 0, 5, 3, 172, 132, 2, 1, 167, 255, 233, 4, 172] := by decide +kernel
theorem dX11_isToldAll_0 : decode cX11_isToldAll 0 = .ok (.iconst 0, 1) := oq_3 (byt chX11_isToldAll_0 0 rfl)
theorem dX11_isToldAll_1 : decode cX11_isToldAll 1 = .ok (.istore_n 2, 1) := oq_61 (byt chX11_isToldAll_0 1 rfl)
theorem dX11_isToldAll_2 : decode cX11_isToldAll 2 = .ok (.iload_n 2, 1) := oq_28 (byt chX11_isToldAll_0 2 rfl)
theorem dX11_isToldAll_3 : decode cX11_isToldAll 3 = .ok (.aload_n 0, 1) := oq_42 (byt chX11_isToldAll_0 3 rfl)
theorem dX11_isToldAll_4 : decode cX11_isToldAll 4 = .ok (.getfield 281, 3) := oq_180 (byt chX11_isToldAll_0 4 rfl) (byt chX11_isToldAll_0 5 rfl) (byt chX11_isToldAll_0 6 rfl) rfl
theorem dX11_isToldAll_7 : decode cX11_isToldAll 7 = .ok (.if_icmp .ge 21, 3) := oq_162 (byt chX11_isToldAll_0 7 rfl) (byt chX11_isToldAll_0 8 rfl) (byt chX11_isToldAll_0 9 rfl) (by decide +kernel)
theorem dX11_isToldAll_10 : decode cX11_isToldAll 10 = .ok (.aload_n 0, 1) := oq_42 (byt chX11_isToldAll_0 10 rfl)
theorem dX11_isToldAll_11 : decode cX11_isToldAll 11 = .ok (.iload_n 2, 1) := oq_28 (byt chX11_isToldAll_0 11 rfl)
theorem dX11_isToldAll_12 : decode cX11_isToldAll 12 = .ok (.iload_n 1, 1) := oq_27 (byt chX11_isToldAll_0 12 rfl)
theorem dX11_isToldAll_13 : decode cX11_isToldAll 13 = .ok (.invokevirtual 444, 3) := oq_182 (byt chX11_isToldAll_0 13 rfl) (byt chX11_isToldAll_0 14 rfl) (byt chX11_isToldAll_0 15 rfl) rfl
theorem dX11_isToldAll_16 : decode cX11_isToldAll 16 = .ok (.iconst (-1), 1) := oq_2 (byt chX11_isToldAll_1 0 rfl)
theorem dX11_isToldAll_17 : decode cX11_isToldAll 17 = .ok (.if_icmp .ne 5, 3) := oq_160 (byt chX11_isToldAll_1 1 rfl) (byt chX11_isToldAll_1 2 rfl) (byt chX11_isToldAll_1 3 rfl) (by decide +kernel)
theorem dX11_isToldAll_20 : decode cX11_isToldAll 20 = .ok (.iconst 0, 1) := oq_3 (byt chX11_isToldAll_1 4 rfl)
theorem dX11_isToldAll_21 : decode cX11_isToldAll 21 = .ok (.ireturn, 1) := oq_172 (byt chX11_isToldAll_1 5 rfl)
theorem dX11_isToldAll_22 : decode cX11_isToldAll 22 = .ok (.iinc 2 1, 3) := oq_132 (byt chX11_isToldAll_1 6 rfl) (byt chX11_isToldAll_1 7 rfl) (byt chX11_isToldAll_1 8 rfl) rfl
theorem dX11_isToldAll_25 : decode cX11_isToldAll 25 = .ok (.goto (-23), 3) := oq_167 (byt chX11_isToldAll_1 9 rfl) (byt chX11_isToldAll_1 10 rfl) (byt chX11_isToldAll_1 11 rfl) (by decide +kernel)
theorem dX11_isToldAll_28 : decode cX11_isToldAll 28 = .ok (.iconst 1, 1) := oq_4 (byt chX11_isToldAll_1 12 rfl)
theorem dX11_isToldAll_29 : decode cX11_isToldAll 29 = .ok (.ireturn, 1) := oq_172 (byt chX11_isToldAll_1 13 rfl)
abbrev mX11_isToldAll : MI := (yX11_isToldAll, cX11_isToldAll, 3, (some .boolean), noE)
theorem okX11_isToldAll : cok mX11_isToldAll 1 := ⟨tw1741, tw11, by decide, by decide, by decide, by decide +kernel⟩
def fX11_isToldAll (M : Mem) (a0 a1 : Int) : Option Int :=
  iterC (fun (rec1 : Int → Option Int) (s2 : Int) => if M.2.1 a0 = 10 then if s2 < M.1 a0 25 then ((fX11_left M a0 s2 a1).bind fun r5 => if r5 = (-1) then (some 0) else (rec1 (w32 (s2 + 1)))) else (some 1) else none) BIG 0
set_option maxRecDepth 100000 in
set_option maxHeartbeats 4000000 in
theorem kX11_isToldAll (d : Nat) (hd : 1 ≤ d) (M : Mem) (a0 a1 : Int) : Ct mX11_isToldAll d 0 0 [pA a0, pI a1] M (dI M) (fX11_isToldAll M a0 a1) := by
  obtain ⟨d, rfl⟩ : ∃ k, d = k + 1 := ⟨d - 1, by omega⟩
  refine Ct.of 1 (fun _ _ _ => trivial) (by decide +kernel) rfl ?_
  unfold fX11_isToldAll
  refine v_iconst dX11_isToldAll_0 (by decide) ?_
  refine v_istore_n (ls' := [some (pA a0), some (pI a1), some (pI 0)]) dX11_isToldAll_1 (by decide) rfl ?_
  refine v_loop (fun (s2 : Int) => [some (pA a0), some (pI a1), some (pI s2)]) (fun (s2 : Int) => M) (s0 := 0) ?_
  intro rec1 hrec1 s2
  refine v_iload_n dX11_isToldAll_2 rfl ?_
  refine v_aload_n dX11_isToldAll_3 rfl ?_
  refine v_if (fun h3 => ?_)
  refine v_get (v := pI (M.1 a0 25)) 10 25 rfl inX11 (by decide) tw1218 dX11_isToldAll_4 h3 rfl ?_
  refine v_icmp_ge (tgt := 28) dX11_isToldAll_7 (by decide) (fun c4 => ?_) (fun c4 => ?_)
  · refine v_aload_n dX11_isToldAll_10 rfl ?_
    refine v_iload_n dX11_isToldAll_11 rfl ?_
    refine v_iload_n dX11_isToldAll_12 rfl ?_
    refine v_cV (mi := mX11_isToldAll) (c0 := 0) (c1 := 0) (As := [pI s2, pI a1]) (st := []) (kX11_left d (by omega) _ _ _ _) rfl h3 rfl okX11_left (Or.inl tw1719) tw1721 tp93 rfl (Nat.le_of_ble_eq_true rfl) dX11_isToldAll_13 (fun r5 => [pI r5]) (fun r5 => M) (fun _ => rfl) (fun _ => rfl) (fun r5 h6 => ?_) rfl
    refine v_iconst dX11_isToldAll_16 (by decide) ?_
    refine v_icmp_ne (tgt := 22) dX11_isToldAll_17 (by decide) (fun c7 => ?_) (fun c7 => ?_)
    · refine v_iconst dX11_isToldAll_20 (by decide) ?_
      exact v_breturn dX11_isToldAll_21 rfl (by decide) rfl
    · refine v_iinc (ls' := [some (pA a0), some (pI a1), some (pI (w32 (s2 + 1)))]) dX11_isToldAll_22 (by decide) rfl rfl ?_
      refine v_goto (tgt := 2) dX11_isToldAll_25 (by decide) ?_
      exact hrec1 (w32 (s2 + 1))
  · refine v_iconst dX11_isToldAll_28 (by decide) ?_
    exact v_breturn dX11_isToldAll_29 rfl (by decide) rfl
theorem chX11_moved_0 : (cX11_moved.data.toList.drop 0).take 16 = [42, 3, 181, 0, 90, 42, 28, 182, 1, 179, 153, 0, 11, 42, 27, 182] := by decide +kernel
theorem chX11_moved_1 : (cX11_moved.data.toList.drop 16).take 16 = [1, 31, 154, 0, 5, 2, 172, 3, 54, 4, 3, 54, 5, 3, 54, 6] := by decide +kernel
theorem chX11_moved_2 : (cX11_moved.data.toList.drop 32).take 16 = [21, 6, 8, 162, 0, 98, 3, 54, 7, 3, 54, 8, 21, 8, 42, 180] := by decide +kernel
theorem chX11_moved_3 : (cX11_moved.data.toList.drop 48).take 16 = [1, 25, 162, 0, 70, 42, 21, 6, 182, 1, 197, 153, 0, 61, 42, 21] := by decide +kernel
theorem chX11_moved_4 : (cX11_moved.data.toList.drop 64).take 16 = [8, 21, 6, 182, 1, 188, 42, 5, 8, 21, 8, 104, 96, 21, 6, 96] := by decide +kernel
theorem chX11_moved_5 : (cX11_moved.data.toList.drop 80).take 16 = [182, 1, 21, 100, 54, 9, 21, 7, 21, 9, 96, 54, 7, 21, 4, 21] := by decide +kernel
theorem chX11_moved_6 : (cX11_moved.data.toList.drop 96).take 16 = [7, 184, 1, 162, 96, 54, 4, 21, 5, 3, 21, 9, 184, 0, 163, 96] := by decide +kernel
theorem chX11_moved_7 : (cX11_moved.data.toList.drop 112).take 16 = [54, 5, 132, 8, 1, 167, 255, 183, 21, 7, 153, 0, 5, 2, 172, 132] := by decide +kernel
theorem chX11_moved_8 : (cX11_moved.data.toList.drop 128).take 16 = [6, 1, 167, 255, 158, 29, 153, 0, 8, 21, 5, 167, 0, 5, 21, 4] := by decide +kernel
theorem chX11_moved_9 : (cX11_moved.data.toList.drop 144).take 16 = [172] := by decide +kernel
theorem dX11_moved_0 : decode cX11_moved 0 = .ok (.aload_n 0, 1) := oq_42 (byt chX11_moved_0 0 rfl)
theorem dX11_moved_1 : decode cX11_moved 1 = .ok (.iconst 0, 1) := oq_3 (byt chX11_moved_0 1 rfl)
theorem dX11_moved_2 : decode cX11_moved 2 = .ok (.putfield 90, 3) := oq_181 (byt chX11_moved_0 2 rfl) (byt chX11_moved_0 3 rfl) (byt chX11_moved_0 4 rfl) rfl
theorem dX11_moved_5 : decode cX11_moved 5 = .ok (.aload_n 0, 1) := oq_42 (byt chX11_moved_0 5 rfl)
theorem dX11_moved_6 : decode cX11_moved 6 = .ok (.iload_n 2, 1) := oq_28 (byt chX11_moved_0 6 rfl)
theorem dX11_moved_7 : decode cX11_moved 7 = .ok (.invokevirtual 435, 3) := oq_182 (byt chX11_moved_0 7 rfl) (byt chX11_moved_0 8 rfl) (byt chX11_moved_0 9 rfl) rfl
theorem dX11_moved_10 : decode cX11_moved 10 = .ok (.ifCond .eq 11, 3) := oq_153 (byt chX11_moved_0 10 rfl) (byt chX11_moved_0 11 rfl) (byt chX11_moved_0 12 rfl) (by decide +kernel)
theorem dX11_moved_13 : decode cX11_moved 13 = .ok (.aload_n 0, 1) := oq_42 (byt chX11_moved_0 13 rfl)
theorem dX11_moved_14 : decode cX11_moved 14 = .ok (.iload_n 1, 1) := oq_27 (byt chX11_moved_0 14 rfl)
theorem dX11_moved_15 : decode cX11_moved 15 = .ok (.invokevirtual 287, 3) := oq_182 (byt chX11_moved_0 15 rfl) (byt chX11_moved_1 0 rfl) (byt chX11_moved_1 1 rfl) rfl
theorem dX11_moved_18 : decode cX11_moved 18 = .ok (.ifCond .ne 5, 3) := oq_154 (byt chX11_moved_1 2 rfl) (byt chX11_moved_1 3 rfl) (byt chX11_moved_1 4 rfl) (by decide +kernel)
theorem dX11_moved_21 : decode cX11_moved 21 = .ok (.iconst (-1), 1) := oq_2 (byt chX11_moved_1 5 rfl)
theorem dX11_moved_22 : decode cX11_moved 22 = .ok (.ireturn, 1) := oq_172 (byt chX11_moved_1 6 rfl)
theorem dX11_moved_23 : decode cX11_moved 23 = .ok (.iconst 0, 1) := oq_3 (byt chX11_moved_1 7 rfl)
theorem dX11_moved_24 : decode cX11_moved 24 = .ok (.istore 4, 2) := oq_54 (byt chX11_moved_1 8 rfl) (byt chX11_moved_1 9 rfl) rfl
theorem dX11_moved_26 : decode cX11_moved 26 = .ok (.iconst 0, 1) := oq_3 (byt chX11_moved_1 10 rfl)
theorem dX11_moved_27 : decode cX11_moved 27 = .ok (.istore 5, 2) := oq_54 (byt chX11_moved_1 11 rfl) (byt chX11_moved_1 12 rfl) rfl
theorem dX11_moved_29 : decode cX11_moved 29 = .ok (.iconst 0, 1) := oq_3 (byt chX11_moved_1 13 rfl)
theorem dX11_moved_30 : decode cX11_moved 30 = .ok (.istore 6, 2) := oq_54 (byt chX11_moved_1 14 rfl) (byt chX11_moved_1 15 rfl) rfl
theorem dX11_moved_32 : decode cX11_moved 32 = .ok (.iload 6, 2) := oq_21 (byt chX11_moved_2 0 rfl) (byt chX11_moved_2 1 rfl) rfl
theorem dX11_moved_34 : decode cX11_moved 34 = .ok (.iconst 5, 1) := oq_8 (byt chX11_moved_2 2 rfl)
theorem dX11_moved_35 : decode cX11_moved 35 = .ok (.if_icmp .ge 98, 3) := oq_162 (byt chX11_moved_2 3 rfl) (byt chX11_moved_2 4 rfl) (byt chX11_moved_2 5 rfl) (by decide +kernel)
theorem dX11_moved_38 : decode cX11_moved 38 = .ok (.iconst 0, 1) := oq_3 (byt chX11_moved_2 6 rfl)
theorem dX11_moved_39 : decode cX11_moved 39 = .ok (.istore 7, 2) := oq_54 (byt chX11_moved_2 7 rfl) (byt chX11_moved_2 8 rfl) rfl
theorem dX11_moved_41 : decode cX11_moved 41 = .ok (.iconst 0, 1) := oq_3 (byt chX11_moved_2 9 rfl)
theorem dX11_moved_42 : decode cX11_moved 42 = .ok (.istore 8, 2) := oq_54 (byt chX11_moved_2 10 rfl) (byt chX11_moved_2 11 rfl) rfl
theorem dX11_moved_44 : decode cX11_moved 44 = .ok (.iload 8, 2) := oq_21 (byt chX11_moved_2 12 rfl) (byt chX11_moved_2 13 rfl) rfl
theorem dX11_moved_46 : decode cX11_moved 46 = .ok (.aload_n 0, 1) := oq_42 (byt chX11_moved_2 14 rfl)
theorem dX11_moved_47 : decode cX11_moved 47 = .ok (.getfield 281, 3) := oq_180 (byt chX11_moved_2 15 rfl) (byt chX11_moved_3 0 rfl) (byt chX11_moved_3 1 rfl) rfl
theorem dX11_moved_50 : decode cX11_moved 50 = .ok (.if_icmp .ge 70, 3) := oq_162 (byt chX11_moved_3 2 rfl) (byt chX11_moved_3 3 rfl) (byt chX11_moved_3 4 rfl) (by decide +kernel)
theorem dX11_moved_53 : decode cX11_moved 53 = .ok (.aload_n 0, 1) := oq_42 (byt chX11_moved_3 5 rfl)
theorem dX11_moved_54 : decode cX11_moved 54 = .ok (.iload 6, 2) := oq_21 (byt chX11_moved_3 6 rfl) (byt chX11_moved_3 7 rfl) rfl
theorem dX11_moved_56 : decode cX11_moved 56 = .ok (.invokevirtual 453, 3) := oq_182 (byt chX11_moved_3 8 rfl) (byt chX11_moved_3 9 rfl) (byt chX11_moved_3 10 rfl) rfl
theorem dX11_moved_59 : decode cX11_moved 59 = .ok (.ifCond .eq 61, 3) := oq_153 (byt chX11_moved_3 11 rfl) (byt chX11_moved_3 12 rfl) (byt chX11_moved_3 13 rfl) (by decide +kernel)
theorem dX11_moved_62 : decode cX11_moved 62 = .ok (.aload_n 0, 1) := oq_42 (byt chX11_moved_3 14 rfl)
theorem dX11_moved_63 : decode cX11_moved 63 = .ok (.iload 8, 2) := oq_21 (byt chX11_moved_3 15 rfl) (byt chX11_moved_4 0 rfl) rfl
theorem dX11_moved_65 : decode cX11_moved 65 = .ok (.iload 6, 2) := oq_21 (byt chX11_moved_4 1 rfl) (byt chX11_moved_4 2 rfl) rfl
theorem dX11_moved_67 : decode cX11_moved 67 = .ok (.invokevirtual 444, 3) := oq_182 (byt chX11_moved_4 3 rfl) (byt chX11_moved_4 4 rfl) (byt chX11_moved_4 5 rfl) rfl
theorem dX11_moved_70 : decode cX11_moved 70 = .ok (.aload_n 0, 1) := oq_42 (byt chX11_moved_4 6 rfl)
theorem dX11_moved_71 : decode cX11_moved 71 = .ok (.iconst 2, 1) := oq_5 (byt chX11_moved_4 7 rfl)
theorem dX11_moved_72 : decode cX11_moved 72 = .ok (.iconst 5, 1) := oq_8 (byt chX11_moved_4 8 rfl)
theorem dX11_moved_73 : decode cX11_moved 73 = .ok (.iload 8, 2) := oq_21 (byt chX11_moved_4 9 rfl) (byt chX11_moved_4 10 rfl) rfl
theorem dX11_moved_75 : decode cX11_moved 75 = .ok (.imul, 1) := oq_104 (byt chX11_moved_4 11 rfl)
theorem dX11_moved_76 : decode cX11_moved 76 = .ok (.iadd, 1) := oq_96 (byt chX11_moved_4 12 rfl)
theorem dX11_moved_77 : decode cX11_moved 77 = .ok (.iload 6, 2) := oq_21 (byt chX11_moved_4 13 rfl) (byt chX11_moved_4 14 rfl) rfl
theorem dX11_moved_79 : decode cX11_moved 79 = .ok (.iadd, 1) := oq_96 (byt chX11_moved_4 15 rfl)
theorem dX11_moved_80 : decode cX11_moved 80 = .ok (.invokevirtual 277, 3) := oq_182 (byt chX11_moved_5 0 rfl) (byt chX11_moved_5 1 rfl) (byt chX11_moved_5 2 rfl) rfl
theorem dX11_moved_83 : decode cX11_moved 83 = .ok (.isub, 1) := oq_100 (byt chX11_moved_5 3 rfl)
theorem dX11_moved_84 : decode cX11_moved 84 = .ok (.istore 9, 2) := oq_54 (byt chX11_moved_5 4 rfl) (byt chX11_moved_5 5 rfl) rfl
theorem dX11_moved_86 : decode cX11_moved 86 = .ok (.iload 7, 2) := oq_21 (byt chX11_moved_5 6 rfl) (byt chX11_moved_5 7 rfl) rfl
theorem dX11_moved_88 : decode cX11_moved 88 = .ok (.iload 9, 2) := oq_21 (byt chX11_moved_5 8 rfl) (byt chX11_moved_5 9 rfl) rfl
theorem dX11_moved_90 : decode cX11_moved 90 = .ok (.iadd, 1) := oq_96 (byt chX11_moved_5 10 rfl)
theorem dX11_moved_91 : decode cX11_moved 91 = .ok (.istore 7, 2) := oq_54 (byt chX11_moved_5 11 rfl) (byt chX11_moved_5 12 rfl) rfl
theorem dX11_moved_93 : decode cX11_moved 93 = .ok (.iload 4, 2) := oq_21 (byt chX11_moved_5 13 rfl) (byt chX11_moved_5 14 rfl) rfl
theorem dX11_moved_95 : decode cX11_moved 95 = .ok (.iload 7, 2) := oq_21 (byt chX11_moved_5 15 rfl) (byt chX11_moved_6 0 rfl) rfl
theorem dX11_moved_97 : decode cX11_moved 97 = .ok (.invokestatic 418, 3) := oq_184 (byt chX11_moved_6 1 rfl) (byt chX11_moved_6 2 rfl) (byt chX11_moved_6 3 rfl) rfl
theorem dX11_moved_100 : decode cX11_moved 100 = .ok (.iadd, 1) := oq_96 (byt chX11_moved_6 4 rfl)
theorem dX11_moved_101 : decode cX11_moved 101 = .ok (.istore 4, 2) := oq_54 (byt chX11_moved_6 5 rfl) (byt chX11_moved_6 6 rfl) rfl
theorem dX11_moved_103 : decode cX11_moved 103 = .ok (.iload 5, 2) := oq_21 (byt chX11_moved_6 7 rfl) (byt chX11_moved_6 8 rfl) rfl
theorem dX11_moved_105 : decode cX11_moved 105 = .ok (.iconst 0, 1) := oq_3 (byt chX11_moved_6 9 rfl)
theorem dX11_moved_106 : decode cX11_moved 106 = .ok (.iload 9, 2) := oq_21 (byt chX11_moved_6 10 rfl) (byt chX11_moved_6 11 rfl) rfl
theorem dX11_moved_108 : decode cX11_moved 108 = .ok (.invokestatic 163, 3) := oq_184 (byt chX11_moved_6 12 rfl) (byt chX11_moved_6 13 rfl) (byt chX11_moved_6 14 rfl) rfl
theorem dX11_moved_111 : decode cX11_moved 111 = .ok (.iadd, 1) := oq_96 (byt chX11_moved_6 15 rfl)
theorem dX11_moved_112 : decode cX11_moved 112 = .ok (.istore 5, 2) := oq_54 (byt chX11_moved_7 0 rfl) (byt chX11_moved_7 1 rfl) rfl
theorem dX11_moved_114 : decode cX11_moved 114 = .ok (.iinc 8 1, 3) := oq_132 (byt chX11_moved_7 2 rfl) (byt chX11_moved_7 3 rfl) (byt chX11_moved_7 4 rfl) rfl
theorem dX11_moved_117 : decode cX11_moved 117 = .ok (.goto (-73), 3) := oq_167 (byt chX11_moved_7 5 rfl) (byt chX11_moved_7 6 rfl) (byt chX11_moved_7 7 rfl) (by decide +kernel)
theorem dX11_moved_120 : decode cX11_moved 120 = .ok (.iload 7, 2) := oq_21 (byt chX11_moved_7 8 rfl) (byt chX11_moved_7 9 rfl) rfl
theorem dX11_moved_122 : decode cX11_moved 122 = .ok (.ifCond .eq 5, 3) := oq_153 (byt chX11_moved_7 10 rfl) (byt chX11_moved_7 11 rfl) (byt chX11_moved_7 12 rfl) (by decide +kernel)
theorem dX11_moved_125 : decode cX11_moved 125 = .ok (.iconst (-1), 1) := oq_2 (byt chX11_moved_7 13 rfl)
theorem dX11_moved_126 : decode cX11_moved 126 = .ok (.ireturn, 1) := oq_172 (byt chX11_moved_7 14 rfl)
theorem dX11_moved_127 : decode cX11_moved 127 = .ok (.iinc 6 1, 3) := oq_132 (byt chX11_moved_7 15 rfl) (byt chX11_moved_8 0 rfl) (byt chX11_moved_8 1 rfl) rfl
theorem dX11_moved_130 : decode cX11_moved 130 = .ok (.goto (-98), 3) := oq_167 (byt chX11_moved_8 2 rfl) (byt chX11_moved_8 3 rfl) (byt chX11_moved_8 4 rfl) (by decide +kernel)
theorem dX11_moved_133 : decode cX11_moved 133 = .ok (.iload_n 3, 1) := oq_29 (byt chX11_moved_8 5 rfl)
theorem dX11_moved_134 : decode cX11_moved 134 = .ok (.ifCond .eq 8, 3) := oq_153 (byt chX11_moved_8 6 rfl) (byt chX11_moved_8 7 rfl) (byt chX11_moved_8 8 rfl) (by decide +kernel)
theorem dX11_moved_137 : decode cX11_moved 137 = .ok (.iload 5, 2) := oq_21 (byt chX11_moved_8 9 rfl) (byt chX11_moved_8 10 rfl) rfl
theorem dX11_moved_139 : decode cX11_moved 139 = .ok (.goto 5, 3) := oq_167 (byt chX11_moved_8 11 rfl) (byt chX11_moved_8 12 rfl) (byt chX11_moved_8 13 rfl) (by decide +kernel)
theorem dX11_moved_142 : decode cX11_moved 142 = .ok (.iload 4, 2) := oq_21 (byt chX11_moved_8 14 rfl) (byt chX11_moved_8 15 rfl) rfl
theorem dX11_moved_144 : decode cX11_moved 144 = .ok (.ireturn, 1) := oq_172 (byt chX11_moved_9 0 rfl)
abbrev mX11_moved : MI := (yX11_moved, cX11_moved, 10, (some .int), noE)
theorem okX11_moved : cok mX11_moved 3 := ⟨tw1737, tw11, by decide, by decide, by decide, by decide +kernel⟩
def fX11_moved (M : Mem) (a0 a1 a2 a3 : Int) : Option (Int × Mem) :=
  if M.2.1 a0 = 10 then bM (mst M a0 0 0) fun M2 => (fX11_hasSight M2 a0 a2).bind fun r4 => if r4.1 = 0 then (some ((-1), r4.2)) else (if r4.2.2.1 a0 = 10 then (fX11_hand r4.2 a0 a1).bind fun r7 => if r7.1 = 0 then (some ((-1), r7.2)) else (iterC (fun (rec11 : (Int × Int × Int) → Option (Int × Mem)) (s12 : Int × Int × Int) => if s12.2.2 < 5 then (iterC (fun (rec14 : (Int × Int × Int × Int) → Option (Int × Mem)) (s15 : Int × Int × Int × Int) => if r7.2.2.1 a0 = 10 then jn (fun (t18 : Unit) => if s15.2.2.1 = 0 then (rec11 (s15.1, s15.2.1, w32 (s12.2.2 + 1))) else (some ((-1), r7.2))) (fun (j17 : Unit → Option (Int × Mem)) => if s15.2.2.2 < r7.2.1 a0 25 then ((fX11_isToldAll r7.2 a0 s12.2.2).bind fun r21 => if r21 = 0 then (j17 ()) else ((fX11_left r7.2 a0 s15.2.2.2 s12.2.2).bind fun r24 => (fX11_of r7.2 a0 (w32 ((w32 (2 + (w32 (5 * s15.2.2.2)))) + s12.2.2))).bind fun r26 => (fX11_size r7.2 (w32 (s15.2.2.1 + (w32 (r24 - r26))))).bind fun r28 => (fX11_greater r7.2 0 (w32 (r24 - r26))).bind fun r30 => rec14 (w32 (s15.1 + r28), w32 (s15.2.1 + r30), w32 (s15.2.2.1 + (w32 (r24 - r26))), w32 (s15.2.2.2 + 1)))) else (j17 ())) else none) BIG (s12.1, s12.2.1, 0, 0)) else (if a3 = 0 then (some (s12.1, r7.2)) else (some (s12.2.1, r7.2)))) BIG (0, 0, 0)) else none) else none
set_option maxRecDepth 100000 in
set_option maxHeartbeats 4000000 in
theorem kX11_moved (d : Nat) (hd : 3 ≤ d) (M : Mem) (a0 a1 a2 a3 : Int) : Ct mX11_moved d 0 0 [pA a0, pI a1, pI a2, pI a3] M dIM (fX11_moved M a0 a1 a2 a3) := by
  obtain ⟨d, rfl⟩ : ∃ k, d = k + 1 := ⟨d - 1, by omega⟩
  refine Ct.of 6 (fun _ _ _ => trivial) (by decide +kernel) rfl ?_
  unfold fX11_moved
  refine v_aload_n dX11_moved_0 rfl ?_
  refine v_iconst dX11_moved_1 (by decide) ?_
  refine v_if (fun h1 => ?_)
  refine v_put (x := 0) 10 0 rfl inX11 (by decide) tw1193 (Or.inl rfl) rfl dX11_moved_2 h1 rfl id ?_
  refine v_bM (fun M2 e3 => ?_)
  refine v_aload_n dX11_moved_5 rfl ?_
  refine v_iload_n dX11_moved_6 rfl ?_
  refine v_cV (mi := mX11_moved) (c0 := 0) (c1 := 0) (As := [pI a2]) (st := []) (kX11_hasSight d (by omega) _ _ _) rfl (by rw [e3]; exact h1) rfl okX11_hasSight (Or.inl tw1707) tw1709 tp90 rfl (Nat.le_of_ble_eq_true rfl) dX11_moved_7 (fun r4 => [pI r4.1]) (fun r4 => r4.2) (fun _ => rfl) (fun _ => rfl) (fun r4 h5 => ?_) rfl
  refine v_if_eq (tgt := 21) dX11_moved_10 (by decide) (fun c6 => ?_) (fun c6 => ?_)
  · refine v_iconst dX11_moved_21 (by decide) ?_
    exact v_ireturn dX11_moved_22 rfl rfl
  · refine v_aload_n dX11_moved_13 rfl ?_
    refine v_iload_n dX11_moved_14 rfl ?_
    refine v_if (fun h9 => ?_)
    refine v_cV (mi := mX11_moved) (c0 := 0) (c1 := 0) (As := [pI a1]) (st := []) (kX11_hand d (by omega) _ _ _) rfl h9 rfl okX11_hand (Or.inl tw1500) tw1502 tp54 rfl (Nat.le_of_ble_eq_true rfl) dX11_moved_15 (fun r7 => [pI r7.1]) (fun r7 => r7.2) (fun _ => rfl) (fun _ => rfl) (fun r7 h8 => ?_) rfl
    refine v_if_ne (tgt := 23) dX11_moved_18 (by decide) (fun c10 => ?_) (fun c10 => ?_)
    · refine v_iconst dX11_moved_21 (by decide) ?_
      exact v_ireturn dX11_moved_22 rfl rfl
    · refine v_iconst dX11_moved_23 (by decide) ?_
      refine v_istore (ls' := [some (pA a0), some (pI a1), some (pI a2), some (pI a3), some (pI 0), none, none, none, none, none]) dX11_moved_24 (by decide) rfl ?_
      refine v_iconst dX11_moved_26 (by decide) ?_
      refine v_istore (ls' := [some (pA a0), some (pI a1), some (pI a2), some (pI a3), some (pI 0), some (pI 0), none, none, none, none]) dX11_moved_27 (by decide) rfl ?_
      refine v_iconst dX11_moved_29 (by decide) ?_
      refine v_istore (ls' := [some (pA a0), some (pI a1), some (pI a2), some (pI a3), some (pI 0), some (pI 0), some (pI 0), none, none, none]) dX11_moved_30 (by decide) rfl ?_
      refine v_drop [some (pA a0), none, none, some (pI a3), some (pI 0), some (pI 0), some (pI 0), none, none, none] (ls_s (ls_n (ls_n (ls_s (ls_s (ls_s (ls_s (ls_n (ls_n (ls_n ls_e)))))))))) ?_
      refine v_loop (fun (s12 : Int × Int × Int) => [some (pA a0), none, none, some (pI a3), some (pI s12.1), some (pI s12.2.1), some (pI s12.2.2), none, none, none]) (fun (s12 : Int × Int × Int) => r7.2) (s0 := (0, 0, 0)) ?_
      intro rec11 hrec11 s12
      refine v_iload dX11_moved_32 rfl ?_
      refine v_iconst dX11_moved_34 (by decide) ?_
      refine v_icmp_ge (tgt := 133) dX11_moved_35 (by decide) (fun c13 => ?_) (fun c13 => ?_)
      · refine v_iconst dX11_moved_38 (by decide) ?_
        refine v_istore (ls' := [some (pA a0), none, none, some (pI a3), some (pI s12.1), some (pI s12.2.1), some (pI s12.2.2), some (pI 0), none, none]) dX11_moved_39 (by decide) rfl ?_
        refine v_iconst dX11_moved_41 (by decide) ?_
        refine v_istore (ls' := [some (pA a0), none, none, some (pI a3), some (pI s12.1), some (pI s12.2.1), some (pI s12.2.2), some (pI 0), some (pI 0), none]) dX11_moved_42 (by decide) rfl ?_
        refine v_loop (fun (s15 : Int × Int × Int × Int) => [some (pA a0), none, none, some (pI a3), some (pI s15.1), some (pI s15.2.1), some (pI s12.2.2), some (pI s15.2.2.1), some (pI s15.2.2.2), none]) (fun (s15 : Int × Int × Int × Int) => r7.2) (s0 := (s12.1, s12.2.1, 0, 0)) ?_
        intro rec14 hrec14 s15
        refine v_iload dX11_moved_44 rfl ?_
        refine v_aload_n dX11_moved_46 rfl ?_
        refine v_if (fun h16 => ?_)
        refine v_get (v := pI (r7.2.1 a0 25)) 10 25 rfl inX11 (by decide) tw1218 dX11_moved_47 h16 rfl ?_
        refine v_join (fun (t18 : Unit) => [some (pA a0), none, none, some (pI a3), some (pI s15.1), some (pI s15.2.1), some (pI s12.2.2), some (pI s15.2.2.1), none, none]) (fun (t18 : Unit) => []) (fun (t18 : Unit) => r7.2) 120 (fun t18 => ?_) (fun j17 hj17 => ?_)
        · refine v_iload dX11_moved_120 rfl ?_
          refine v_if_eq (tgt := 127) dX11_moved_122 (by decide) (fun c19 => ?_) (fun c19 => ?_)
          · refine v_iinc (ls' := [some (pA a0), none, none, some (pI a3), some (pI s15.1), some (pI s15.2.1), some (pI (w32 (s12.2.2 + 1))), some (pI s15.2.2.1), none, none]) dX11_moved_127 (by decide) rfl rfl ?_
            refine v_goto (tgt := 32) dX11_moved_130 (by decide) ?_
            exact v_drop [some (pA a0), none, none, some (pI a3), some (pI s15.1), some (pI s15.2.1), some (pI (w32 (s12.2.2 + 1))), none, none, none] (ls_s (ls_n (ls_n (ls_s (ls_s (ls_s (ls_s (ls_n (ls_n (ls_n ls_e)))))))))) (hrec11 (s15.1, s15.2.1, w32 (s12.2.2 + 1)))
          · refine v_iconst dX11_moved_125 (by decide) ?_
            exact v_ireturn dX11_moved_126 rfl rfl
        · refine v_icmp_ge (tgt := 120) dX11_moved_50 (by decide) (fun c20 => ?_) (fun c20 => ?_)
          · refine v_aload_n dX11_moved_53 rfl ?_
            refine v_iload dX11_moved_54 rfl ?_
            refine v_cV (mi := mX11_moved) (c0 := 0) (c1 := 0) (As := [pI s12.2.2]) (st := []) (kX11_isToldAll d (by omega) _ _ _) rfl h16 rfl okX11_isToldAll (Or.inl tw1738) tw1740 tp95 rfl (Nat.le_of_ble_eq_true rfl) dX11_moved_56 (fun r21 => [pI r21]) (fun r21 => r7.2) (fun _ => rfl) (fun _ => rfl) (fun r21 h22 => ?_) rfl
            refine v_if_eq (tgt := 120) dX11_moved_59 (by decide) (fun c23 => ?_) (fun c23 => ?_)
            · exact v_drop [some (pA a0), none, none, some (pI a3), some (pI s15.1), some (pI s15.2.1), some (pI s12.2.2), some (pI s15.2.2.1), none, none] (ls_s (ls_n (ls_n (ls_s (ls_s (ls_s (ls_s (ls_s (ls_n (ls_n ls_e)))))))))) (hj17 ())
            · refine v_aload_n dX11_moved_62 rfl ?_
              refine v_iload dX11_moved_63 rfl ?_
              refine v_iload dX11_moved_65 rfl ?_
              refine v_cV (mi := mX11_moved) (c0 := 0) (c1 := 0) (As := [pI s15.2.2.2, pI s12.2.2]) (st := []) (kX11_left d (by omega) _ _ _ _) rfl h16 rfl okX11_left (Or.inl tw1719) tw1721 tp93 rfl (Nat.le_of_ble_eq_true rfl) dX11_moved_67 (fun r24 => [pI r24]) (fun r24 => r7.2) (fun _ => rfl) (fun _ => rfl) (fun r24 h25 => ?_) rfl
              refine v_aload_n dX11_moved_70 rfl ?_
              refine v_iconst dX11_moved_71 (by decide) ?_
              refine v_iconst dX11_moved_72 (by decide) ?_
              refine v_iload dX11_moved_73 rfl ?_
              refine v_imul dX11_moved_75 ?_
              refine v_iadd dX11_moved_76 ?_
              refine v_iload dX11_moved_77 rfl ?_
              refine v_iadd dX11_moved_79 ?_
              refine v_cV (mi := mX11_moved) (c0 := 0) (c1 := 0) (As := [pI (w32 ((w32 (2 + (w32 (5 * s15.2.2.2)))) + s12.2.2))]) (st := [pI r24]) (kX11_of d (by omega) _ _ _) rfl h16 rfl okX11_of (Or.inl tw1504) tw1506 tp55 rfl (Nat.le_of_ble_eq_true rfl) dX11_moved_80 (fun r26 => [pI r26, pI r24]) (fun r26 => r7.2) (fun _ => rfl) (fun _ => rfl) (fun r26 h27 => ?_) rfl
              refine v_isub dX11_moved_83 ?_
              refine v_istore (ls' := [some (pA a0), none, none, some (pI a3), some (pI s15.1), some (pI s15.2.1), some (pI s12.2.2), some (pI s15.2.2.1), some (pI s15.2.2.2), some (pI (w32 (r24 - r26)))]) dX11_moved_84 (by decide) rfl ?_
              refine v_iload dX11_moved_86 rfl ?_
              refine v_iload dX11_moved_88 rfl ?_
              refine v_iadd dX11_moved_90 ?_
              refine v_istore (ls' := [some (pA a0), none, none, some (pI a3), some (pI s15.1), some (pI s15.2.1), some (pI s12.2.2), some (pI (w32 (s15.2.2.1 + (w32 (r24 - r26))))), some (pI s15.2.2.2), some (pI (w32 (r24 - r26)))]) dX11_moved_91 (by decide) rfl ?_
              refine v_iload dX11_moved_93 rfl ?_
              refine v_iload dX11_moved_95 rfl ?_
              refine v_cS (mi := mX11_moved) (c0 := 0) (c1 := 0) (As := [pI (w32 (s15.2.2.1 + (w32 (r24 - r26))))]) (st := [pI s15.1]) (kX11_size d (by omega) _ _) okX11_size (Or.inl tw1685) tw1686 rfl (Nat.le_of_ble_eq_true rfl) dX11_moved_97 (fun r28 => [pI r28, pI s15.1]) (fun r28 => r7.2) (fun _ => rfl) (fun _ => rfl) (fun r28 h29 => ?_) rfl
              refine v_iadd dX11_moved_100 ?_
              refine v_istore (ls' := [some (pA a0), none, none, some (pI a3), some (pI (w32 (s15.1 + r28))), some (pI s15.2.1), some (pI s12.2.2), some (pI (w32 (s15.2.2.1 + (w32 (r24 - r26))))), some (pI s15.2.2.2), some (pI (w32 (r24 - r26)))]) dX11_moved_101 (by decide) rfl ?_
              refine v_iload dX11_moved_103 rfl ?_
              refine v_iconst dX11_moved_105 (by decide) ?_
              refine v_iload dX11_moved_106 rfl ?_
              refine v_cS (mi := mX11_moved) (c0 := 0) (c1 := 0) (As := [pI 0, pI (w32 (r24 - r26))]) (st := [pI s15.2.1]) (kX11_greater d (by omega) _ _ _) okX11_greater (Or.inl tw1440) tw1441 rfl (Nat.le_of_ble_eq_true rfl) dX11_moved_108 (fun r30 => [pI r30, pI s15.2.1]) (fun r30 => r7.2) (fun _ => rfl) (fun _ => rfl) (fun r30 h31 => ?_) rfl
              refine v_iadd dX11_moved_111 ?_
              refine v_istore (ls' := [some (pA a0), none, none, some (pI a3), some (pI (w32 (s15.1 + r28))), some (pI (w32 (s15.2.1 + r30))), some (pI s12.2.2), some (pI (w32 (s15.2.2.1 + (w32 (r24 - r26))))), some (pI s15.2.2.2), some (pI (w32 (r24 - r26)))]) dX11_moved_112 (by decide) rfl ?_
              refine v_iinc (ls' := [some (pA a0), none, none, some (pI a3), some (pI (w32 (s15.1 + r28))), some (pI (w32 (s15.2.1 + r30))), some (pI s12.2.2), some (pI (w32 (s15.2.2.1 + (w32 (r24 - r26))))), some (pI (w32 (s15.2.2.2 + 1))), some (pI (w32 (r24 - r26)))]) dX11_moved_114 (by decide) rfl rfl ?_
              refine v_goto (tgt := 44) dX11_moved_117 (by decide) ?_
              exact v_drop [some (pA a0), none, none, some (pI a3), some (pI (w32 (s15.1 + r28))), some (pI (w32 (s15.2.1 + r30))), some (pI s12.2.2), some (pI (w32 (s15.2.2.1 + (w32 (r24 - r26))))), some (pI (w32 (s15.2.2.2 + 1))), none] (ls_s (ls_n (ls_n (ls_s (ls_s (ls_s (ls_s (ls_s (ls_s (ls_n ls_e)))))))))) (hrec14 (w32 (s15.1 + r28), w32 (s15.2.1 + r30), w32 (s15.2.2.1 + (w32 (r24 - r26))), w32 (s15.2.2.2 + 1)))
          · exact v_drop [some (pA a0), none, none, some (pI a3), some (pI s15.1), some (pI s15.2.1), some (pI s12.2.2), some (pI s15.2.2.1), none, none] (ls_s (ls_n (ls_n (ls_s (ls_s (ls_s (ls_s (ls_s (ls_n (ls_n ls_e)))))))))) (hj17 ())
      · refine v_iload_n dX11_moved_133 rfl ?_
        refine v_if_eq (tgt := 142) dX11_moved_134 (by decide) (fun c32 => ?_) (fun c32 => ?_)
        · refine v_iload dX11_moved_142 rfl ?_
          exact v_ireturn dX11_moved_144 rfl rfl
        · refine v_iload dX11_moved_137 rfl ?_
          refine v_goto (tgt := 144) dX11_moved_139 (by decide) ?_
          exact v_ireturn dX11_moved_144 rfl rfl
theorem chX11_doubles_0 : (cX11_doubles.data.toList.drop 0).take 16 = [3, 62, 27, 54, 4, 21, 4, 28, 163, 0, 26, 29, 42, 21, 4, 182] := by decide +kernel
theorem chX11_doubles_1 : (cX11_doubles.data.toList.drop 16).take 16 = [1, 61, 153, 0, 7, 4, 167, 0, 4, 3, 96, 62, 132, 4, 1, 167] := by decide +kernel
theorem chX11_doubles_2 : (cX11_doubles.data.toList.drop 32).take 16 = [255, 230, 29, 172] := by decide +kernel
theorem dX11_doubles_0 : decode cX11_doubles 0 = .ok (.iconst 0, 1) := oq_3 (byt chX11_doubles_0 0 rfl)
theorem dX11_doubles_1 : decode cX11_doubles 1 = .ok (.istore_n 3, 1) := oq_62 (byt chX11_doubles_0 1 rfl)
theorem dX11_doubles_2 : decode cX11_doubles 2 = .ok (.iload_n 1, 1) := oq_27 (byt chX11_doubles_0 2 rfl)
theorem dX11_doubles_3 : decode cX11_doubles 3 = .ok (.istore 4, 2) := oq_54 (byt chX11_doubles_0 3 rfl) (byt chX11_doubles_0 4 rfl) rfl
theorem dX11_doubles_5 : decode cX11_doubles 5 = .ok (.iload 4, 2) := oq_21 (byt chX11_doubles_0 5 rfl) (byt chX11_doubles_0 6 rfl) rfl
theorem dX11_doubles_7 : decode cX11_doubles 7 = .ok (.iload_n 2, 1) := oq_28 (byt chX11_doubles_0 7 rfl)
theorem dX11_doubles_8 : decode cX11_doubles 8 = .ok (.if_icmp .gt 26, 3) := oq_163 (byt chX11_doubles_0 8 rfl) (byt chX11_doubles_0 9 rfl) (byt chX11_doubles_0 10 rfl) (by decide +kernel)
theorem dX11_doubles_11 : decode cX11_doubles 11 = .ok (.iload_n 3, 1) := oq_29 (byt chX11_doubles_0 11 rfl)
theorem dX11_doubles_12 : decode cX11_doubles 12 = .ok (.aload_n 0, 1) := oq_42 (byt chX11_doubles_0 12 rfl)
theorem dX11_doubles_13 : decode cX11_doubles 13 = .ok (.iload 4, 2) := oq_21 (byt chX11_doubles_0 13 rfl) (byt chX11_doubles_0 14 rfl) rfl
theorem dX11_doubles_15 : decode cX11_doubles 15 = .ok (.invokevirtual 317, 3) := oq_182 (byt chX11_doubles_0 15 rfl) (byt chX11_doubles_1 0 rfl) (byt chX11_doubles_1 1 rfl) rfl
theorem dX11_doubles_18 : decode cX11_doubles 18 = .ok (.ifCond .eq 7, 3) := oq_153 (byt chX11_doubles_1 2 rfl) (byt chX11_doubles_1 3 rfl) (byt chX11_doubles_1 4 rfl) (by decide +kernel)
theorem dX11_doubles_21 : decode cX11_doubles 21 = .ok (.iconst 1, 1) := oq_4 (byt chX11_doubles_1 5 rfl)
theorem dX11_doubles_22 : decode cX11_doubles 22 = .ok (.goto 4, 3) := oq_167 (byt chX11_doubles_1 6 rfl) (byt chX11_doubles_1 7 rfl) (byt chX11_doubles_1 8 rfl) (by decide +kernel)
theorem dX11_doubles_25 : decode cX11_doubles 25 = .ok (.iconst 0, 1) := oq_3 (byt chX11_doubles_1 9 rfl)
theorem dX11_doubles_26 : decode cX11_doubles 26 = .ok (.iadd, 1) := oq_96 (byt chX11_doubles_1 10 rfl)
theorem dX11_doubles_27 : decode cX11_doubles 27 = .ok (.istore_n 3, 1) := oq_62 (byt chX11_doubles_1 11 rfl)
theorem dX11_doubles_28 : decode cX11_doubles 28 = .ok (.iinc 4 1, 3) := oq_132 (byt chX11_doubles_1 12 rfl) (byt chX11_doubles_1 13 rfl) (byt chX11_doubles_1 14 rfl) rfl
theorem dX11_doubles_31 : decode cX11_doubles 31 = .ok (.goto (-26), 3) := oq_167 (byt chX11_doubles_1 15 rfl) (byt chX11_doubles_2 0 rfl) (byt chX11_doubles_2 1 rfl) (by decide +kernel)
theorem dX11_doubles_34 : decode cX11_doubles 34 = .ok (.iload_n 3, 1) := oq_29 (byt chX11_doubles_2 2 rfl)
theorem dX11_doubles_35 : decode cX11_doubles 35 = .ok (.ireturn, 1) := oq_172 (byt chX11_doubles_2 3 rfl)
abbrev mX11_doubles : MI := (yX11_doubles, cX11_doubles, 5, (some .int), noE)
theorem okX11_doubles : cok mX11_doubles 2 := ⟨tw1753, tw11, by decide, by decide, by decide, by decide +kernel⟩
def fX11_doubles (M : Mem) (a0 a1 a2 : Int) : Option Int :=
  iterC (fun (rec1 : (Int × Int) → Option Int) (s2 : Int × Int) => if a2 < s2.2 then (some s2.1) else (if M.2.1 a0 = 10 then (fX11_isDouble M a0 s2.2).bind fun r4 => if r4 = 0 then (rec1 (w32 (s2.1 + 0), w32 (s2.2 + 1))) else (rec1 (w32 (s2.1 + 1), w32 (s2.2 + 1))) else none)) BIG (0, a1)
set_option maxRecDepth 100000 in
set_option maxHeartbeats 4000000 in
theorem kX11_doubles (d : Nat) (hd : 2 ≤ d) (M : Mem) (a0 a1 a2 : Int) : Ct mX11_doubles d 0 0 [pA a0, pI a1, pI a2] M (dI M) (fX11_doubles M a0 a1 a2) := by
  obtain ⟨d, rfl⟩ : ∃ k, d = k + 1 := ⟨d - 1, by omega⟩
  refine Ct.of 2 (fun _ _ _ => trivial) (by decide +kernel) rfl ?_
  unfold fX11_doubles
  refine v_iconst dX11_doubles_0 (by decide) ?_
  refine v_istore_n (ls' := [some (pA a0), some (pI a1), some (pI a2), some (pI 0), none]) dX11_doubles_1 (by decide) rfl ?_
  refine v_iload_n dX11_doubles_2 rfl ?_
  refine v_istore (ls' := [some (pA a0), some (pI a1), some (pI a2), some (pI 0), some (pI a1)]) dX11_doubles_3 (by decide) rfl ?_
  refine v_drop [some (pA a0), none, some (pI a2), some (pI 0), some (pI a1)] (ls_s (ls_n (ls_s (ls_s (ls_s ls_e))))) ?_
  refine v_loop (fun (s2 : Int × Int) => [some (pA a0), none, some (pI a2), some (pI s2.1), some (pI s2.2)]) (fun (s2 : Int × Int) => M) (s0 := (0, a1)) ?_
  intro rec1 hrec1 s2
  refine v_iload dX11_doubles_5 rfl ?_
  refine v_iload_n dX11_doubles_7 rfl ?_
  refine v_icmp_gt (tgt := 34) dX11_doubles_8 (by decide) (fun c3 => ?_) (fun c3 => ?_)
  · refine v_iload_n dX11_doubles_34 rfl ?_
    exact v_ireturn dX11_doubles_35 rfl rfl
  · refine v_iload_n dX11_doubles_11 rfl ?_
    refine v_aload_n dX11_doubles_12 rfl ?_
    refine v_iload dX11_doubles_13 rfl ?_
    refine v_if (fun h6 => ?_)
    refine v_cV (mi := mX11_doubles) (c0 := 0) (c1 := 0) (As := [pI s2.2]) (st := [pI s2.1]) (kX11_isDouble d (by omega) _ _ _) rfl h6 rfl okX11_isDouble (Or.inl tw1543) tw1545 tp62 rfl (Nat.le_of_ble_eq_true rfl) dX11_doubles_15 (fun r4 => [pI r4, pI s2.1]) (fun r4 => M) (fun _ => rfl) (fun _ => rfl) (fun r4 h5 => ?_) rfl
    refine v_if_eq (tgt := 25) dX11_doubles_18 (by decide) (fun c7 => ?_) (fun c7 => ?_)
    · refine v_iconst dX11_doubles_25 (by decide) ?_
      refine v_iadd dX11_doubles_26 ?_
      refine v_istore_n (ls' := [some (pA a0), none, some (pI a2), some (pI (w32 (s2.1 + 0))), some (pI s2.2)]) dX11_doubles_27 (by decide) rfl ?_
      refine v_iinc (ls' := [some (pA a0), none, some (pI a2), some (pI (w32 (s2.1 + 0))), some (pI (w32 (s2.2 + 1)))]) dX11_doubles_28 (by decide) rfl rfl ?_
      refine v_goto (tgt := 5) dX11_doubles_31 (by decide) ?_
      exact hrec1 (w32 (s2.1 + 0), w32 (s2.2 + 1))
    · refine v_iconst dX11_doubles_21 (by decide) ?_
      refine v_goto (tgt := 26) dX11_doubles_22 (by decide) ?_
      refine v_iadd dX11_doubles_26 ?_
      refine v_istore_n (ls' := [some (pA a0), none, some (pI a2), some (pI (w32 (s2.1 + 1))), some (pI s2.2)]) dX11_doubles_27 (by decide) rfl ?_
      refine v_iinc (ls' := [some (pA a0), none, some (pI a2), some (pI (w32 (s2.1 + 1))), some (pI (w32 (s2.2 + 1)))]) dX11_doubles_28 (by decide) rfl rfl ?_
      refine v_goto (tgt := 5) dX11_doubles_31 (by decide) ?_
      exact hrec1 (w32 (s2.1 + 1), w32 (s2.2 + 1))
theorem chX11_giftsBy_0 : (cX11_giftsBy.data.toList.drop 0).take 16 = [28, 42, 29, 21, 4, 182, 1, 200, 104, 54, 5, 28, 21, 4, 29, 100] := by decide +kernel
theorem chX11_giftsBy_1 : (cX11_giftsBy.data.toList.drop 16).take 16 = [4, 96, 104, 21, 5, 100, 54, 6, 21, 5, 27, 4, 96, 5, 108, 184] := by decide +kernel
theorem chX11_giftsBy_2 : (cX11_giftsBy.data.toList.drop 32).take 16 = [1, 143, 54, 7, 3, 27, 5, 21, 7, 104, 100, 184, 0, 163, 54, 8] := by decide +kernel
theorem chX11_giftsBy_3 : (cX11_giftsBy.data.toList.drop 48).take 16 = [21, 4, 29, 161, 0, 10, 21, 8, 21, 6, 164, 0, 7, 2, 167, 0] := by decide +kernel
theorem chX11_giftsBy_4 : (cX11_giftsBy.data.toList.drop 64).take 16 = [8, 21, 7, 21, 8, 96, 172] := by decide +kernel
theorem dX11_giftsBy_0 : decode cX11_giftsBy 0 = .ok (.iload_n 2, 1) := oq_28 (byt chX11_giftsBy_0 0 rfl)
theorem dX11_giftsBy_1 : decode cX11_giftsBy 1 = .ok (.aload_n 0, 1) := oq_42 (byt chX11_giftsBy_0 1 rfl)
theorem dX11_giftsBy_2 : decode cX11_giftsBy 2 = .ok (.iload_n 3, 1) := oq_29 (byt chX11_giftsBy_0 2 rfl)
theorem dX11_giftsBy_3 : decode cX11_giftsBy 3 = .ok (.iload 4, 2) := oq_21 (byt chX11_giftsBy_0 3 rfl) (byt chX11_giftsBy_0 4 rfl) rfl
theorem dX11_giftsBy_5 : decode cX11_giftsBy 5 = .ok (.invokevirtual 456, 3) := oq_182 (byt chX11_giftsBy_0 5 rfl) (byt chX11_giftsBy_0 6 rfl) (byt chX11_giftsBy_0 7 rfl) rfl
theorem dX11_giftsBy_8 : decode cX11_giftsBy 8 = .ok (.imul, 1) := oq_104 (byt chX11_giftsBy_0 8 rfl)
theorem dX11_giftsBy_9 : decode cX11_giftsBy 9 = .ok (.istore 5, 2) := oq_54 (byt chX11_giftsBy_0 9 rfl) (byt chX11_giftsBy_0 10 rfl) rfl
theorem dX11_giftsBy_11 : decode cX11_giftsBy 11 = .ok (.iload_n 2, 1) := oq_28 (byt chX11_giftsBy_0 11 rfl)
theorem dX11_giftsBy_12 : decode cX11_giftsBy 12 = .ok (.iload 4, 2) := oq_21 (byt chX11_giftsBy_0 12 rfl) (byt chX11_giftsBy_0 13 rfl) rfl
theorem dX11_giftsBy_14 : decode cX11_giftsBy 14 = .ok (.iload_n 3, 1) := oq_29 (byt chX11_giftsBy_0 14 rfl)
theorem dX11_giftsBy_15 : decode cX11_giftsBy 15 = .ok (.isub, 1) := oq_100 (byt chX11_giftsBy_0 15 rfl)
theorem dX11_giftsBy_16 : decode cX11_giftsBy 16 = .ok (.iconst 1, 1) := oq_4 (byt chX11_giftsBy_1 0 rfl)
theorem dX11_giftsBy_17 : decode cX11_giftsBy 17 = .ok (.iadd, 1) := oq_96 (byt chX11_giftsBy_1 1 rfl)
theorem dX11_giftsBy_18 : decode cX11_giftsBy 18 = .ok (.imul, 1) := oq_104 (byt chX11_giftsBy_1 2 rfl)
theorem dX11_giftsBy_19 : decode cX11_giftsBy 19 = .ok (.iload 5, 2) := oq_21 (byt chX11_giftsBy_1 3 rfl) (byt chX11_giftsBy_1 4 rfl) rfl
theorem dX11_giftsBy_21 : decode cX11_giftsBy 21 = .ok (.isub, 1) := oq_100 (byt chX11_giftsBy_1 5 rfl)
theorem dX11_giftsBy_22 : decode cX11_giftsBy 22 = .ok (.istore 6, 2) := oq_54 (byt chX11_giftsBy_1 6 rfl) (byt chX11_giftsBy_1 7 rfl) rfl
theorem dX11_giftsBy_24 : decode cX11_giftsBy 24 = .ok (.iload 5, 2) := oq_21 (byt chX11_giftsBy_1 8 rfl) (byt chX11_giftsBy_1 9 rfl) rfl
theorem dX11_giftsBy_26 : decode cX11_giftsBy 26 = .ok (.iload_n 1, 1) := oq_27 (byt chX11_giftsBy_1 10 rfl)
theorem dX11_giftsBy_27 : decode cX11_giftsBy 27 = .ok (.iconst 1, 1) := oq_4 (byt chX11_giftsBy_1 11 rfl)
theorem dX11_giftsBy_28 : decode cX11_giftsBy 28 = .ok (.iadd, 1) := oq_96 (byt chX11_giftsBy_1 12 rfl)
theorem dX11_giftsBy_29 : decode cX11_giftsBy 29 = .ok (.iconst 2, 1) := oq_5 (byt chX11_giftsBy_1 13 rfl)
theorem dX11_giftsBy_30 : decode cX11_giftsBy 30 = .ok (.idiv, 1) := oq_108 (byt chX11_giftsBy_1 14 rfl)
theorem dX11_giftsBy_31 : decode cX11_giftsBy 31 = .ok (.invokestatic 399, 3) := oq_184 (byt chX11_giftsBy_1 15 rfl) (byt chX11_giftsBy_2 0 rfl) (byt chX11_giftsBy_2 1 rfl) rfl
theorem dX11_giftsBy_34 : decode cX11_giftsBy 34 = .ok (.istore 7, 2) := oq_54 (byt chX11_giftsBy_2 2 rfl) (byt chX11_giftsBy_2 3 rfl) rfl
theorem dX11_giftsBy_36 : decode cX11_giftsBy 36 = .ok (.iconst 0, 1) := oq_3 (byt chX11_giftsBy_2 4 rfl)
theorem dX11_giftsBy_37 : decode cX11_giftsBy 37 = .ok (.iload_n 1, 1) := oq_27 (byt chX11_giftsBy_2 5 rfl)
theorem dX11_giftsBy_38 : decode cX11_giftsBy 38 = .ok (.iconst 2, 1) := oq_5 (byt chX11_giftsBy_2 6 rfl)
theorem dX11_giftsBy_39 : decode cX11_giftsBy 39 = .ok (.iload 7, 2) := oq_21 (byt chX11_giftsBy_2 7 rfl) (byt chX11_giftsBy_2 8 rfl) rfl
theorem dX11_giftsBy_41 : decode cX11_giftsBy 41 = .ok (.imul, 1) := oq_104 (byt chX11_giftsBy_2 9 rfl)
theorem dX11_giftsBy_42 : decode cX11_giftsBy 42 = .ok (.isub, 1) := oq_100 (byt chX11_giftsBy_2 10 rfl)
theorem dX11_giftsBy_43 : decode cX11_giftsBy 43 = .ok (.invokestatic 163, 3) := oq_184 (byt chX11_giftsBy_2 11 rfl) (byt chX11_giftsBy_2 12 rfl) (byt chX11_giftsBy_2 13 rfl) rfl
theorem dX11_giftsBy_46 : decode cX11_giftsBy 46 = .ok (.istore 8, 2) := oq_54 (byt chX11_giftsBy_2 14 rfl) (byt chX11_giftsBy_2 15 rfl) rfl
theorem dX11_giftsBy_48 : decode cX11_giftsBy 48 = .ok (.iload 4, 2) := oq_21 (byt chX11_giftsBy_3 0 rfl) (byt chX11_giftsBy_3 1 rfl) rfl
theorem dX11_giftsBy_50 : decode cX11_giftsBy 50 = .ok (.iload_n 3, 1) := oq_29 (byt chX11_giftsBy_3 2 rfl)
theorem dX11_giftsBy_51 : decode cX11_giftsBy 51 = .ok (.if_icmp .lt 10, 3) := oq_161 (byt chX11_giftsBy_3 3 rfl) (byt chX11_giftsBy_3 4 rfl) (byt chX11_giftsBy_3 5 rfl) (by decide +kernel)
theorem dX11_giftsBy_54 : decode cX11_giftsBy 54 = .ok (.iload 8, 2) := oq_21 (byt chX11_giftsBy_3 6 rfl) (byt chX11_giftsBy_3 7 rfl) rfl
theorem dX11_giftsBy_56 : decode cX11_giftsBy 56 = .ok (.iload 6, 2) := oq_21 (byt chX11_giftsBy_3 8 rfl) (byt chX11_giftsBy_3 9 rfl) rfl
theorem dX11_giftsBy_58 : decode cX11_giftsBy 58 = .ok (.if_icmp .le 7, 3) := oq_164 (byt chX11_giftsBy_3 10 rfl) (byt chX11_giftsBy_3 11 rfl) (byt chX11_giftsBy_3 12 rfl) (by decide +kernel)
theorem dX11_giftsBy_61 : decode cX11_giftsBy 61 = .ok (.iconst (-1), 1) := oq_2 (byt chX11_giftsBy_3 13 rfl)
theorem dX11_giftsBy_62 : decode cX11_giftsBy 62 = .ok (.goto 8, 3) := oq_167 (byt chX11_giftsBy_3 14 rfl) (byt chX11_giftsBy_3 15 rfl) (byt chX11_giftsBy_4 0 rfl) (by decide +kernel)
theorem dX11_giftsBy_65 : decode cX11_giftsBy 65 = .ok (.iload 7, 2) := oq_21 (byt chX11_giftsBy_4 1 rfl) (byt chX11_giftsBy_4 2 rfl) rfl
theorem dX11_giftsBy_67 : decode cX11_giftsBy 67 = .ok (.iload 8, 2) := oq_21 (byt chX11_giftsBy_4 3 rfl) (byt chX11_giftsBy_4 4 rfl) rfl
theorem dX11_giftsBy_69 : decode cX11_giftsBy 69 = .ok (.iadd, 1) := oq_96 (byt chX11_giftsBy_4 5 rfl)
theorem dX11_giftsBy_70 : decode cX11_giftsBy 70 = .ok (.ireturn, 1) := oq_172 (byt chX11_giftsBy_4 6 rfl)
abbrev mX11_giftsBy : MI := (yX11_giftsBy, cX11_giftsBy, 9, (some .int), noE)
theorem okX11_giftsBy : cok mX11_giftsBy 4 := ⟨tw1749, tw11, by decide, by decide, by decide, by decide +kernel⟩
def fX11_giftsBy (M : Mem) (a0 a1 a2 a3 a4 : Int) : Option Int :=
  if M.2.1 a0 = 10 then (fX11_doubles M a0 a3 a4).bind fun r1 => (fX11_lesser M (w32 (a2 * r1)) (w32 ((w32 (a1 + 1)).tdiv 2))).bind fun r4 => (fX11_greater M 0 (w32 (a1 - (w32 (2 * r4))))).bind fun r6 => if a4 < a3 then (some (-1)) else (if w32 ((w32 (a2 * (w32 ((w32 (a4 - a3)) + 1)))) - (w32 (a2 * r1))) < r6 then (some (-1)) else (some (w32 (r4 + r6)))) else none
set_option maxRecDepth 100000 in
set_option maxHeartbeats 4000000 in
theorem kX11_giftsBy (d : Nat) (hd : 3 ≤ d) (M : Mem) (a0 a1 a2 a3 a4 : Int) : Ct mX11_giftsBy d 0 0 [pA a0, pI a1, pI a2, pI a3, pI a4] M (dI M) (fX11_giftsBy M a0 a1 a2 a3 a4) := by
  obtain ⟨d, rfl⟩ : ∃ k, d = k + 1 := ⟨d - 1, by omega⟩
  refine Ct.of 4 (fun _ _ _ => trivial) (by decide +kernel) rfl ?_
  unfold fX11_giftsBy
  refine v_iload_n dX11_giftsBy_0 rfl ?_
  refine v_aload_n dX11_giftsBy_1 rfl ?_
  refine v_iload_n dX11_giftsBy_2 rfl ?_
  refine v_iload dX11_giftsBy_3 rfl ?_
  refine v_if (fun h3 => ?_)
  refine v_cV (mi := mX11_giftsBy) (c0 := 0) (c1 := 0) (As := [pI a3, pI a4]) (st := [pI a2]) (kX11_doubles d (by omega) _ _ _ _) rfl h3 rfl okX11_doubles (Or.inl tw1750) tw1752 tp97 rfl (Nat.le_of_ble_eq_true rfl) dX11_giftsBy_5 (fun r1 => [pI r1, pI a2]) (fun r1 => M) (fun _ => rfl) (fun _ => rfl) (fun r1 h2 => ?_) rfl
  refine v_imul dX11_giftsBy_8 ?_
  refine v_istore (ls' := [some (pA a0), some (pI a1), some (pI a2), some (pI a3), some (pI a4), some (pI (w32 (a2 * r1))), none, none, none]) dX11_giftsBy_9 (by decide) rfl ?_
  refine v_iload_n dX11_giftsBy_11 rfl ?_
  refine v_iload dX11_giftsBy_12 rfl ?_
  refine v_iload_n dX11_giftsBy_14 rfl ?_
  refine v_isub dX11_giftsBy_15 ?_
  refine v_iconst dX11_giftsBy_16 (by decide) ?_
  refine v_iadd dX11_giftsBy_17 ?_
  refine v_imul dX11_giftsBy_18 ?_
  refine v_iload dX11_giftsBy_19 rfl ?_
  refine v_isub dX11_giftsBy_21 ?_
  refine v_istore (ls' := [some (pA a0), some (pI a1), some (pI a2), some (pI a3), some (pI a4), some (pI (w32 (a2 * r1))), some (pI (w32 ((w32 (a2 * (w32 ((w32 (a4 - a3)) + 1)))) - (w32 (a2 * r1))))), none, none]) dX11_giftsBy_22 (by decide) rfl ?_
  refine v_iload dX11_giftsBy_24 rfl ?_
  refine v_iload_n dX11_giftsBy_26 rfl ?_
  refine v_iconst dX11_giftsBy_27 (by decide) ?_
  refine v_iadd dX11_giftsBy_28 ?_
  refine v_iconst dX11_giftsBy_29 (by decide) ?_
  refine v_idiv (by decide) dX11_giftsBy_30 ?_
  refine v_cS (mi := mX11_giftsBy) (c0 := 0) (c1 := 0) (As := [pI (w32 (a2 * r1)), pI (w32 ((w32 (a1 + 1)).tdiv 2))]) (st := []) (kX11_lesser d (by omega) _ _ _) okX11_lesser (Or.inl tw1665) tw1666 rfl (Nat.le_of_ble_eq_true rfl) dX11_giftsBy_31 (fun r4 => [pI r4]) (fun r4 => M) (fun _ => rfl) (fun _ => rfl) (fun r4 h5 => ?_) rfl
  refine v_istore (ls' := [some (pA a0), some (pI a1), some (pI a2), some (pI a3), some (pI a4), some (pI (w32 (a2 * r1))), some (pI (w32 ((w32 (a2 * (w32 ((w32 (a4 - a3)) + 1)))) - (w32 (a2 * r1))))), some (pI r4), none]) dX11_giftsBy_34 (by decide) rfl ?_
  refine v_iconst dX11_giftsBy_36 (by decide) ?_
  refine v_iload_n dX11_giftsBy_37 rfl ?_
  refine v_iconst dX11_giftsBy_38 (by decide) ?_
  refine v_iload dX11_giftsBy_39 rfl ?_
  refine v_imul dX11_giftsBy_41 ?_
  refine v_isub dX11_giftsBy_42 ?_
  refine v_cS (mi := mX11_giftsBy) (c0 := 0) (c1 := 0) (As := [pI 0, pI (w32 (a1 - (w32 (2 * r4))))]) (st := []) (kX11_greater d (by omega) _ _ _) okX11_greater (Or.inl tw1440) tw1441 rfl (Nat.le_of_ble_eq_true rfl) dX11_giftsBy_43 (fun r6 => [pI r6]) (fun r6 => M) (fun _ => rfl) (fun _ => rfl) (fun r6 h7 => ?_) rfl
  refine v_istore (ls' := [some (pA a0), some (pI a1), some (pI a2), some (pI a3), some (pI a4), some (pI (w32 (a2 * r1))), some (pI (w32 ((w32 (a2 * (w32 ((w32 (a4 - a3)) + 1)))) - (w32 (a2 * r1))))), some (pI r4), some (pI r6)]) dX11_giftsBy_46 (by decide) rfl ?_
  refine v_iload dX11_giftsBy_48 rfl ?_
  refine v_iload_n dX11_giftsBy_50 rfl ?_
  refine v_icmp_lt (tgt := 61) dX11_giftsBy_51 (by decide) (fun c8 => ?_) (fun c8 => ?_)
  · refine v_iconst dX11_giftsBy_61 (by decide) ?_
    refine v_goto (tgt := 70) dX11_giftsBy_62 (by decide) ?_
    exact v_ireturn dX11_giftsBy_70 rfl rfl
  · refine v_iload dX11_giftsBy_54 rfl ?_
    refine v_iload dX11_giftsBy_56 rfl ?_
    refine v_icmp_le (tgt := 65) dX11_giftsBy_58 (by decide) (fun c9 => ?_) (fun c9 => ?_)
    · refine v_iconst dX11_giftsBy_61 (by decide) ?_
      refine v_goto (tgt := 70) dX11_giftsBy_62 (by decide) ?_
      exact v_ireturn dX11_giftsBy_70 rfl rfl
    · refine v_iload dX11_giftsBy_65 rfl ?_
      refine v_iload dX11_giftsBy_67 rfl ?_
      refine v_iadd dX11_giftsBy_69 ?_
      exact v_ireturn dX11_giftsBy_70 rfl rfl
theorem chX11_quit_0 : (cX11_quit.data.toList.drop 0).take 16 = [42, 3, 181, 0, 90, 42, 27, 182, 1, 58, 153, 0, 45, 28, 3, 16] := by decide +kernel
theorem chX11_quit_1 : (cX11_quit.data.toList.drop 16).take 16 = [40, 184, 0, 98, 153, 0, 35, 29, 4, 16, 9, 184, 0, 98, 153, 0] := by decide +kernel
theorem chX11_quit_2 : (cX11_quit.data.toList.drop 32).take 16 = [25, 21, 4, 3, 16, 19, 184, 0, 98, 153, 0, 14, 21, 5, 2, 16] := by decide +kernel
theorem chX11_quit_3 : (cX11_quit.data.toList.drop 48).take 16 = [60, 184, 0, 98, 154, 0, 5, 2, 172, 21, 5, 2, 159, 0, 14, 42] := by decide +kernel
theorem chX11_quit_4 : (cX11_quit.data.toList.drop 64).take 16 = [28, 29, 21, 4, 21, 5, 182, 1, 203, 172, 21, 4, 54, 6, 21, 6] := by decide +kernel
theorem chX11_quit_5 : (cX11_quit.data.toList.drop 80).take 16 = [16, 60, 163, 0, 26, 42, 28, 29, 21, 4, 21, 6, 182, 1, 203, 2] := by decide +kernel
theorem chX11_quit_6 : (cX11_quit.data.toList.drop 96).take 16 = [159, 0, 6, 21, 6, 172, 132, 6, 1, 167, 255, 229, 2, 172] := by decide +kernel
theorem dX11_quit_0 : decode cX11_quit 0 = .ok (.aload_n 0, 1) := oq_42 (byt chX11_quit_0 0 rfl)
theorem dX11_quit_1 : decode cX11_quit 1 = .ok (.iconst 0, 1) := oq_3 (byt chX11_quit_0 1 rfl)
theorem dX11_quit_2 : decode cX11_quit 2 = .ok (.putfield 90, 3) := oq_181 (byt chX11_quit_0 2 rfl) (byt chX11_quit_0 3 rfl) (byt chX11_quit_0 4 rfl) rfl
theorem dX11_quit_5 : decode cX11_quit 5 = .ok (.aload_n 0, 1) := oq_42 (byt chX11_quit_0 5 rfl)
theorem dX11_quit_6 : decode cX11_quit 6 = .ok (.iload_n 1, 1) := oq_27 (byt chX11_quit_0 6 rfl)
theorem dX11_quit_7 : decode cX11_quit 7 = .ok (.invokevirtual 314, 3) := oq_182 (byt chX11_quit_0 7 rfl) (byt chX11_quit_0 8 rfl) (byt chX11_quit_0 9 rfl) rfl
theorem dX11_quit_10 : decode cX11_quit 10 = .ok (.ifCond .eq 45, 3) := oq_153 (byt chX11_quit_0 10 rfl) (byt chX11_quit_0 11 rfl) (byt chX11_quit_0 12 rfl) (by decide +kernel)
theorem dX11_quit_13 : decode cX11_quit 13 = .ok (.iload_n 2, 1) := oq_28 (byt chX11_quit_0 13 rfl)
theorem dX11_quit_14 : decode cX11_quit 14 = .ok (.iconst 0, 1) := oq_3 (byt chX11_quit_0 14 rfl)
theorem dX11_quit_15 : decode cX11_quit 15 = .ok (.bipush 40, 2) := oq_16 (byt chX11_quit_0 15 rfl) (byt chX11_quit_1 0 rfl) rfl
theorem dX11_quit_17 : decode cX11_quit 17 = .ok (.invokestatic 98, 3) := oq_184 (byt chX11_quit_1 1 rfl) (byt chX11_quit_1 2 rfl) (byt chX11_quit_1 3 rfl) rfl
theorem dX11_quit_20 : decode cX11_quit 20 = .ok (.ifCond .eq 35, 3) := oq_153 (byt chX11_quit_1 4 rfl) (byt chX11_quit_1 5 rfl) (byt chX11_quit_1 6 rfl) (by decide +kernel)
theorem dX11_quit_23 : decode cX11_quit 23 = .ok (.iload_n 3, 1) := oq_29 (byt chX11_quit_1 7 rfl)
theorem dX11_quit_24 : decode cX11_quit 24 = .ok (.iconst 1, 1) := oq_4 (byt chX11_quit_1 8 rfl)
theorem dX11_quit_25 : decode cX11_quit 25 = .ok (.bipush 9, 2) := oq_16 (byt chX11_quit_1 9 rfl) (byt chX11_quit_1 10 rfl) rfl
theorem dX11_quit_27 : decode cX11_quit 27 = .ok (.invokestatic 98, 3) := oq_184 (byt chX11_quit_1 11 rfl) (byt chX11_quit_1 12 rfl) (byt chX11_quit_1 13 rfl) rfl
theorem dX11_quit_30 : decode cX11_quit 30 = .ok (.ifCond .eq 25, 3) := oq_153 (byt chX11_quit_1 14 rfl) (byt chX11_quit_1 15 rfl) (byt chX11_quit_2 0 rfl) (by decide +kernel)
theorem dX11_quit_33 : decode cX11_quit 33 = .ok (.iload 4, 2) := oq_21 (byt chX11_quit_2 1 rfl) (byt chX11_quit_2 2 rfl) rfl
theorem dX11_quit_35 : decode cX11_quit 35 = .ok (.iconst 0, 1) := oq_3 (byt chX11_quit_2 3 rfl)
theorem dX11_quit_36 : decode cX11_quit 36 = .ok (.bipush 19, 2) := oq_16 (byt chX11_quit_2 4 rfl) (byt chX11_quit_2 5 rfl) rfl
theorem dX11_quit_38 : decode cX11_quit 38 = .ok (.invokestatic 98, 3) := oq_184 (byt chX11_quit_2 6 rfl) (byt chX11_quit_2 7 rfl) (byt chX11_quit_2 8 rfl) rfl
theorem dX11_quit_41 : decode cX11_quit 41 = .ok (.ifCond .eq 14, 3) := oq_153 (byt chX11_quit_2 9 rfl) (byt chX11_quit_2 10 rfl) (byt chX11_quit_2 11 rfl) (by decide +kernel)
theorem dX11_quit_44 : decode cX11_quit 44 = .ok (.iload 5, 2) := oq_21 (byt chX11_quit_2 12 rfl) (byt chX11_quit_2 13 rfl) rfl
theorem dX11_quit_46 : decode cX11_quit 46 = .ok (.iconst (-1), 1) := oq_2 (byt chX11_quit_2 14 rfl)
theorem dX11_quit_47 : decode cX11_quit 47 = .ok (.bipush 60, 2) := oq_16 (byt chX11_quit_2 15 rfl) (byt chX11_quit_3 0 rfl) rfl
theorem dX11_quit_49 : decode cX11_quit 49 = .ok (.invokestatic 98, 3) := oq_184 (byt chX11_quit_3 1 rfl) (byt chX11_quit_3 2 rfl) (byt chX11_quit_3 3 rfl) rfl
theorem dX11_quit_52 : decode cX11_quit 52 = .ok (.ifCond .ne 5, 3) := oq_154 (byt chX11_quit_3 4 rfl) (byt chX11_quit_3 5 rfl) (byt chX11_quit_3 6 rfl) (by decide +kernel)
theorem dX11_quit_55 : decode cX11_quit 55 = .ok (.iconst (-1), 1) := oq_2 (byt chX11_quit_3 7 rfl)
theorem dX11_quit_56 : decode cX11_quit 56 = .ok (.ireturn, 1) := oq_172 (byt chX11_quit_3 8 rfl)
theorem dX11_quit_57 : decode cX11_quit 57 = .ok (.iload 5, 2) := oq_21 (byt chX11_quit_3 9 rfl) (byt chX11_quit_3 10 rfl) rfl
theorem dX11_quit_59 : decode cX11_quit 59 = .ok (.iconst (-1), 1) := oq_2 (byt chX11_quit_3 11 rfl)
theorem dX11_quit_60 : decode cX11_quit 60 = .ok (.if_icmp .eq 14, 3) := oq_159 (byt chX11_quit_3 12 rfl) (byt chX11_quit_3 13 rfl) (byt chX11_quit_3 14 rfl) (by decide +kernel)
theorem dX11_quit_63 : decode cX11_quit 63 = .ok (.aload_n 0, 1) := oq_42 (byt chX11_quit_3 15 rfl)
theorem dX11_quit_64 : decode cX11_quit 64 = .ok (.iload_n 2, 1) := oq_28 (byt chX11_quit_4 0 rfl)
theorem dX11_quit_65 : decode cX11_quit 65 = .ok (.iload_n 3, 1) := oq_29 (byt chX11_quit_4 1 rfl)
theorem dX11_quit_66 : decode cX11_quit 66 = .ok (.iload 4, 2) := oq_21 (byt chX11_quit_4 2 rfl) (byt chX11_quit_4 3 rfl) rfl
theorem dX11_quit_68 : decode cX11_quit 68 = .ok (.iload 5, 2) := oq_21 (byt chX11_quit_4 4 rfl) (byt chX11_quit_4 5 rfl) rfl
theorem dX11_quit_70 : decode cX11_quit 70 = .ok (.invokevirtual 459, 3) := oq_182 (byt chX11_quit_4 6 rfl) (byt chX11_quit_4 7 rfl) (byt chX11_quit_4 8 rfl) rfl
theorem dX11_quit_73 : decode cX11_quit 73 = .ok (.ireturn, 1) := oq_172 (byt chX11_quit_4 9 rfl)
theorem dX11_quit_74 : decode cX11_quit 74 = .ok (.iload 4, 2) := oq_21 (byt chX11_quit_4 10 rfl) (byt chX11_quit_4 11 rfl) rfl
theorem dX11_quit_76 : decode cX11_quit 76 = .ok (.istore 6, 2) := oq_54 (byt chX11_quit_4 12 rfl) (byt chX11_quit_4 13 rfl) rfl
theorem dX11_quit_78 : decode cX11_quit 78 = .ok (.iload 6, 2) := oq_21 (byt chX11_quit_4 14 rfl) (byt chX11_quit_4 15 rfl) rfl
theorem dX11_quit_80 : decode cX11_quit 80 = .ok (.bipush 60, 2) := oq_16 (byt chX11_quit_5 0 rfl) (byt chX11_quit_5 1 rfl) rfl
theorem dX11_quit_82 : decode cX11_quit 82 = .ok (.if_icmp .gt 26, 3) := oq_163 (byt chX11_quit_5 2 rfl) (byt chX11_quit_5 3 rfl) (byt chX11_quit_5 4 rfl) (by decide +kernel)
theorem dX11_quit_85 : decode cX11_quit 85 = .ok (.aload_n 0, 1) := oq_42 (byt chX11_quit_5 5 rfl)
theorem dX11_quit_86 : decode cX11_quit 86 = .ok (.iload_n 2, 1) := oq_28 (byt chX11_quit_5 6 rfl)
theorem dX11_quit_87 : decode cX11_quit 87 = .ok (.iload_n 3, 1) := oq_29 (byt chX11_quit_5 7 rfl)
theorem dX11_quit_88 : decode cX11_quit 88 = .ok (.iload 4, 2) := oq_21 (byt chX11_quit_5 8 rfl) (byt chX11_quit_5 9 rfl) rfl
theorem dX11_quit_90 : decode cX11_quit 90 = .ok (.iload 6, 2) := oq_21 (byt chX11_quit_5 10 rfl) (byt chX11_quit_5 11 rfl) rfl
theorem dX11_quit_92 : decode cX11_quit 92 = .ok (.invokevirtual 459, 3) := oq_182 (byt chX11_quit_5 12 rfl) (byt chX11_quit_5 13 rfl) (byt chX11_quit_5 14 rfl) rfl
theorem dX11_quit_95 : decode cX11_quit 95 = .ok (.iconst (-1), 1) := oq_2 (byt chX11_quit_5 15 rfl)
theorem dX11_quit_96 : decode cX11_quit 96 = .ok (.if_icmp .eq 6, 3) := oq_159 (byt chX11_quit_6 0 rfl) (byt chX11_quit_6 1 rfl) (byt chX11_quit_6 2 rfl) (by decide +kernel)
theorem dX11_quit_99 : decode cX11_quit 99 = .ok (.iload 6, 2) := oq_21 (byt chX11_quit_6 3 rfl) (byt chX11_quit_6 4 rfl) rfl
theorem dX11_quit_101 : decode cX11_quit 101 = .ok (.ireturn, 1) := oq_172 (byt chX11_quit_6 5 rfl)
theorem dX11_quit_102 : decode cX11_quit 102 = .ok (.iinc 6 1, 3) := oq_132 (byt chX11_quit_6 6 rfl) (byt chX11_quit_6 7 rfl) (byt chX11_quit_6 8 rfl) rfl
theorem dX11_quit_105 : decode cX11_quit 105 = .ok (.goto (-27), 3) := oq_167 (byt chX11_quit_6 9 rfl) (byt chX11_quit_6 10 rfl) (byt chX11_quit_6 11 rfl) (by decide +kernel)
theorem dX11_quit_108 : decode cX11_quit 108 = .ok (.iconst (-1), 1) := oq_2 (byt chX11_quit_6 12 rfl)
theorem dX11_quit_109 : decode cX11_quit 109 = .ok (.ireturn, 1) := oq_172 (byt chX11_quit_6 13 rfl)
abbrev mX11_quit : MI := (yX11_quit, cX11_quit, 7, (some .int), noE)
theorem okX11_quit : cok mX11_quit 5 := ⟨tw1745, tw11, by decide, by decide, by decide, by decide +kernel⟩
def fX11_quit (M : Mem) (a0 a1 a2 a3 a4 a5 : Int) : Option (Int × Mem) :=
  if M.2.1 a0 = 10 then bM (mst M a0 0 0) fun M2 => (fX11_hasLaw M2 a0 a1).bind fun r4 => if r4.1 = 0 then (some ((-1), r4.2)) else ((fX11_in r4.2 a2 0 40).bind fun r7 => if r7 = 0 then (some ((-1), r4.2)) else ((fX11_in r4.2 a3 1 9).bind fun r10 => if r10 = 0 then (some ((-1), r4.2)) else ((fX11_in r4.2 a4 0 19).bind fun r13 => if r13 = 0 then (some ((-1), r4.2)) else ((fX11_in r4.2 a5 (-1) 60).bind fun r16 => if r16 = 0 then (some ((-1), r4.2)) else (if a5 = (-1) then (iterC (fun (rec20 : Int → Option (Int × Mem)) (s21 : Int) => if 60 < s21 then (some ((-1), r4.2)) else (if r4.2.2.1 a0 = 10 then (fX11_giftsBy r4.2 a0 a2 a3 a4 s21).bind fun r23 => if r23 = (-1) then (rec20 (w32 (s21 + 1))) else (some (s21, r4.2)) else none)) BIG a4) else (if r4.2.2.1 a0 = 10 then (fX11_giftsBy r4.2 a0 a2 a3 a4 a5).bind fun r27 => some (r27, r4.2) else none)))))) else none
set_option maxRecDepth 100000 in
set_option maxHeartbeats 4000000 in
theorem kX11_quit (d : Nat) (hd : 4 ≤ d) (M : Mem) (a0 a1 a2 a3 a4 a5 : Int) : Ct mX11_quit d 0 0 [pA a0, pI a1, pI a2, pI a3, pI a4, pI a5] M dIM (fX11_quit M a0 a1 a2 a3 a4 a5) := by
  obtain ⟨d, rfl⟩ : ∃ k, d = k + 1 := ⟨d - 1, by omega⟩
  refine Ct.of 1 (fun _ _ _ => trivial) (by decide +kernel) rfl ?_
  unfold fX11_quit
  refine v_aload_n dX11_quit_0 rfl ?_
  refine v_iconst dX11_quit_1 (by decide) ?_
  refine v_if (fun h1 => ?_)
  refine v_put (x := 0) 10 0 rfl inX11 (by decide) tw1193 (Or.inl rfl) rfl dX11_quit_2 h1 rfl id ?_
  refine v_bM (fun M2 e3 => ?_)
  refine v_aload_n dX11_quit_5 rfl ?_
  refine v_iload_n dX11_quit_6 rfl ?_
  refine v_cV (mi := mX11_quit) (c0 := 0) (c1 := 0) (As := [pI a1]) (st := []) (kX11_hasLaw d (by omega) _ _ _) rfl (by rw [e3]; exact h1) rfl okX11_hasLaw (Or.inl tw1535) tw1537 tp60 rfl (Nat.le_of_ble_eq_true rfl) dX11_quit_7 (fun r4 => [pI r4.1]) (fun r4 => r4.2) (fun _ => rfl) (fun _ => rfl) (fun r4 h5 => ?_) rfl
  refine v_if_eq (tgt := 55) dX11_quit_10 (by decide) (fun c6 => ?_) (fun c6 => ?_)
  · refine v_iconst dX11_quit_55 (by decide) ?_
    exact v_ireturn dX11_quit_56 rfl rfl
  · refine v_iload_n dX11_quit_13 rfl ?_
    refine v_iconst dX11_quit_14 (by decide) ?_
    refine v_bipush dX11_quit_15 (by decide) ?_
    refine v_cS (mi := mX11_quit) (c0 := 0) (c1 := 0) (As := [pI a2, pI 0, pI 40]) (st := []) (kX11_in d (by omega) _ _ _ _) okX11_in (Or.inl tw1360) tw1361 rfl (Nat.le_of_ble_eq_true rfl) dX11_quit_17 (fun r7 => [pI r7]) (fun r7 => r4.2) (fun _ => rfl) (fun _ => rfl) (fun r7 h8 => ?_) rfl
    refine v_if_eq (tgt := 55) dX11_quit_20 (by decide) (fun c9 => ?_) (fun c9 => ?_)
    · refine v_iconst dX11_quit_55 (by decide) ?_
      exact v_ireturn dX11_quit_56 rfl rfl
    · refine v_iload_n dX11_quit_23 rfl ?_
      refine v_iconst dX11_quit_24 (by decide) ?_
      refine v_bipush dX11_quit_25 (by decide) ?_
      refine v_cS (mi := mX11_quit) (c0 := 0) (c1 := 0) (As := [pI a3, pI 1, pI 9]) (st := []) (kX11_in d (by omega) _ _ _ _) okX11_in (Or.inl tw1360) tw1361 rfl (Nat.le_of_ble_eq_true rfl) dX11_quit_27 (fun r10 => [pI r10]) (fun r10 => r4.2) (fun _ => rfl) (fun _ => rfl) (fun r10 h11 => ?_) rfl
      refine v_if_eq (tgt := 55) dX11_quit_30 (by decide) (fun c12 => ?_) (fun c12 => ?_)
      · refine v_iconst dX11_quit_55 (by decide) ?_
        exact v_ireturn dX11_quit_56 rfl rfl
      · refine v_iload dX11_quit_33 rfl ?_
        refine v_iconst dX11_quit_35 (by decide) ?_
        refine v_bipush dX11_quit_36 (by decide) ?_
        refine v_cS (mi := mX11_quit) (c0 := 0) (c1 := 0) (As := [pI a4, pI 0, pI 19]) (st := []) (kX11_in d (by omega) _ _ _ _) okX11_in (Or.inl tw1360) tw1361 rfl (Nat.le_of_ble_eq_true rfl) dX11_quit_38 (fun r13 => [pI r13]) (fun r13 => r4.2) (fun _ => rfl) (fun _ => rfl) (fun r13 h14 => ?_) rfl
        refine v_if_eq (tgt := 55) dX11_quit_41 (by decide) (fun c15 => ?_) (fun c15 => ?_)
        · refine v_iconst dX11_quit_55 (by decide) ?_
          exact v_ireturn dX11_quit_56 rfl rfl
        · refine v_iload dX11_quit_44 rfl ?_
          refine v_iconst dX11_quit_46 (by decide) ?_
          refine v_bipush dX11_quit_47 (by decide) ?_
          refine v_cS (mi := mX11_quit) (c0 := 0) (c1 := 0) (As := [pI a5, pI (-1), pI 60]) (st := []) (kX11_in d (by omega) _ _ _ _) okX11_in (Or.inl tw1360) tw1361 rfl (Nat.le_of_ble_eq_true rfl) dX11_quit_49 (fun r16 => [pI r16]) (fun r16 => r4.2) (fun _ => rfl) (fun _ => rfl) (fun r16 h17 => ?_) rfl
          refine v_if_ne (tgt := 57) dX11_quit_52 (by decide) (fun c18 => ?_) (fun c18 => ?_)
          · refine v_iconst dX11_quit_55 (by decide) ?_
            exact v_ireturn dX11_quit_56 rfl rfl
          · refine v_iload dX11_quit_57 rfl ?_
            refine v_iconst dX11_quit_59 (by decide) ?_
            refine v_icmp_eq (tgt := 74) dX11_quit_60 (by decide) (fun c19 => ?_) (fun c19 => ?_)
            · refine v_iload dX11_quit_74 rfl ?_
              refine v_istore (ls' := [some (pA a0), some (pI a1), some (pI a2), some (pI a3), some (pI a4), some (pI a5), some (pI a4)]) dX11_quit_76 (by decide) rfl ?_
              refine v_drop [some (pA a0), none, some (pI a2), some (pI a3), some (pI a4), none, some (pI a4)] (ls_s (ls_n (ls_s (ls_s (ls_s (ls_n (ls_s ls_e))))))) ?_
              refine v_loop (fun (s21 : Int) => [some (pA a0), none, some (pI a2), some (pI a3), some (pI a4), none, some (pI s21)]) (fun (s21 : Int) => r4.2) (s0 := a4) ?_
              intro rec20 hrec20 s21
              refine v_iload dX11_quit_78 rfl ?_
              refine v_bipush dX11_quit_80 (by decide) ?_
              refine v_icmp_gt (tgt := 108) dX11_quit_82 (by decide) (fun c22 => ?_) (fun c22 => ?_)
              · refine v_iconst dX11_quit_108 (by decide) ?_
                exact v_ireturn dX11_quit_109 rfl rfl
              · refine v_aload_n dX11_quit_85 rfl ?_
                refine v_iload_n dX11_quit_86 rfl ?_
                refine v_iload_n dX11_quit_87 rfl ?_
                refine v_iload dX11_quit_88 rfl ?_
                refine v_iload dX11_quit_90 rfl ?_
                refine v_if (fun h25 => ?_)
                refine v_cV (mi := mX11_quit) (c0 := 0) (c1 := 0) (As := [pI a2, pI a3, pI a4, pI s21]) (st := []) (kX11_giftsBy d (by omega) _ _ _ _ _ _) rfl h25 rfl okX11_giftsBy (Or.inl tw1746) tw1748 tp96 rfl (Nat.le_of_ble_eq_true rfl) dX11_quit_92 (fun r23 => [pI r23]) (fun r23 => r4.2) (fun _ => rfl) (fun _ => rfl) (fun r23 h24 => ?_) rfl
                refine v_iconst dX11_quit_95 (by decide) ?_
                refine v_icmp_eq (tgt := 102) dX11_quit_96 (by decide) (fun c26 => ?_) (fun c26 => ?_)
                · refine v_iinc (ls' := [some (pA a0), none, some (pI a2), some (pI a3), some (pI a4), none, some (pI (w32 (s21 + 1)))]) dX11_quit_102 (by decide) rfl rfl ?_
                  refine v_goto (tgt := 78) dX11_quit_105 (by decide) ?_
                  exact hrec20 (w32 (s21 + 1))
                · refine v_iload dX11_quit_99 rfl ?_
                  exact v_ireturn dX11_quit_101 rfl rfl
            · refine v_aload_n dX11_quit_63 rfl ?_
              refine v_iload_n dX11_quit_64 rfl ?_
              refine v_iload_n dX11_quit_65 rfl ?_
              refine v_iload dX11_quit_66 rfl ?_
              refine v_iload dX11_quit_68 rfl ?_
              refine v_if (fun h29 => ?_)
              refine v_cV (mi := mX11_quit) (c0 := 0) (c1 := 0) (As := [pI a2, pI a3, pI a4, pI a5]) (st := []) (kX11_giftsBy d (by omega) _ _ _ _ _ _) rfl h29 rfl okX11_giftsBy (Or.inl tw1746) tw1748 tp96 rfl (Nat.le_of_ble_eq_true rfl) dX11_quit_70 (fun r27 => [pI r27]) (fun r27 => r4.2) (fun _ => rfl) (fun _ => rfl) (fun r27 h28 => ?_) rfl
              exact v_ireturn dX11_quit_73 rfl rfl
theorem chX11_alms_0 : (cX11_alms.data.toList.drop 0).take 16 = [42, 3, 181, 0, 90, 27, 4, 16, 60, 184, 0, 98, 153, 0, 12, 28] := by decide +kernel
theorem chX11_alms_1 : (cX11_alms.data.toList.drop 16).take 16 = [153, 0, 10, 27, 5, 160, 0, 5, 2, 172, 3, 62, 4, 54, 4, 27] := by decide +kernel
theorem chX11_alms_2 : (cX11_alms.data.toList.drop 32).take 16 = [4, 164, 0, 34, 28, 153, 0, 12, 21, 4, 4, 100, 5, 108, 167, 0] := by decide +kernel
theorem chX11_alms_3 : (cX11_alms.data.toList.drop 48).take 16 = [5, 21, 4, 27, 162, 0, 15, 21, 4, 6, 104, 54, 4, 132, 3, 1] := by decide +kernel
theorem chX11_alms_4 : (cX11_alms.data.toList.drop 64).take 16 = [167, 255, 223, 29, 172] := by decide +kernel
theorem dX11_alms_0 : decode cX11_alms 0 = .ok (.aload_n 0, 1) := oq_42 (byt chX11_alms_0 0 rfl)
theorem dX11_alms_1 : decode cX11_alms 1 = .ok (.iconst 0, 1) := oq_3 (byt chX11_alms_0 1 rfl)
theorem dX11_alms_2 : decode cX11_alms 2 = .ok (.putfield 90, 3) := oq_181 (byt chX11_alms_0 2 rfl) (byt chX11_alms_0 3 rfl) (byt chX11_alms_0 4 rfl) rfl
theorem dX11_alms_5 : decode cX11_alms 5 = .ok (.iload_n 1, 1) := oq_27 (byt chX11_alms_0 5 rfl)
theorem dX11_alms_6 : decode cX11_alms 6 = .ok (.iconst 1, 1) := oq_4 (byt chX11_alms_0 6 rfl)
theorem dX11_alms_7 : decode cX11_alms 7 = .ok (.bipush 60, 2) := oq_16 (byt chX11_alms_0 7 rfl) (byt chX11_alms_0 8 rfl) rfl
theorem dX11_alms_9 : decode cX11_alms 9 = .ok (.invokestatic 98, 3) := oq_184 (byt chX11_alms_0 9 rfl) (byt chX11_alms_0 10 rfl) (byt chX11_alms_0 11 rfl) rfl
theorem dX11_alms_12 : decode cX11_alms 12 = .ok (.ifCond .eq 12, 3) := oq_153 (byt chX11_alms_0 12 rfl) (byt chX11_alms_0 13 rfl) (byt chX11_alms_0 14 rfl) (by decide +kernel)
theorem dX11_alms_15 : decode cX11_alms 15 = .ok (.iload_n 2, 1) := oq_28 (byt chX11_alms_0 15 rfl)
theorem dX11_alms_16 : decode cX11_alms 16 = .ok (.ifCond .eq 10, 3) := oq_153 (byt chX11_alms_1 0 rfl) (byt chX11_alms_1 1 rfl) (byt chX11_alms_1 2 rfl) (by decide +kernel)
theorem dX11_alms_19 : decode cX11_alms 19 = .ok (.iload_n 1, 1) := oq_27 (byt chX11_alms_1 3 rfl)
theorem dX11_alms_20 : decode cX11_alms 20 = .ok (.iconst 2, 1) := oq_5 (byt chX11_alms_1 4 rfl)
theorem dX11_alms_21 : decode cX11_alms 21 = .ok (.if_icmp .ne 5, 3) := oq_160 (byt chX11_alms_1 5 rfl) (byt chX11_alms_1 6 rfl) (byt chX11_alms_1 7 rfl) (by decide +kernel)
theorem dX11_alms_24 : decode cX11_alms 24 = .ok (.iconst (-1), 1) := oq_2 (byt chX11_alms_1 8 rfl)
theorem dX11_alms_25 : decode cX11_alms 25 = .ok (.ireturn, 1) := oq_172 (byt chX11_alms_1 9 rfl)
theorem dX11_alms_26 : decode cX11_alms 26 = .ok (.iconst 0, 1) := oq_3 (byt chX11_alms_1 10 rfl)
theorem dX11_alms_27 : decode cX11_alms 27 = .ok (.istore_n 3, 1) := oq_62 (byt chX11_alms_1 11 rfl)
theorem dX11_alms_28 : decode cX11_alms 28 = .ok (.iconst 1, 1) := oq_4 (byt chX11_alms_1 12 rfl)
theorem dX11_alms_29 : decode cX11_alms 29 = .ok (.istore 4, 2) := oq_54 (byt chX11_alms_1 13 rfl) (byt chX11_alms_1 14 rfl) rfl
theorem dX11_alms_31 : decode cX11_alms 31 = .ok (.iload_n 1, 1) := oq_27 (byt chX11_alms_1 15 rfl)
theorem dX11_alms_32 : decode cX11_alms 32 = .ok (.iconst 1, 1) := oq_4 (byt chX11_alms_2 0 rfl)
theorem dX11_alms_33 : decode cX11_alms 33 = .ok (.if_icmp .le 34, 3) := oq_164 (byt chX11_alms_2 1 rfl) (byt chX11_alms_2 2 rfl) (byt chX11_alms_2 3 rfl) (by decide +kernel)
theorem dX11_alms_36 : decode cX11_alms 36 = .ok (.iload_n 2, 1) := oq_28 (byt chX11_alms_2 4 rfl)
theorem dX11_alms_37 : decode cX11_alms 37 = .ok (.ifCond .eq 12, 3) := oq_153 (byt chX11_alms_2 5 rfl) (byt chX11_alms_2 6 rfl) (byt chX11_alms_2 7 rfl) (by decide +kernel)
theorem dX11_alms_40 : decode cX11_alms 40 = .ok (.iload 4, 2) := oq_21 (byt chX11_alms_2 8 rfl) (byt chX11_alms_2 9 rfl) rfl
theorem dX11_alms_42 : decode cX11_alms 42 = .ok (.iconst 1, 1) := oq_4 (byt chX11_alms_2 10 rfl)
theorem dX11_alms_43 : decode cX11_alms 43 = .ok (.isub, 1) := oq_100 (byt chX11_alms_2 11 rfl)
theorem dX11_alms_44 : decode cX11_alms 44 = .ok (.iconst 2, 1) := oq_5 (byt chX11_alms_2 12 rfl)
theorem dX11_alms_45 : decode cX11_alms 45 = .ok (.idiv, 1) := oq_108 (byt chX11_alms_2 13 rfl)
theorem dX11_alms_46 : decode cX11_alms 46 = .ok (.goto 5, 3) := oq_167 (byt chX11_alms_2 14 rfl) (byt chX11_alms_2 15 rfl) (byt chX11_alms_3 0 rfl) (by decide +kernel)
theorem dX11_alms_49 : decode cX11_alms 49 = .ok (.iload 4, 2) := oq_21 (byt chX11_alms_3 1 rfl) (byt chX11_alms_3 2 rfl) rfl
theorem dX11_alms_51 : decode cX11_alms 51 = .ok (.iload_n 1, 1) := oq_27 (byt chX11_alms_3 3 rfl)
theorem dX11_alms_52 : decode cX11_alms 52 = .ok (.if_icmp .ge 15, 3) := oq_162 (byt chX11_alms_3 4 rfl) (byt chX11_alms_3 5 rfl) (byt chX11_alms_3 6 rfl) (by decide +kernel)
theorem dX11_alms_55 : decode cX11_alms 55 = .ok (.iload 4, 2) := oq_21 (byt chX11_alms_3 7 rfl) (byt chX11_alms_3 8 rfl) rfl
theorem dX11_alms_57 : decode cX11_alms 57 = .ok (.iconst 3, 1) := oq_6 (byt chX11_alms_3 9 rfl)
theorem dX11_alms_58 : decode cX11_alms 58 = .ok (.imul, 1) := oq_104 (byt chX11_alms_3 10 rfl)
theorem dX11_alms_59 : decode cX11_alms 59 = .ok (.istore 4, 2) := oq_54 (byt chX11_alms_3 11 rfl) (byt chX11_alms_3 12 rfl) rfl
theorem dX11_alms_61 : decode cX11_alms 61 = .ok (.iinc 3 1, 3) := oq_132 (byt chX11_alms_3 13 rfl) (byt chX11_alms_3 14 rfl) (byt chX11_alms_3 15 rfl) rfl
theorem dX11_alms_64 : decode cX11_alms 64 = .ok (.goto (-33), 3) := oq_167 (byt chX11_alms_4 0 rfl) (byt chX11_alms_4 1 rfl) (byt chX11_alms_4 2 rfl) (by decide +kernel)
theorem dX11_alms_67 : decode cX11_alms 67 = .ok (.iload_n 3, 1) := oq_29 (byt chX11_alms_4 3 rfl)
theorem dX11_alms_68 : decode cX11_alms 68 = .ok (.ireturn, 1) := oq_172 (byt chX11_alms_4 4 rfl)
abbrev mX11_alms : MI := (yX11_alms, cX11_alms, 5, (some .int), noE)
theorem okX11_alms : cok mX11_alms 2 := ⟨tw1757, tw11, by decide, by decide, by decide, by decide +kernel⟩
def fX11_alms (M : Mem) (a0 a1 a2 : Int) : Option (Int × Mem) :=
  if M.2.1 a0 = 10 then bM (mst M a0 0 0) fun M2 => (fX11_in M2 a1 1 60).bind fun r4 => if r4 = 0 then (some ((-1), M2)) else (jn (fun (t8 : Unit) => iterC (fun (rec9 : (Int × Int) → Option (Int × Mem)) (s10 : Int × Int) => if 1 < a1 then (jn (fun (t13 : Int) => if t13 < a1 then (rec9 (w32 (s10.1 + 1), w32 (s10.2 * 3))) else (some (s10.1, M2))) (fun (j12 : Int → Option (Int × Mem)) => if a2 = 0 then (j12 s10.2) else (j12 (w32 ((w32 (s10.2 - 1)).tdiv 2))))) else (some (s10.1, M2))) BIG (0, 1)) (fun (j7 : Unit → Option (Int × Mem)) => if a2 = 0 then (j7 ()) else (if a1 = 2 then (some ((-1), M2)) else (j7 ())))) else none
set_option maxRecDepth 100000 in
set_option maxHeartbeats 4000000 in
theorem kX11_alms (d : Nat) (hd : 1 ≤ d) (M : Mem) (a0 a1 a2 : Int) : Ct mX11_alms d 0 0 [pA a0, pI a1, pI a2] M dIM (fX11_alms M a0 a1 a2) := by
  obtain ⟨d, rfl⟩ : ∃ k, d = k + 1 := ⟨d - 1, by omega⟩
  refine Ct.of 2 (fun _ _ _ => trivial) (by decide +kernel) rfl ?_
  unfold fX11_alms
  refine v_aload_n dX11_alms_0 rfl ?_
  refine v_iconst dX11_alms_1 (by decide) ?_
  refine v_if (fun h1 => ?_)
  refine v_put (x := 0) 10 0 rfl inX11 (by decide) tw1193 (Or.inl rfl) rfl dX11_alms_2 h1 rfl id ?_
  refine v_bM (fun M2 e3 => ?_)
  refine v_iload_n dX11_alms_5 rfl ?_
  refine v_iconst dX11_alms_6 (by decide) ?_
  refine v_bipush dX11_alms_7 (by decide) ?_
  refine v_cS (mi := mX11_alms) (c0 := 0) (c1 := 0) (As := [pI a1, pI 1, pI 60]) (st := []) (kX11_in d (by omega) _ _ _ _) okX11_in (Or.inl tw1360) tw1361 rfl (Nat.le_of_ble_eq_true rfl) dX11_alms_9 (fun r4 => [pI r4]) (fun r4 => M2) (fun _ => rfl) (fun _ => rfl) (fun r4 h5 => ?_) rfl
  refine v_if_eq (tgt := 24) dX11_alms_12 (by decide) (fun c6 => ?_) (fun c6 => ?_)
  · refine v_iconst dX11_alms_24 (by decide) ?_
    exact v_ireturn dX11_alms_25 rfl rfl
  · refine v_iload_n dX11_alms_15 rfl ?_
    refine v_join (fun (t8 : Unit) => [none, some (pI a1), some (pI a2), none, none]) (fun (t8 : Unit) => []) (fun (t8 : Unit) => M2) 26 (fun t8 => ?_) (fun j7 hj7 => ?_)
    · refine v_iconst dX11_alms_26 (by decide) ?_
      refine v_istore_n (ls' := [none, some (pI a1), some (pI a2), some (pI 0), none]) dX11_alms_27 (by decide) rfl ?_
      refine v_iconst dX11_alms_28 (by decide) ?_
      refine v_istore (ls' := [none, some (pI a1), some (pI a2), some (pI 0), some (pI 1)]) dX11_alms_29 (by decide) rfl ?_
      refine v_loop (fun (s10 : Int × Int) => [none, some (pI a1), some (pI a2), some (pI s10.1), some (pI s10.2)]) (fun (s10 : Int × Int) => M2) (s0 := (0, 1)) ?_
      intro rec9 hrec9 s10
      refine v_iload_n dX11_alms_31 rfl ?_
      refine v_iconst dX11_alms_32 (by decide) ?_
      refine v_icmp_le (tgt := 67) dX11_alms_33 (by decide) (fun c11 => ?_) (fun c11 => ?_)
      · refine v_iload_n dX11_alms_36 rfl ?_
        refine v_join (fun (t13 : Int) => [none, some (pI a1), some (pI a2), some (pI s10.1), some (pI s10.2)]) (fun (t13 : Int) => [pI t13]) (fun (t13 : Int) => M2) 51 (fun t13 => ?_) (fun j12 hj12 => ?_)
        · refine v_iload_n dX11_alms_51 rfl ?_
          refine v_icmp_ge (tgt := 67) dX11_alms_52 (by decide) (fun c14 => ?_) (fun c14 => ?_)
          · refine v_iload dX11_alms_55 rfl ?_
            refine v_iconst dX11_alms_57 (by decide) ?_
            refine v_imul dX11_alms_58 ?_
            refine v_istore (ls' := [none, some (pI a1), some (pI a2), some (pI s10.1), some (pI (w32 (s10.2 * 3)))]) dX11_alms_59 (by decide) rfl ?_
            refine v_iinc (ls' := [none, some (pI a1), some (pI a2), some (pI (w32 (s10.1 + 1))), some (pI (w32 (s10.2 * 3)))]) dX11_alms_61 (by decide) rfl rfl ?_
            refine v_goto (tgt := 31) dX11_alms_64 (by decide) ?_
            exact hrec9 (w32 (s10.1 + 1), w32 (s10.2 * 3))
          · refine v_iload_n dX11_alms_67 rfl ?_
            exact v_ireturn dX11_alms_68 rfl rfl
        · refine v_if_eq (tgt := 49) dX11_alms_37 (by decide) (fun c15 => ?_) (fun c15 => ?_)
          · refine v_iload dX11_alms_49 rfl ?_
            exact hj12 s10.2
          · refine v_iload dX11_alms_40 rfl ?_
            refine v_iconst dX11_alms_42 (by decide) ?_
            refine v_isub dX11_alms_43 ?_
            refine v_iconst dX11_alms_44 (by decide) ?_
            refine v_idiv (by decide) dX11_alms_45 ?_
            refine v_goto (tgt := 51) dX11_alms_46 (by decide) ?_
            exact hj12 (w32 ((w32 (s10.2 - 1)).tdiv 2))
      · refine v_iload_n dX11_alms_67 rfl ?_
        exact v_ireturn dX11_alms_68 rfl rfl
    · refine v_if_eq (tgt := 26) dX11_alms_16 (by decide) (fun c16 => ?_) (fun c16 => ?_)
      · exact v_drop [none, some (pI a1), some (pI a2), none, none] (ls_n (ls_s (ls_s (ls_n (ls_n ls_e))))) (hj7 ())
      · refine v_iload_n dX11_alms_19 rfl ?_
        refine v_iconst dX11_alms_20 (by decide) ?_
        refine v_icmp_ne (tgt := 26) dX11_alms_21 (by decide) (fun c17 => ?_) (fun c17 => ?_)
        · refine v_iconst dX11_alms_24 (by decide) ?_
          exact v_ireturn dX11_alms_25 rfl rfl
        · exact v_drop [none, some (pI a1), some (pI a2), none, none] (ls_n (ls_s (ls_s (ls_n (ls_n ls_e))))) (hj7 ())
theorem chX11_worthOf_0 : (cX11_worthOf.data.toList.drop 0).take 16 = [3, 61, 3, 62, 29, 8, 162, 0, 32, 28, 42, 5, 8, 27, 104, 96] := by decide +kernel
theorem chX11_worthOf_1 : (cX11_worthOf.data.toList.drop 16).take 16 = [29, 96, 182, 1, 21, 42, 16, 79, 29, 96, 182, 1, 21, 104, 96, 61] := by decide +kernel
theorem chX11_worthOf_2 : (cX11_worthOf.data.toList.drop 32).take 16 = [132, 3, 1, 167, 255, 225, 28, 172] := by decide +kernel
theorem dX11_worthOf_0 : decode cX11_worthOf 0 = .ok (.iconst 0, 1) := oq_3 (byt chX11_worthOf_0 0 rfl)
theorem dX11_worthOf_1 : decode cX11_worthOf 1 = .ok (.istore_n 2, 1) := oq_61 (byt chX11_worthOf_0 1 rfl)
theorem dX11_worthOf_2 : decode cX11_worthOf 2 = .ok (.iconst 0, 1) := oq_3 (byt chX11_worthOf_0 2 rfl)
theorem dX11_worthOf_3 : decode cX11_worthOf 3 = .ok (.istore_n 3, 1) := oq_62 (byt chX11_worthOf_0 3 rfl)
theorem dX11_worthOf_4 : decode cX11_worthOf 4 = .ok (.iload_n 3, 1) := oq_29 (byt chX11_worthOf_0 4 rfl)
theorem dX11_worthOf_5 : decode cX11_worthOf 5 = .ok (.iconst 5, 1) := oq_8 (byt chX11_worthOf_0 5 rfl)
theorem dX11_worthOf_6 : decode cX11_worthOf 6 = .ok (.if_icmp .ge 32, 3) := oq_162 (byt chX11_worthOf_0 6 rfl) (byt chX11_worthOf_0 7 rfl) (byt chX11_worthOf_0 8 rfl) (by decide +kernel)
theorem dX11_worthOf_9 : decode cX11_worthOf 9 = .ok (.iload_n 2, 1) := oq_28 (byt chX11_worthOf_0 9 rfl)
theorem dX11_worthOf_10 : decode cX11_worthOf 10 = .ok (.aload_n 0, 1) := oq_42 (byt chX11_worthOf_0 10 rfl)
theorem dX11_worthOf_11 : decode cX11_worthOf 11 = .ok (.iconst 2, 1) := oq_5 (byt chX11_worthOf_0 11 rfl)
theorem dX11_worthOf_12 : decode cX11_worthOf 12 = .ok (.iconst 5, 1) := oq_8 (byt chX11_worthOf_0 12 rfl)
theorem dX11_worthOf_13 : decode cX11_worthOf 13 = .ok (.iload_n 1, 1) := oq_27 (byt chX11_worthOf_0 13 rfl)
theorem dX11_worthOf_14 : decode cX11_worthOf 14 = .ok (.imul, 1) := oq_104 (byt chX11_worthOf_0 14 rfl)
theorem dX11_worthOf_15 : decode cX11_worthOf 15 = .ok (.iadd, 1) := oq_96 (byt chX11_worthOf_0 15 rfl)
theorem dX11_worthOf_16 : decode cX11_worthOf 16 = .ok (.iload_n 3, 1) := oq_29 (byt chX11_worthOf_1 0 rfl)
theorem dX11_worthOf_17 : decode cX11_worthOf 17 = .ok (.iadd, 1) := oq_96 (byt chX11_worthOf_1 1 rfl)
theorem dX11_worthOf_18 : decode cX11_worthOf 18 = .ok (.invokevirtual 277, 3) := oq_182 (byt chX11_worthOf_1 2 rfl) (byt chX11_worthOf_1 3 rfl) (byt chX11_worthOf_1 4 rfl) rfl
theorem dX11_worthOf_21 : decode cX11_worthOf 21 = .ok (.aload_n 0, 1) := oq_42 (byt chX11_worthOf_1 5 rfl)
theorem dX11_worthOf_22 : decode cX11_worthOf 22 = .ok (.bipush 79, 2) := oq_16 (byt chX11_worthOf_1 6 rfl) (byt chX11_worthOf_1 7 rfl) rfl
theorem dX11_worthOf_24 : decode cX11_worthOf 24 = .ok (.iload_n 3, 1) := oq_29 (byt chX11_worthOf_1 8 rfl)
theorem dX11_worthOf_25 : decode cX11_worthOf 25 = .ok (.iadd, 1) := oq_96 (byt chX11_worthOf_1 9 rfl)
theorem dX11_worthOf_26 : decode cX11_worthOf 26 = .ok (.invokevirtual 277, 3) := oq_182 (byt chX11_worthOf_1 10 rfl) (byt chX11_worthOf_1 11 rfl) (byt chX11_worthOf_1 12 rfl) rfl
theorem dX11_worthOf_29 : decode cX11_worthOf 29 = .ok (.imul, 1) := oq_104 (byt chX11_worthOf_1 13 rfl)
theorem dX11_worthOf_30 : decode cX11_worthOf 30 = .ok (.iadd, 1) := oq_96 (byt chX11_worthOf_1 14 rfl)
theorem dX11_worthOf_31 : decode cX11_worthOf 31 = .ok (.istore_n 2, 1) := oq_61 (byt chX11_worthOf_1 15 rfl)
theorem dX11_worthOf_32 : decode cX11_worthOf 32 = .ok (.iinc 3 1, 3) := oq_132 (byt chX11_worthOf_2 0 rfl) (byt chX11_worthOf_2 1 rfl) (byt chX11_worthOf_2 2 rfl) rfl
theorem dX11_worthOf_35 : decode cX11_worthOf 35 = .ok (.goto (-31), 3) := oq_167 (byt chX11_worthOf_2 3 rfl) (byt chX11_worthOf_2 4 rfl) (byt chX11_worthOf_2 5 rfl) (by decide +kernel)
theorem dX11_worthOf_38 : decode cX11_worthOf 38 = .ok (.iload_n 2, 1) := oq_28 (byt chX11_worthOf_2 6 rfl)
theorem dX11_worthOf_39 : decode cX11_worthOf 39 = .ok (.ireturn, 1) := oq_172 (byt chX11_worthOf_2 7 rfl)
abbrev mX11_worthOf : MI := (yX11_worthOf, cX11_worthOf, 4, (some .int), noE)
theorem okX11_worthOf : cok mX11_worthOf 1 := ⟨tw1769, tw11, by decide, by decide, by decide, by decide +kernel⟩
def fX11_worthOf (M : Mem) (a0 a1 : Int) : Option Int :=
  iterC (fun (rec1 : (Int × Int) → Option Int) (s2 : Int × Int) => if s2.2 < 5 then (if M.2.1 a0 = 10 then (fX11_of M a0 (w32 ((w32 (2 + (w32 (5 * a1)))) + s2.2))).bind fun r4 => (fX11_of M a0 (w32 (79 + s2.2))).bind fun r7 => rec1 (w32 (s2.1 + (w32 (r4 * r7))), w32 (s2.2 + 1)) else none) else (some s2.1)) BIG (0, 0)
set_option maxRecDepth 100000 in
set_option maxHeartbeats 4000000 in
theorem kX11_worthOf (d : Nat) (hd : 1 ≤ d) (M : Mem) (a0 a1 : Int) : Ct mX11_worthOf d 0 0 [pA a0, pI a1] M (dI M) (fX11_worthOf M a0 a1) := by
  obtain ⟨d, rfl⟩ : ∃ k, d = k + 1 := ⟨d - 1, by omega⟩
  refine Ct.of 2 (fun _ _ _ => trivial) (by decide +kernel) rfl ?_
  unfold fX11_worthOf
  refine v_iconst dX11_worthOf_0 (by decide) ?_
  refine v_istore_n (ls' := [some (pA a0), some (pI a1), some (pI 0), none]) dX11_worthOf_1 (by decide) rfl ?_
  refine v_iconst dX11_worthOf_2 (by decide) ?_
  refine v_istore_n (ls' := [some (pA a0), some (pI a1), some (pI 0), some (pI 0)]) dX11_worthOf_3 (by decide) rfl ?_
  refine v_loop (fun (s2 : Int × Int) => [some (pA a0), some (pI a1), some (pI s2.1), some (pI s2.2)]) (fun (s2 : Int × Int) => M) (s0 := (0, 0)) ?_
  intro rec1 hrec1 s2
  refine v_iload_n dX11_worthOf_4 rfl ?_
  refine v_iconst dX11_worthOf_5 (by decide) ?_
  refine v_icmp_ge (tgt := 38) dX11_worthOf_6 (by decide) (fun c3 => ?_) (fun c3 => ?_)
  · refine v_iload_n dX11_worthOf_9 rfl ?_
    refine v_aload_n dX11_worthOf_10 rfl ?_
    refine v_iconst dX11_worthOf_11 (by decide) ?_
    refine v_iconst dX11_worthOf_12 (by decide) ?_
    refine v_iload_n dX11_worthOf_13 rfl ?_
    refine v_imul dX11_worthOf_14 ?_
    refine v_iadd dX11_worthOf_15 ?_
    refine v_iload_n dX11_worthOf_16 rfl ?_
    refine v_iadd dX11_worthOf_17 ?_
    refine v_if (fun h6 => ?_)
    refine v_cV (mi := mX11_worthOf) (c0 := 0) (c1 := 0) (As := [pI (w32 ((w32 (2 + (w32 (5 * a1)))) + s2.2))]) (st := [pI s2.1]) (kX11_of d (by omega) _ _ _) rfl h6 rfl okX11_of (Or.inl tw1504) tw1506 tp55 rfl (Nat.le_of_ble_eq_true rfl) dX11_worthOf_18 (fun r4 => [pI r4, pI s2.1]) (fun r4 => M) (fun _ => rfl) (fun _ => rfl) (fun r4 h5 => ?_) rfl
    refine v_aload_n dX11_worthOf_21 rfl ?_
    refine v_bipush dX11_worthOf_22 (by decide) ?_
    refine v_iload_n dX11_worthOf_24 rfl ?_
    refine v_iadd dX11_worthOf_25 ?_
    refine v_cV (mi := mX11_worthOf) (c0 := 0) (c1 := 0) (As := [pI (w32 (79 + s2.2))]) (st := [pI r4, pI s2.1]) (kX11_of d (by omega) _ _ _) rfl h6 rfl okX11_of (Or.inl tw1504) tw1506 tp55 rfl (Nat.le_of_ble_eq_true rfl) dX11_worthOf_26 (fun r7 => [pI r7, pI r4, pI s2.1]) (fun r7 => M) (fun _ => rfl) (fun _ => rfl) (fun r7 h8 => ?_) rfl
    refine v_imul dX11_worthOf_29 ?_
    refine v_iadd dX11_worthOf_30 ?_
    refine v_istore_n (ls' := [some (pA a0), some (pI a1), some (pI (w32 (s2.1 + (w32 (r4 * r7))))), some (pI s2.2)]) dX11_worthOf_31 (by decide) rfl ?_
    refine v_iinc (ls' := [some (pA a0), some (pI a1), some (pI (w32 (s2.1 + (w32 (r4 * r7))))), some (pI (w32 (s2.2 + 1)))]) dX11_worthOf_32 (by decide) rfl rfl ?_
    refine v_goto (tgt := 4) dX11_worthOf_35 (by decide) ?_
    exact hrec1 (w32 (s2.1 + (w32 (r4 * r7))), w32 (s2.2 + 1))
  · refine v_iload_n dX11_worthOf_38 rfl ?_
    exact v_ireturn dX11_worthOf_39 rfl rfl
theorem chX11_prizeOf_0 : (cX11_prizeOf.data.toList.drop 0).take 16 = [27, 28, 160, 0, 24, 42, 27, 182, 1, 207, 5, 108, 6, 42, 16, 62] := by decide +kernel
theorem chX11_prizeOf_1 : (cX11_prizeOf.data.toList.drop 16).take 16 = [27, 96, 182, 1, 21, 104, 100, 167, 0, 19, 42, 27, 182, 1, 207, 5] := by decide +kernel
theorem chX11_prizeOf_2 : (cX11_prizeOf.data.toList.drop 32).take 16 = [42, 16, 62, 27, 96, 182, 1, 21, 104, 100, 172] := by decide +kernel
theorem dX11_prizeOf_0 : decode cX11_prizeOf 0 = .ok (.iload_n 1, 1) := oq_27 (byt chX11_prizeOf_0 0 rfl)
theorem dX11_prizeOf_1 : decode cX11_prizeOf 1 = .ok (.iload_n 2, 1) := oq_28 (byt chX11_prizeOf_0 1 rfl)
theorem dX11_prizeOf_2 : decode cX11_prizeOf 2 = .ok (.if_icmp .ne 24, 3) := oq_160 (byt chX11_prizeOf_0 2 rfl) (byt chX11_prizeOf_0 3 rfl) (byt chX11_prizeOf_0 4 rfl) (by decide +kernel)
theorem dX11_prizeOf_5 : decode cX11_prizeOf 5 = .ok (.aload_n 0, 1) := oq_42 (byt chX11_prizeOf_0 5 rfl)
theorem dX11_prizeOf_6 : decode cX11_prizeOf 6 = .ok (.iload_n 1, 1) := oq_27 (byt chX11_prizeOf_0 6 rfl)
theorem dX11_prizeOf_7 : decode cX11_prizeOf 7 = .ok (.invokevirtual 463, 3) := oq_182 (byt chX11_prizeOf_0 7 rfl) (byt chX11_prizeOf_0 8 rfl) (byt chX11_prizeOf_0 9 rfl) rfl
theorem dX11_prizeOf_10 : decode cX11_prizeOf 10 = .ok (.iconst 2, 1) := oq_5 (byt chX11_prizeOf_0 10 rfl)
theorem dX11_prizeOf_11 : decode cX11_prizeOf 11 = .ok (.idiv, 1) := oq_108 (byt chX11_prizeOf_0 11 rfl)
theorem dX11_prizeOf_12 : decode cX11_prizeOf 12 = .ok (.iconst 3, 1) := oq_6 (byt chX11_prizeOf_0 12 rfl)
theorem dX11_prizeOf_13 : decode cX11_prizeOf 13 = .ok (.aload_n 0, 1) := oq_42 (byt chX11_prizeOf_0 13 rfl)
theorem dX11_prizeOf_14 : decode cX11_prizeOf 14 = .ok (.bipush 62, 2) := oq_16 (byt chX11_prizeOf_0 14 rfl) (byt chX11_prizeOf_0 15 rfl) rfl
theorem dX11_prizeOf_16 : decode cX11_prizeOf 16 = .ok (.iload_n 1, 1) := oq_27 (byt chX11_prizeOf_1 0 rfl)
theorem dX11_prizeOf_17 : decode cX11_prizeOf 17 = .ok (.iadd, 1) := oq_96 (byt chX11_prizeOf_1 1 rfl)
theorem dX11_prizeOf_18 : decode cX11_prizeOf 18 = .ok (.invokevirtual 277, 3) := oq_182 (byt chX11_prizeOf_1 2 rfl) (byt chX11_prizeOf_1 3 rfl) (byt chX11_prizeOf_1 4 rfl) rfl
theorem dX11_prizeOf_21 : decode cX11_prizeOf 21 = .ok (.imul, 1) := oq_104 (byt chX11_prizeOf_1 5 rfl)
theorem dX11_prizeOf_22 : decode cX11_prizeOf 22 = .ok (.isub, 1) := oq_100 (byt chX11_prizeOf_1 6 rfl)
theorem dX11_prizeOf_23 : decode cX11_prizeOf 23 = .ok (.goto 19, 3) := oq_167 (byt chX11_prizeOf_1 7 rfl) (byt chX11_prizeOf_1 8 rfl) (byt chX11_prizeOf_1 9 rfl) (by decide +kernel)
theorem dX11_prizeOf_26 : decode cX11_prizeOf 26 = .ok (.aload_n 0, 1) := oq_42 (byt chX11_prizeOf_1 10 rfl)
theorem dX11_prizeOf_27 : decode cX11_prizeOf 27 = .ok (.iload_n 1, 1) := oq_27 (byt chX11_prizeOf_1 11 rfl)
theorem dX11_prizeOf_28 : decode cX11_prizeOf 28 = .ok (.invokevirtual 463, 3) := oq_182 (byt chX11_prizeOf_1 12 rfl) (byt chX11_prizeOf_1 13 rfl) (byt chX11_prizeOf_1 14 rfl) rfl
theorem dX11_prizeOf_31 : decode cX11_prizeOf 31 = .ok (.iconst 2, 1) := oq_5 (byt chX11_prizeOf_1 15 rfl)
theorem dX11_prizeOf_32 : decode cX11_prizeOf 32 = .ok (.aload_n 0, 1) := oq_42 (byt chX11_prizeOf_2 0 rfl)
theorem dX11_prizeOf_33 : decode cX11_prizeOf 33 = .ok (.bipush 62, 2) := oq_16 (byt chX11_prizeOf_2 1 rfl) (byt chX11_prizeOf_2 2 rfl) rfl
theorem dX11_prizeOf_35 : decode cX11_prizeOf 35 = .ok (.iload_n 1, 1) := oq_27 (byt chX11_prizeOf_2 3 rfl)
theorem dX11_prizeOf_36 : decode cX11_prizeOf 36 = .ok (.iadd, 1) := oq_96 (byt chX11_prizeOf_2 4 rfl)
theorem dX11_prizeOf_37 : decode cX11_prizeOf 37 = .ok (.invokevirtual 277, 3) := oq_182 (byt chX11_prizeOf_2 5 rfl) (byt chX11_prizeOf_2 6 rfl) (byt chX11_prizeOf_2 7 rfl) rfl
theorem dX11_prizeOf_40 : decode cX11_prizeOf 40 = .ok (.imul, 1) := oq_104 (byt chX11_prizeOf_2 8 rfl)
theorem dX11_prizeOf_41 : decode cX11_prizeOf 41 = .ok (.isub, 1) := oq_100 (byt chX11_prizeOf_2 9 rfl)
theorem dX11_prizeOf_42 : decode cX11_prizeOf 42 = .ok (.ireturn, 1) := oq_172 (byt chX11_prizeOf_2 10 rfl)
abbrev mX11_prizeOf : MI := (yX11_prizeOf, cX11_prizeOf, 3, (some .int), noE)
theorem okX11_prizeOf : cok mX11_prizeOf 2 := ⟨tw1765, tw11, by decide, by decide, by decide, by decide +kernel⟩
def fX11_prizeOf (M : Mem) (a0 a1 a2 : Int) : Option Int :=
  if a1 = a2 then (if M.2.1 a0 = 10 then (fX11_worthOf M a0 a1).bind fun r2 => (fX11_of M a0 (w32 (62 + a1))).bind fun r5 => some (w32 ((w32 (r2.tdiv 2)) - (w32 (3 * r5)))) else none) else (if M.2.1 a0 = 10 then (fX11_worthOf M a0 a1).bind fun r7 => (fX11_of M a0 (w32 (62 + a1))).bind fun r10 => some (w32 (r7 - (w32 (2 * r10)))) else none)
set_option maxRecDepth 100000 in
set_option maxHeartbeats 4000000 in
theorem kX11_prizeOf (d : Nat) (hd : 2 ≤ d) (M : Mem) (a0 a1 a2 : Int) : Ct mX11_prizeOf d 0 0 [pA a0, pI a1, pI a2] M (dI M) (fX11_prizeOf M a0 a1 a2) := by
  obtain ⟨d, rfl⟩ : ∃ k, d = k + 1 := ⟨d - 1, by omega⟩
  refine Ct.of 0 (fun _ _ _ => trivial) (by decide +kernel) rfl ?_
  unfold fX11_prizeOf
  refine v_iload_n dX11_prizeOf_0 rfl ?_
  refine v_iload_n dX11_prizeOf_1 rfl ?_
  refine v_icmp_ne (tgt := 26) dX11_prizeOf_2 (by decide) (fun c1 => ?_) (fun c1 => ?_)
  · refine v_aload_n dX11_prizeOf_5 rfl ?_
    refine v_iload_n dX11_prizeOf_6 rfl ?_
    refine v_if (fun h4 => ?_)
    refine v_cV (mi := mX11_prizeOf) (c0 := 0) (c1 := 0) (As := [pI a1]) (st := []) (kX11_worthOf d (by omega) _ _ _) rfl h4 rfl okX11_worthOf (Or.inl tw1766) tw1768 tp99 rfl (Nat.le_of_ble_eq_true rfl) dX11_prizeOf_7 (fun r2 => [pI r2]) (fun r2 => M) (fun _ => rfl) (fun _ => rfl) (fun r2 h3 => ?_) rfl
    refine v_iconst dX11_prizeOf_10 (by decide) ?_
    refine v_idiv (by decide) dX11_prizeOf_11 ?_
    refine v_iconst dX11_prizeOf_12 (by decide) ?_
    refine v_aload_n dX11_prizeOf_13 rfl ?_
    refine v_bipush dX11_prizeOf_14 (by decide) ?_
    refine v_iload_n dX11_prizeOf_16 rfl ?_
    refine v_iadd dX11_prizeOf_17 ?_
    refine v_cV (mi := mX11_prizeOf) (c0 := 0) (c1 := 0) (As := [pI (w32 (62 + a1))]) (st := [pI 3, pI (w32 (r2.tdiv 2))]) (kX11_of d (by omega) _ _ _) rfl h4 rfl okX11_of (Or.inl tw1504) tw1506 tp55 rfl (Nat.le_of_ble_eq_true rfl) dX11_prizeOf_18 (fun r5 => [pI r5, pI 3, pI (w32 (r2.tdiv 2))]) (fun r5 => M) (fun _ => rfl) (fun _ => rfl) (fun r5 h6 => ?_) rfl
    refine v_imul dX11_prizeOf_21 ?_
    refine v_isub dX11_prizeOf_22 ?_
    refine v_goto (tgt := 42) dX11_prizeOf_23 (by decide) ?_
    exact v_ireturn dX11_prizeOf_42 rfl rfl
  · refine v_aload_n dX11_prizeOf_26 rfl ?_
    refine v_iload_n dX11_prizeOf_27 rfl ?_
    refine v_if (fun h9 => ?_)
    refine v_cV (mi := mX11_prizeOf) (c0 := 0) (c1 := 0) (As := [pI a1]) (st := []) (kX11_worthOf d (by omega) _ _ _) rfl h9 rfl okX11_worthOf (Or.inl tw1766) tw1768 tp99 rfl (Nat.le_of_ble_eq_true rfl) dX11_prizeOf_28 (fun r7 => [pI r7]) (fun r7 => M) (fun _ => rfl) (fun _ => rfl) (fun r7 h8 => ?_) rfl
    refine v_iconst dX11_prizeOf_31 (by decide) ?_
    refine v_aload_n dX11_prizeOf_32 rfl ?_
    refine v_bipush dX11_prizeOf_33 (by decide) ?_
    refine v_iload_n dX11_prizeOf_35 rfl ?_
    refine v_iadd dX11_prizeOf_36 ?_
    refine v_cV (mi := mX11_prizeOf) (c0 := 0) (c1 := 0) (As := [pI (w32 (62 + a1))]) (st := [pI 2, pI r7]) (kX11_of d (by omega) _ _ _) rfl h9 rfl okX11_of (Or.inl tw1504) tw1506 tp55 rfl (Nat.le_of_ble_eq_true rfl) dX11_prizeOf_37 (fun r10 => [pI r10, pI 2, pI r7]) (fun r10 => M) (fun _ => rfl) (fun _ => rfl) (fun r10 h11 => ?_) rfl
    refine v_imul dX11_prizeOf_40 ?_
    refine v_isub dX11_prizeOf_41 ?_
    exact v_ireturn dX11_prizeOf_42 rfl rfl
theorem chX11_prize_0 : (cX11_prize.data.toList.drop 0).take 16 = [42, 3, 181, 0, 90, 42, 27, 182, 1, 31, 153, 0, 28, 42, 28, 182] := by decide +kernel
theorem chX11_prize_1 : (cX11_prize.data.toList.drop 16).take 16 = [1, 34, 153, 0, 20, 42, 29, 182, 1, 34, 153, 0, 12, 42, 28, 29] := by decide +kernel
theorem chX11_prize_2 : (cX11_prize.data.toList.drop 32).take 16 = [182, 1, 210, 167, 0, 6, 17, 252, 24, 172] := by decide +kernel
theorem dX11_prize_0 : decode cX11_prize 0 = .ok (.aload_n 0, 1) := oq_42 (byt chX11_prize_0 0 rfl)
theorem dX11_prize_1 : decode cX11_prize 1 = .ok (.iconst 0, 1) := oq_3 (byt chX11_prize_0 1 rfl)
theorem dX11_prize_2 : decode cX11_prize 2 = .ok (.putfield 90, 3) := oq_181 (byt chX11_prize_0 2 rfl) (byt chX11_prize_0 3 rfl) (byt chX11_prize_0 4 rfl) rfl
theorem dX11_prize_5 : decode cX11_prize 5 = .ok (.aload_n 0, 1) := oq_42 (byt chX11_prize_0 5 rfl)
theorem dX11_prize_6 : decode cX11_prize 6 = .ok (.iload_n 1, 1) := oq_27 (byt chX11_prize_0 6 rfl)
theorem dX11_prize_7 : decode cX11_prize 7 = .ok (.invokevirtual 287, 3) := oq_182 (byt chX11_prize_0 7 rfl) (byt chX11_prize_0 8 rfl) (byt chX11_prize_0 9 rfl) rfl
theorem dX11_prize_10 : decode cX11_prize 10 = .ok (.ifCond .eq 28, 3) := oq_153 (byt chX11_prize_0 10 rfl) (byt chX11_prize_0 11 rfl) (byt chX11_prize_0 12 rfl) (by decide +kernel)
theorem dX11_prize_13 : decode cX11_prize 13 = .ok (.aload_n 0, 1) := oq_42 (byt chX11_prize_0 13 rfl)
theorem dX11_prize_14 : decode cX11_prize 14 = .ok (.iload_n 2, 1) := oq_28 (byt chX11_prize_0 14 rfl)
theorem dX11_prize_15 : decode cX11_prize 15 = .ok (.invokevirtual 290, 3) := oq_182 (byt chX11_prize_0 15 rfl) (byt chX11_prize_1 0 rfl) (byt chX11_prize_1 1 rfl) rfl
theorem dX11_prize_18 : decode cX11_prize 18 = .ok (.ifCond .eq 20, 3) := oq_153 (byt chX11_prize_1 2 rfl) (byt chX11_prize_1 3 rfl) (byt chX11_prize_1 4 rfl) (by decide +kernel)
theorem dX11_prize_21 : decode cX11_prize 21 = .ok (.aload_n 0, 1) := oq_42 (byt chX11_prize_1 5 rfl)
theorem dX11_prize_22 : decode cX11_prize 22 = .ok (.iload_n 3, 1) := oq_29 (byt chX11_prize_1 6 rfl)
theorem dX11_prize_23 : decode cX11_prize 23 = .ok (.invokevirtual 290, 3) := oq_182 (byt chX11_prize_1 7 rfl) (byt chX11_prize_1 8 rfl) (byt chX11_prize_1 9 rfl) rfl
theorem dX11_prize_26 : decode cX11_prize 26 = .ok (.ifCond .eq 12, 3) := oq_153 (byt chX11_prize_1 10 rfl) (byt chX11_prize_1 11 rfl) (byt chX11_prize_1 12 rfl) (by decide +kernel)
theorem dX11_prize_29 : decode cX11_prize 29 = .ok (.aload_n 0, 1) := oq_42 (byt chX11_prize_1 13 rfl)
theorem dX11_prize_30 : decode cX11_prize 30 = .ok (.iload_n 2, 1) := oq_28 (byt chX11_prize_1 14 rfl)
theorem dX11_prize_31 : decode cX11_prize 31 = .ok (.iload_n 3, 1) := oq_29 (byt chX11_prize_1 15 rfl)
theorem dX11_prize_32 : decode cX11_prize 32 = .ok (.invokevirtual 466, 3) := oq_182 (byt chX11_prize_2 0 rfl) (byt chX11_prize_2 1 rfl) (byt chX11_prize_2 2 rfl) rfl
theorem dX11_prize_35 : decode cX11_prize 35 = .ok (.goto 6, 3) := oq_167 (byt chX11_prize_2 3 rfl) (byt chX11_prize_2 4 rfl) (byt chX11_prize_2 5 rfl) (by decide +kernel)
theorem dX11_prize_38 : decode cX11_prize 38 = .ok (.sipush (-1000), 3) := oq_17 (byt chX11_prize_2 6 rfl) (byt chX11_prize_2 7 rfl) (byt chX11_prize_2 8 rfl) (by decide +kernel)
theorem dX11_prize_41 : decode cX11_prize 41 = .ok (.ireturn, 1) := oq_172 (byt chX11_prize_2 9 rfl)
abbrev mX11_prize : MI := (yX11_prize, cX11_prize, 4, (some .int), noE)
theorem okX11_prize : cok mX11_prize 3 := ⟨tw1761, tw11, by decide, by decide, by decide, by decide +kernel⟩
def fX11_prize (M : Mem) (a0 a1 a2 a3 : Int) : Option (Int × Mem) :=
  if M.2.1 a0 = 10 then bM (mst M a0 0 0) fun M2 => (fX11_hand M2 a0 a1).bind fun r4 => if r4.1 = 0 then (some ((-1000), r4.2)) else (if r4.2.2.1 a0 = 10 then (fX11_isHouse r4.2 a0 a2).bind fun r7 => if r7 = 0 then (some ((-1000), r4.2)) else ((fX11_isHouse r4.2 a0 a3).bind fun r11 => if r11 = 0 then (some ((-1000), r4.2)) else ((fX11_prizeOf r4.2 a0 a2 a3).bind fun r14 => some (r14, r4.2))) else none) else none
set_option maxRecDepth 100000 in
set_option maxHeartbeats 4000000 in
theorem kX11_prize (d : Nat) (hd : 3 ≤ d) (M : Mem) (a0 a1 a2 a3 : Int) : Ct mX11_prize d 0 0 [pA a0, pI a1, pI a2, pI a3] M dIM (fX11_prize M a0 a1 a2 a3) := by
  obtain ⟨d, rfl⟩ : ∃ k, d = k + 1 := ⟨d - 1, by omega⟩
  refine Ct.of 0 (fun _ _ _ => trivial) (by decide +kernel) rfl ?_
  unfold fX11_prize
  refine v_aload_n dX11_prize_0 rfl ?_
  refine v_iconst dX11_prize_1 (by decide) ?_
  refine v_if (fun h1 => ?_)
  refine v_put (x := 0) 10 0 rfl inX11 (by decide) tw1193 (Or.inl rfl) rfl dX11_prize_2 h1 rfl id ?_
  refine v_bM (fun M2 e3 => ?_)
  refine v_aload_n dX11_prize_5 rfl ?_
  refine v_iload_n dX11_prize_6 rfl ?_
  refine v_cV (mi := mX11_prize) (c0 := 0) (c1 := 0) (As := [pI a1]) (st := []) (kX11_hand d (by omega) _ _ _) rfl (by rw [e3]; exact h1) rfl okX11_hand (Or.inl tw1500) tw1502 tp54 rfl (Nat.le_of_ble_eq_true rfl) dX11_prize_7 (fun r4 => [pI r4.1]) (fun r4 => r4.2) (fun _ => rfl) (fun _ => rfl) (fun r4 h5 => ?_) rfl
  refine v_if_eq (tgt := 38) dX11_prize_10 (by decide) (fun c6 => ?_) (fun c6 => ?_)
  · refine v_sipush dX11_prize_38 (by decide) ?_
    exact v_ireturn dX11_prize_41 rfl rfl
  · refine v_aload_n dX11_prize_13 rfl ?_
    refine v_iload_n dX11_prize_14 rfl ?_
    refine v_if (fun h9 => ?_)
    refine v_cV (mi := mX11_prize) (c0 := 0) (c1 := 0) (As := [pI a2]) (st := []) (kX11_isHouse d (by omega) _ _ _) rfl h9 rfl okX11_isHouse (Or.inl tw1508) tw1510 tp56 rfl (Nat.le_of_ble_eq_true rfl) dX11_prize_15 (fun r7 => [pI r7]) (fun r7 => r4.2) (fun _ => rfl) (fun _ => rfl) (fun r7 h8 => ?_) rfl
    refine v_if_eq (tgt := 38) dX11_prize_18 (by decide) (fun c10 => ?_) (fun c10 => ?_)
    · refine v_sipush dX11_prize_38 (by decide) ?_
      exact v_ireturn dX11_prize_41 rfl rfl
    · refine v_aload_n dX11_prize_21 rfl ?_
      refine v_iload_n dX11_prize_22 rfl ?_
      refine v_cV (mi := mX11_prize) (c0 := 0) (c1 := 0) (As := [pI a3]) (st := []) (kX11_isHouse d (by omega) _ _ _) rfl h9 rfl okX11_isHouse (Or.inl tw1508) tw1510 tp56 rfl (Nat.le_of_ble_eq_true rfl) dX11_prize_23 (fun r11 => [pI r11]) (fun r11 => r4.2) (fun _ => rfl) (fun _ => rfl) (fun r11 h12 => ?_) rfl
      refine v_if_eq (tgt := 38) dX11_prize_26 (by decide) (fun c13 => ?_) (fun c13 => ?_)
      · refine v_sipush dX11_prize_38 (by decide) ?_
        exact v_ireturn dX11_prize_41 rfl rfl
      · refine v_aload_n dX11_prize_29 rfl ?_
        refine v_iload_n dX11_prize_30 rfl ?_
        refine v_iload_n dX11_prize_31 rfl ?_
        refine v_cV (mi := mX11_prize) (c0 := 0) (c1 := 0) (As := [pI a2, pI a3]) (st := []) (kX11_prizeOf d (by omega) _ _ _ _) rfl h9 rfl okX11_prizeOf (Or.inl tw1762) tw1764 tp98 rfl (Nat.le_of_ble_eq_true rfl) dX11_prize_32 (fun r14 => [pI r14]) (fun r14 => r4.2) (fun _ => rfl) (fun _ => rfl) (fun r14 h15 => ?_) rfl
        refine v_goto (tgt := 41) dX11_prize_35 (by decide) ?_
        exact v_ireturn dX11_prize_41 rfl rfl
theorem chX11_isRest_0 : (cX11_isRest.data.toList.drop 0).take 16 = [3, 62, 29, 42, 180, 1, 25, 162, 0, 41, 42, 29, 28, 182, 1, 210] := by decide +kernel
theorem chX11_isRest_1 : (cX11_isRest.data.toList.drop 16).take 16 = [42, 27, 28, 182, 1, 210, 163, 0, 18, 42, 29, 27, 182, 1, 210, 42] := by decide +kernel
theorem chX11_isRest_2 : (cX11_isRest.data.toList.drop 32).take 16 = [28, 27, 182, 1, 210, 164, 0, 5, 3, 172, 132, 3, 1, 167, 255, 213] := by decide +kernel
theorem chX11_isRest_3 : (cX11_isRest.data.toList.drop 48).take 16 = [4, 172] := by decide +kernel
theorem dX11_isRest_0 : decode cX11_isRest 0 = .ok (.iconst 0, 1) := oq_3 (byt chX11_isRest_0 0 rfl)
theorem dX11_isRest_1 : decode cX11_isRest 1 = .ok (.istore_n 3, 1) := oq_62 (byt chX11_isRest_0 1 rfl)
theorem dX11_isRest_2 : decode cX11_isRest 2 = .ok (.iload_n 3, 1) := oq_29 (byt chX11_isRest_0 2 rfl)
theorem dX11_isRest_3 : decode cX11_isRest 3 = .ok (.aload_n 0, 1) := oq_42 (byt chX11_isRest_0 3 rfl)
theorem dX11_isRest_4 : decode cX11_isRest 4 = .ok (.getfield 281, 3) := oq_180 (byt chX11_isRest_0 4 rfl) (byt chX11_isRest_0 5 rfl) (byt chX11_isRest_0 6 rfl) rfl
theorem dX11_isRest_7 : decode cX11_isRest 7 = .ok (.if_icmp .ge 41, 3) := oq_162 (byt chX11_isRest_0 7 rfl) (byt chX11_isRest_0 8 rfl) (byt chX11_isRest_0 9 rfl) (by decide +kernel)
theorem dX11_isRest_10 : decode cX11_isRest 10 = .ok (.aload_n 0, 1) := oq_42 (byt chX11_isRest_0 10 rfl)
theorem dX11_isRest_11 : decode cX11_isRest 11 = .ok (.iload_n 3, 1) := oq_29 (byt chX11_isRest_0 11 rfl)
theorem dX11_isRest_12 : decode cX11_isRest 12 = .ok (.iload_n 2, 1) := oq_28 (byt chX11_isRest_0 12 rfl)
theorem dX11_isRest_13 : decode cX11_isRest 13 = .ok (.invokevirtual 466, 3) := oq_182 (byt chX11_isRest_0 13 rfl) (byt chX11_isRest_0 14 rfl) (byt chX11_isRest_0 15 rfl) rfl
theorem dX11_isRest_16 : decode cX11_isRest 16 = .ok (.aload_n 0, 1) := oq_42 (byt chX11_isRest_1 0 rfl)
theorem dX11_isRest_17 : decode cX11_isRest 17 = .ok (.iload_n 1, 1) := oq_27 (byt chX11_isRest_1 1 rfl)
theorem dX11_isRest_18 : decode cX11_isRest 18 = .ok (.iload_n 2, 1) := oq_28 (byt chX11_isRest_1 2 rfl)
theorem dX11_isRest_19 : decode cX11_isRest 19 = .ok (.invokevirtual 466, 3) := oq_182 (byt chX11_isRest_1 3 rfl) (byt chX11_isRest_1 4 rfl) (byt chX11_isRest_1 5 rfl) rfl
theorem dX11_isRest_22 : decode cX11_isRest 22 = .ok (.if_icmp .gt 18, 3) := oq_163 (byt chX11_isRest_1 6 rfl) (byt chX11_isRest_1 7 rfl) (byt chX11_isRest_1 8 rfl) (by decide +kernel)
theorem dX11_isRest_25 : decode cX11_isRest 25 = .ok (.aload_n 0, 1) := oq_42 (byt chX11_isRest_1 9 rfl)
theorem dX11_isRest_26 : decode cX11_isRest 26 = .ok (.iload_n 3, 1) := oq_29 (byt chX11_isRest_1 10 rfl)
theorem dX11_isRest_27 : decode cX11_isRest 27 = .ok (.iload_n 1, 1) := oq_27 (byt chX11_isRest_1 11 rfl)
theorem dX11_isRest_28 : decode cX11_isRest 28 = .ok (.invokevirtual 466, 3) := oq_182 (byt chX11_isRest_1 12 rfl) (byt chX11_isRest_1 13 rfl) (byt chX11_isRest_1 14 rfl) rfl
theorem dX11_isRest_31 : decode cX11_isRest 31 = .ok (.aload_n 0, 1) := oq_42 (byt chX11_isRest_1 15 rfl)
theorem dX11_isRest_32 : decode cX11_isRest 32 = .ok (.iload_n 2, 1) := oq_28 (byt chX11_isRest_2 0 rfl)
theorem dX11_isRest_33 : decode cX11_isRest 33 = .ok (.iload_n 1, 1) := oq_27 (byt chX11_isRest_2 1 rfl)
theorem dX11_isRest_34 : decode cX11_isRest 34 = .ok (.invokevirtual 466, 3) := oq_182 (byt chX11_isRest_2 2 rfl) (byt chX11_isRest_2 3 rfl) (byt chX11_isRest_2 4 rfl) rfl
theorem dX11_isRest_37 : decode cX11_isRest 37 = .ok (.if_icmp .le 5, 3) := oq_164 (byt chX11_isRest_2 5 rfl) (byt chX11_isRest_2 6 rfl) (byt chX11_isRest_2 7 rfl) (by decide +kernel)
theorem dX11_isRest_40 : decode cX11_isRest 40 = .ok (.iconst 0, 1) := oq_3 (byt chX11_isRest_2 8 rfl)
theorem dX11_isRest_41 : decode cX11_isRest 41 = .ok (.ireturn, 1) := oq_172 (byt chX11_isRest_2 9 rfl)
theorem dX11_isRest_42 : decode cX11_isRest 42 = .ok (.iinc 3 1, 3) := oq_132 (byt chX11_isRest_2 10 rfl) (byt chX11_isRest_2 11 rfl) (byt chX11_isRest_2 12 rfl) rfl
theorem dX11_isRest_45 : decode cX11_isRest 45 = .ok (.goto (-43), 3) := oq_167 (byt chX11_isRest_2 13 rfl) (byt chX11_isRest_2 14 rfl) (byt chX11_isRest_2 15 rfl) (by decide +kernel)
theorem dX11_isRest_48 : decode cX11_isRest 48 = .ok (.iconst 1, 1) := oq_4 (byt chX11_isRest_3 0 rfl)
theorem dX11_isRest_49 : decode cX11_isRest 49 = .ok (.ireturn, 1) := oq_172 (byt chX11_isRest_3 1 rfl)
abbrev mX11_isRest : MI := (yX11_isRest, cX11_isRest, 4, (some .boolean), noE)
theorem okX11_isRest : cok mX11_isRest 2 := ⟨tw1777, tw11, by decide, by decide, by decide, by decide +kernel⟩
def fX11_isRest (M : Mem) (a0 a1 a2 : Int) : Option Int :=
  iterC (fun (rec1 : Int → Option Int) (s2 : Int) => if M.2.1 a0 = 10 then if s2 < M.1 a0 25 then ((fX11_prizeOf M a0 s2 a2).bind fun r5 => (fX11_prizeOf M a0 a1 a2).bind fun r7 => if r7 < r5 then (some 0) else ((fX11_prizeOf M a0 s2 a1).bind fun r10 => (fX11_prizeOf M a0 a2 a1).bind fun r12 => if r12 < r10 then (some 0) else (rec1 (w32 (s2 + 1))))) else (some 1) else none) BIG 0
set_option maxRecDepth 100000 in
set_option maxHeartbeats 4000000 in
theorem kX11_isRest (d : Nat) (hd : 3 ≤ d) (M : Mem) (a0 a1 a2 : Int) : Ct mX11_isRest d 0 0 [pA a0, pI a1, pI a2] M (dI M) (fX11_isRest M a0 a1 a2) := by
  obtain ⟨d, rfl⟩ : ∃ k, d = k + 1 := ⟨d - 1, by omega⟩
  refine Ct.of 1 (fun _ _ _ => trivial) (by decide +kernel) rfl ?_
  unfold fX11_isRest
  refine v_iconst dX11_isRest_0 (by decide) ?_
  refine v_istore_n (ls' := [some (pA a0), some (pI a1), some (pI a2), some (pI 0)]) dX11_isRest_1 (by decide) rfl ?_
  refine v_loop (fun (s2 : Int) => [some (pA a0), some (pI a1), some (pI a2), some (pI s2)]) (fun (s2 : Int) => M) (s0 := 0) ?_
  intro rec1 hrec1 s2
  refine v_iload_n dX11_isRest_2 rfl ?_
  refine v_aload_n dX11_isRest_3 rfl ?_
  refine v_if (fun h3 => ?_)
  refine v_get (v := pI (M.1 a0 25)) 10 25 rfl inX11 (by decide) tw1218 dX11_isRest_4 h3 rfl ?_
  refine v_icmp_ge (tgt := 48) dX11_isRest_7 (by decide) (fun c4 => ?_) (fun c4 => ?_)
  · refine v_aload_n dX11_isRest_10 rfl ?_
    refine v_iload_n dX11_isRest_11 rfl ?_
    refine v_iload_n dX11_isRest_12 rfl ?_
    refine v_cV (mi := mX11_isRest) (c0 := 0) (c1 := 0) (As := [pI s2, pI a2]) (st := []) (kX11_prizeOf d (by omega) _ _ _ _) rfl h3 rfl okX11_prizeOf (Or.inl tw1762) tw1764 tp98 rfl (Nat.le_of_ble_eq_true rfl) dX11_isRest_13 (fun r5 => [pI r5]) (fun r5 => M) (fun _ => rfl) (fun _ => rfl) (fun r5 h6 => ?_) rfl
    refine v_aload_n dX11_isRest_16 rfl ?_
    refine v_iload_n dX11_isRest_17 rfl ?_
    refine v_iload_n dX11_isRest_18 rfl ?_
    refine v_cV (mi := mX11_isRest) (c0 := 0) (c1 := 0) (As := [pI a1, pI a2]) (st := [pI r5]) (kX11_prizeOf d (by omega) _ _ _ _) rfl h3 rfl okX11_prizeOf (Or.inl tw1762) tw1764 tp98 rfl (Nat.le_of_ble_eq_true rfl) dX11_isRest_19 (fun r7 => [pI r7, pI r5]) (fun r7 => M) (fun _ => rfl) (fun _ => rfl) (fun r7 h8 => ?_) rfl
    refine v_icmp_gt (tgt := 40) dX11_isRest_22 (by decide) (fun c9 => ?_) (fun c9 => ?_)
    · refine v_iconst dX11_isRest_40 (by decide) ?_
      exact v_breturn dX11_isRest_41 rfl (by decide) rfl
    · refine v_aload_n dX11_isRest_25 rfl ?_
      refine v_iload_n dX11_isRest_26 rfl ?_
      refine v_iload_n dX11_isRest_27 rfl ?_
      refine v_cV (mi := mX11_isRest) (c0 := 0) (c1 := 0) (As := [pI s2, pI a1]) (st := []) (kX11_prizeOf d (by omega) _ _ _ _) rfl h3 rfl okX11_prizeOf (Or.inl tw1762) tw1764 tp98 rfl (Nat.le_of_ble_eq_true rfl) dX11_isRest_28 (fun r10 => [pI r10]) (fun r10 => M) (fun _ => rfl) (fun _ => rfl) (fun r10 h11 => ?_) rfl
      refine v_aload_n dX11_isRest_31 rfl ?_
      refine v_iload_n dX11_isRest_32 rfl ?_
      refine v_iload_n dX11_isRest_33 rfl ?_
      refine v_cV (mi := mX11_isRest) (c0 := 0) (c1 := 0) (As := [pI a2, pI a1]) (st := [pI r10]) (kX11_prizeOf d (by omega) _ _ _ _) rfl h3 rfl okX11_prizeOf (Or.inl tw1762) tw1764 tp98 rfl (Nat.le_of_ble_eq_true rfl) dX11_isRest_34 (fun r12 => [pI r12, pI r10]) (fun r12 => M) (fun _ => rfl) (fun _ => rfl) (fun r12 h13 => ?_) rfl
      refine v_icmp_le (tgt := 42) dX11_isRest_37 (by decide) (fun c14 => ?_) (fun c14 => ?_)
      · refine v_iconst dX11_isRest_40 (by decide) ?_
        exact v_breturn dX11_isRest_41 rfl (by decide) rfl
      · refine v_iinc (ls' := [some (pA a0), some (pI a1), some (pI a2), some (pI (w32 (s2 + 1)))]) dX11_isRest_42 (by decide) rfl rfl ?_
        refine v_goto (tgt := 2) dX11_isRest_45 (by decide) ?_
        exact hrec1 (w32 (s2 + 1))
  · refine v_iconst dX11_isRest_48 (by decide) ?_
    exact v_breturn dX11_isRest_49 rfl (by decide) rfl
theorem chX11_rest_0 : (cX11_rest.data.toList.drop 0).take 16 = [42, 3, 181, 0, 90, 42, 27, 182, 1, 31, 154, 0, 5, 2, 172, 3] := by decide +kernel
theorem chX11_rest_1 : (cX11_rest.data.toList.drop 16).take 16 = [62, 3, 54, 4, 21, 4, 16, 36, 162, 0, 61, 42, 21, 4, 16, 6] := by decide +kernel
theorem chX11_rest_2 : (cX11_rest.data.toList.drop 32).take 16 = [108, 182, 1, 34, 153, 0, 43, 42, 21, 4, 16, 6, 112, 182, 1, 34] := by decide +kernel
theorem chX11_rest_3 : (cX11_rest.data.toList.drop 48).take 16 = [153, 0, 31, 42, 21, 4, 16, 6, 108, 21, 4, 16, 6, 112, 182, 1] := by decide +kernel
theorem chX11_rest_4 : (cX11_rest.data.toList.drop 64).take 16 = [213, 153, 0, 14, 29, 28, 160, 0, 6, 21, 4, 172, 132, 3, 1, 132] := by decide +kernel
theorem chX11_rest_5 : (cX11_rest.data.toList.drop 80).take 16 = [4, 1, 167, 255, 194, 28, 2, 160, 0, 7, 29, 167, 0, 4, 2, 172] := by decide +kernel
theorem dX11_rest_0 : decode cX11_rest 0 = .ok (.aload_n 0, 1) := oq_42 (byt chX11_rest_0 0 rfl)
theorem dX11_rest_1 : decode cX11_rest 1 = .ok (.iconst 0, 1) := oq_3 (byt chX11_rest_0 1 rfl)
theorem dX11_rest_2 : decode cX11_rest 2 = .ok (.putfield 90, 3) := oq_181 (byt chX11_rest_0 2 rfl) (byt chX11_rest_0 3 rfl) (byt chX11_rest_0 4 rfl) rfl
theorem dX11_rest_5 : decode cX11_rest 5 = .ok (.aload_n 0, 1) := oq_42 (byt chX11_rest_0 5 rfl)
theorem dX11_rest_6 : decode cX11_rest 6 = .ok (.iload_n 1, 1) := oq_27 (byt chX11_rest_0 6 rfl)
theorem dX11_rest_7 : decode cX11_rest 7 = .ok (.invokevirtual 287, 3) := oq_182 (byt chX11_rest_0 7 rfl) (byt chX11_rest_0 8 rfl) (byt chX11_rest_0 9 rfl) rfl
theorem dX11_rest_10 : decode cX11_rest 10 = .ok (.ifCond .ne 5, 3) := oq_154 (byt chX11_rest_0 10 rfl) (byt chX11_rest_0 11 rfl) (byt chX11_rest_0 12 rfl) (by decide +kernel)
theorem dX11_rest_13 : decode cX11_rest 13 = .ok (.iconst (-1), 1) := oq_2 (byt chX11_rest_0 13 rfl)
theorem dX11_rest_14 : decode cX11_rest 14 = .ok (.ireturn, 1) := oq_172 (byt chX11_rest_0 14 rfl)
theorem dX11_rest_15 : decode cX11_rest 15 = .ok (.iconst 0, 1) := oq_3 (byt chX11_rest_0 15 rfl)
theorem dX11_rest_16 : decode cX11_rest 16 = .ok (.istore_n 3, 1) := oq_62 (byt chX11_rest_1 0 rfl)
theorem dX11_rest_17 : decode cX11_rest 17 = .ok (.iconst 0, 1) := oq_3 (byt chX11_rest_1 1 rfl)
theorem dX11_rest_18 : decode cX11_rest 18 = .ok (.istore 4, 2) := oq_54 (byt chX11_rest_1 2 rfl) (byt chX11_rest_1 3 rfl) rfl
theorem dX11_rest_20 : decode cX11_rest 20 = .ok (.iload 4, 2) := oq_21 (byt chX11_rest_1 4 rfl) (byt chX11_rest_1 5 rfl) rfl
theorem dX11_rest_22 : decode cX11_rest 22 = .ok (.bipush 36, 2) := oq_16 (byt chX11_rest_1 6 rfl) (byt chX11_rest_1 7 rfl) rfl
theorem dX11_rest_24 : decode cX11_rest 24 = .ok (.if_icmp .ge 61, 3) := oq_162 (byt chX11_rest_1 8 rfl) (byt chX11_rest_1 9 rfl) (byt chX11_rest_1 10 rfl) (by decide +kernel)
theorem dX11_rest_27 : decode cX11_rest 27 = .ok (.aload_n 0, 1) := oq_42 (byt chX11_rest_1 11 rfl)
theorem dX11_rest_28 : decode cX11_rest 28 = .ok (.iload 4, 2) := oq_21 (byt chX11_rest_1 12 rfl) (byt chX11_rest_1 13 rfl) rfl
theorem dX11_rest_30 : decode cX11_rest 30 = .ok (.bipush 6, 2) := oq_16 (byt chX11_rest_1 14 rfl) (byt chX11_rest_1 15 rfl) rfl
theorem dX11_rest_32 : decode cX11_rest 32 = .ok (.idiv, 1) := oq_108 (byt chX11_rest_2 0 rfl)
theorem dX11_rest_33 : decode cX11_rest 33 = .ok (.invokevirtual 290, 3) := oq_182 (byt chX11_rest_2 1 rfl) (byt chX11_rest_2 2 rfl) (byt chX11_rest_2 3 rfl) rfl
theorem dX11_rest_36 : decode cX11_rest 36 = .ok (.ifCond .eq 43, 3) := oq_153 (byt chX11_rest_2 4 rfl) (byt chX11_rest_2 5 rfl) (byt chX11_rest_2 6 rfl) (by decide +kernel)
theorem dX11_rest_39 : decode cX11_rest 39 = .ok (.aload_n 0, 1) := oq_42 (byt chX11_rest_2 7 rfl)
theorem dX11_rest_40 : decode cX11_rest 40 = .ok (.iload 4, 2) := oq_21 (byt chX11_rest_2 8 rfl) (byt chX11_rest_2 9 rfl) rfl
theorem dX11_rest_42 : decode cX11_rest 42 = .ok (.bipush 6, 2) := oq_16 (byt chX11_rest_2 10 rfl) (byt chX11_rest_2 11 rfl) rfl
theorem dX11_rest_44 : decode cX11_rest 44 = .ok (.irem, 1) := oq_112 (byt chX11_rest_2 12 rfl)
theorem dX11_rest_45 : decode cX11_rest 45 = .ok (.invokevirtual 290, 3) := oq_182 (byt chX11_rest_2 13 rfl) (byt chX11_rest_2 14 rfl) (byt chX11_rest_2 15 rfl) rfl
theorem dX11_rest_48 : decode cX11_rest 48 = .ok (.ifCond .eq 31, 3) := oq_153 (byt chX11_rest_3 0 rfl) (byt chX11_rest_3 1 rfl) (byt chX11_rest_3 2 rfl) (by decide +kernel)
theorem dX11_rest_51 : decode cX11_rest 51 = .ok (.aload_n 0, 1) := oq_42 (byt chX11_rest_3 3 rfl)
theorem dX11_rest_52 : decode cX11_rest 52 = .ok (.iload 4, 2) := oq_21 (byt chX11_rest_3 4 rfl) (byt chX11_rest_3 5 rfl) rfl
theorem dX11_rest_54 : decode cX11_rest 54 = .ok (.bipush 6, 2) := oq_16 (byt chX11_rest_3 6 rfl) (byt chX11_rest_3 7 rfl) rfl
theorem dX11_rest_56 : decode cX11_rest 56 = .ok (.idiv, 1) := oq_108 (byt chX11_rest_3 8 rfl)
theorem dX11_rest_57 : decode cX11_rest 57 = .ok (.iload 4, 2) := oq_21 (byt chX11_rest_3 9 rfl) (byt chX11_rest_3 10 rfl) rfl
theorem dX11_rest_59 : decode cX11_rest 59 = .ok (.bipush 6, 2) := oq_16 (byt chX11_rest_3 11 rfl) (byt chX11_rest_3 12 rfl) rfl
theorem dX11_rest_61 : decode cX11_rest 61 = .ok (.irem, 1) := oq_112 (byt chX11_rest_3 13 rfl)
theorem dX11_rest_62 : decode cX11_rest 62 = .ok (.invokevirtual 469, 3) := oq_182 (byt chX11_rest_3 14 rfl) (byt chX11_rest_3 15 rfl) (byt chX11_rest_4 0 rfl) rfl
theorem dX11_rest_65 : decode cX11_rest 65 = .ok (.ifCond .eq 14, 3) := oq_153 (byt chX11_rest_4 1 rfl) (byt chX11_rest_4 2 rfl) (byt chX11_rest_4 3 rfl) (by decide +kernel)
theorem dX11_rest_68 : decode cX11_rest 68 = .ok (.iload_n 3, 1) := oq_29 (byt chX11_rest_4 4 rfl)
theorem dX11_rest_69 : decode cX11_rest 69 = .ok (.iload_n 2, 1) := oq_28 (byt chX11_rest_4 5 rfl)
theorem dX11_rest_70 : decode cX11_rest 70 = .ok (.if_icmp .ne 6, 3) := oq_160 (byt chX11_rest_4 6 rfl) (byt chX11_rest_4 7 rfl) (byt chX11_rest_4 8 rfl) (by decide +kernel)
theorem dX11_rest_73 : decode cX11_rest 73 = .ok (.iload 4, 2) := oq_21 (byt chX11_rest_4 9 rfl) (byt chX11_rest_4 10 rfl) rfl
theorem dX11_rest_75 : decode cX11_rest 75 = .ok (.ireturn, 1) := oq_172 (byt chX11_rest_4 11 rfl)
theorem dX11_rest_76 : decode cX11_rest 76 = .ok (.iinc 3 1, 3) := oq_132 (byt chX11_rest_4 12 rfl) (byt chX11_rest_4 13 rfl) (byt chX11_rest_4 14 rfl) rfl
theorem dX11_rest_79 : decode cX11_rest 79 = .ok (.iinc 4 1, 3) := oq_132 (byt chX11_rest_4 15 rfl) (byt chX11_rest_5 0 rfl) (byt chX11_rest_5 1 rfl) rfl
theorem dX11_rest_82 : decode cX11_rest 82 = .ok (.goto (-62), 3) := oq_167 (byt chX11_rest_5 2 rfl) (byt chX11_rest_5 3 rfl) (byt chX11_rest_5 4 rfl) (by decide +kernel)
theorem dX11_rest_85 : decode cX11_rest 85 = .ok (.iload_n 2, 1) := oq_28 (byt chX11_rest_5 5 rfl)
theorem dX11_rest_86 : decode cX11_rest 86 = .ok (.iconst (-1), 1) := oq_2 (byt chX11_rest_5 6 rfl)
theorem dX11_rest_87 : decode cX11_rest 87 = .ok (.if_icmp .ne 7, 3) := oq_160 (byt chX11_rest_5 7 rfl) (byt chX11_rest_5 8 rfl) (byt chX11_rest_5 9 rfl) (by decide +kernel)
theorem dX11_rest_90 : decode cX11_rest 90 = .ok (.iload_n 3, 1) := oq_29 (byt chX11_rest_5 10 rfl)
theorem dX11_rest_91 : decode cX11_rest 91 = .ok (.goto 4, 3) := oq_167 (byt chX11_rest_5 11 rfl) (byt chX11_rest_5 12 rfl) (byt chX11_rest_5 13 rfl) (by decide +kernel)
theorem dX11_rest_94 : decode cX11_rest 94 = .ok (.iconst (-1), 1) := oq_2 (byt chX11_rest_5 14 rfl)
theorem dX11_rest_95 : decode cX11_rest 95 = .ok (.ireturn, 1) := oq_172 (byt chX11_rest_5 15 rfl)
abbrev mX11_rest : MI := (yX11_rest, cX11_rest, 5, (some .int), noE)
theorem okX11_rest : cok mX11_rest 2 := ⟨tw1773, tw11, by decide, by decide, by decide, by decide +kernel⟩
def fX11_rest (M : Mem) (a0 a1 a2 : Int) : Option (Int × Mem) :=
  if M.2.1 a0 = 10 then bM (mst M a0 0 0) fun M2 => (fX11_hand M2 a0 a1).bind fun r4 => if r4.1 = 0 then (some ((-1), r4.2)) else (iterC (fun (rec7 : (Int × Int) → Option (Int × Mem)) (s8 : Int × Int) => if s8.2 < 36 then (if r4.2.2.1 a0 = 10 then (fX11_isHouse r4.2 a0 (w32 (s8.2.tdiv 6))).bind fun r10 => if r10 = 0 then (rec7 (s8.1, w32 (s8.2 + 1))) else ((fX11_isHouse r4.2 a0 (s8.2.tmod 6)).bind fun r14 => if r14 = 0 then (rec7 (s8.1, w32 (s8.2 + 1))) else ((fX11_isRest r4.2 a0 (w32 (s8.2.tdiv 6)) (s8.2.tmod 6)).bind fun r17 => if r17 = 0 then (rec7 (s8.1, w32 (s8.2 + 1))) else (if s8.1 = a2 then (some (s8.2, r4.2)) else (rec7 (w32 (s8.1 + 1), w32 (s8.2 + 1)))))) else none) else (if a2 = (-1) then (some (s8.1, r4.2)) else (some ((-1), r4.2)))) BIG (0, 0)) else none
set_option maxRecDepth 100000 in
set_option maxHeartbeats 4000000 in
theorem kX11_rest (d : Nat) (hd : 4 ≤ d) (M : Mem) (a0 a1 a2 : Int) : Ct mX11_rest d 0 0 [pA a0, pI a1, pI a2] M dIM (fX11_rest M a0 a1 a2) := by
  obtain ⟨d, rfl⟩ : ∃ k, d = k + 1 := ⟨d - 1, by omega⟩
  refine Ct.of 2 (fun _ _ _ => trivial) (by decide +kernel) rfl ?_
  unfold fX11_rest
  refine v_aload_n dX11_rest_0 rfl ?_
  refine v_iconst dX11_rest_1 (by decide) ?_
  refine v_if (fun h1 => ?_)
  refine v_put (x := 0) 10 0 rfl inX11 (by decide) tw1193 (Or.inl rfl) rfl dX11_rest_2 h1 rfl id ?_
  refine v_bM (fun M2 e3 => ?_)
  refine v_aload_n dX11_rest_5 rfl ?_
  refine v_iload_n dX11_rest_6 rfl ?_
  refine v_cV (mi := mX11_rest) (c0 := 0) (c1 := 0) (As := [pI a1]) (st := []) (kX11_hand d (by omega) _ _ _) rfl (by rw [e3]; exact h1) rfl okX11_hand (Or.inl tw1500) tw1502 tp54 rfl (Nat.le_of_ble_eq_true rfl) dX11_rest_7 (fun r4 => [pI r4.1]) (fun r4 => r4.2) (fun _ => rfl) (fun _ => rfl) (fun r4 h5 => ?_) rfl
  refine v_if_ne (tgt := 15) dX11_rest_10 (by decide) (fun c6 => ?_) (fun c6 => ?_)
  · refine v_iconst dX11_rest_13 (by decide) ?_
    exact v_ireturn dX11_rest_14 rfl rfl
  · refine v_iconst dX11_rest_15 (by decide) ?_
    refine v_istore_n (ls' := [some (pA a0), some (pI a1), some (pI a2), some (pI 0), none]) dX11_rest_16 (by decide) rfl ?_
    refine v_iconst dX11_rest_17 (by decide) ?_
    refine v_istore (ls' := [some (pA a0), some (pI a1), some (pI a2), some (pI 0), some (pI 0)]) dX11_rest_18 (by decide) rfl ?_
    refine v_drop [some (pA a0), none, some (pI a2), some (pI 0), some (pI 0)] (ls_s (ls_n (ls_s (ls_s (ls_s ls_e))))) ?_
    refine v_loop (fun (s8 : Int × Int) => [some (pA a0), none, some (pI a2), some (pI s8.1), some (pI s8.2)]) (fun (s8 : Int × Int) => r4.2) (s0 := (0, 0)) ?_
    intro rec7 hrec7 s8
    refine v_iload dX11_rest_20 rfl ?_
    refine v_bipush dX11_rest_22 (by decide) ?_
    refine v_icmp_ge (tgt := 85) dX11_rest_24 (by decide) (fun c9 => ?_) (fun c9 => ?_)
    · refine v_aload_n dX11_rest_27 rfl ?_
      refine v_iload dX11_rest_28 rfl ?_
      refine v_bipush dX11_rest_30 (by decide) ?_
      refine v_idiv (by decide) dX11_rest_32 ?_
      refine v_if (fun h12 => ?_)
      refine v_cV (mi := mX11_rest) (c0 := 0) (c1 := 0) (As := [pI (w32 (s8.2.tdiv 6))]) (st := []) (kX11_isHouse d (by omega) _ _ _) rfl h12 rfl okX11_isHouse (Or.inl tw1508) tw1510 tp56 rfl (Nat.le_of_ble_eq_true rfl) dX11_rest_33 (fun r10 => [pI r10]) (fun r10 => r4.2) (fun _ => rfl) (fun _ => rfl) (fun r10 h11 => ?_) rfl
      refine v_if_eq (tgt := 79) dX11_rest_36 (by decide) (fun c13 => ?_) (fun c13 => ?_)
      · refine v_iinc (ls' := [some (pA a0), none, some (pI a2), some (pI s8.1), some (pI (w32 (s8.2 + 1)))]) dX11_rest_79 (by decide) rfl rfl ?_
        refine v_goto (tgt := 20) dX11_rest_82 (by decide) ?_
        exact hrec7 (s8.1, w32 (s8.2 + 1))
      · refine v_aload_n dX11_rest_39 rfl ?_
        refine v_iload dX11_rest_40 rfl ?_
        refine v_bipush dX11_rest_42 (by decide) ?_
        refine v_irem (by decide) dX11_rest_44 ?_
        refine v_cV (mi := mX11_rest) (c0 := 0) (c1 := 0) (As := [pI (s8.2.tmod 6)]) (st := []) (kX11_isHouse d (by omega) _ _ _) rfl h12 rfl okX11_isHouse (Or.inl tw1508) tw1510 tp56 rfl (Nat.le_of_ble_eq_true rfl) dX11_rest_45 (fun r14 => [pI r14]) (fun r14 => r4.2) (fun _ => rfl) (fun _ => rfl) (fun r14 h15 => ?_) rfl
        refine v_if_eq (tgt := 79) dX11_rest_48 (by decide) (fun c16 => ?_) (fun c16 => ?_)
        · refine v_iinc (ls' := [some (pA a0), none, some (pI a2), some (pI s8.1), some (pI (w32 (s8.2 + 1)))]) dX11_rest_79 (by decide) rfl rfl ?_
          refine v_goto (tgt := 20) dX11_rest_82 (by decide) ?_
          exact hrec7 (s8.1, w32 (s8.2 + 1))
        · refine v_aload_n dX11_rest_51 rfl ?_
          refine v_iload dX11_rest_52 rfl ?_
          refine v_bipush dX11_rest_54 (by decide) ?_
          refine v_idiv (by decide) dX11_rest_56 ?_
          refine v_iload dX11_rest_57 rfl ?_
          refine v_bipush dX11_rest_59 (by decide) ?_
          refine v_irem (by decide) dX11_rest_61 ?_
          refine v_cV (mi := mX11_rest) (c0 := 0) (c1 := 0) (As := [pI (w32 (s8.2.tdiv 6)), pI (s8.2.tmod 6)]) (st := []) (kX11_isRest d (by omega) _ _ _ _) rfl h12 rfl okX11_isRest (Or.inl tw1774) tw1776 tp100 rfl (Nat.le_of_ble_eq_true rfl) dX11_rest_62 (fun r17 => [pI r17]) (fun r17 => r4.2) (fun _ => rfl) (fun _ => rfl) (fun r17 h18 => ?_) rfl
          refine v_if_eq (tgt := 79) dX11_rest_65 (by decide) (fun c19 => ?_) (fun c19 => ?_)
          · refine v_iinc (ls' := [some (pA a0), none, some (pI a2), some (pI s8.1), some (pI (w32 (s8.2 + 1)))]) dX11_rest_79 (by decide) rfl rfl ?_
            refine v_goto (tgt := 20) dX11_rest_82 (by decide) ?_
            exact hrec7 (s8.1, w32 (s8.2 + 1))
          · refine v_iload_n dX11_rest_68 rfl ?_
            refine v_iload_n dX11_rest_69 rfl ?_
            refine v_icmp_ne (tgt := 76) dX11_rest_70 (by decide) (fun c20 => ?_) (fun c20 => ?_)
            · refine v_iload dX11_rest_73 rfl ?_
              exact v_ireturn dX11_rest_75 rfl rfl
            · refine v_iinc (ls' := [some (pA a0), none, some (pI a2), some (pI (w32 (s8.1 + 1))), some (pI s8.2)]) dX11_rest_76 (by decide) rfl rfl ?_
              refine v_iinc (ls' := [some (pA a0), none, some (pI a2), some (pI (w32 (s8.1 + 1))), some (pI (w32 (s8.2 + 1)))]) dX11_rest_79 (by decide) rfl rfl ?_
              refine v_goto (tgt := 20) dX11_rest_82 (by decide) ?_
              exact hrec7 (w32 (s8.1 + 1), w32 (s8.2 + 1))
    · refine v_iload_n dX11_rest_85 rfl ?_
      refine v_iconst dX11_rest_86 (by decide) ?_
      refine v_icmp_ne (tgt := 94) dX11_rest_87 (by decide) (fun c21 => ?_) (fun c21 => ?_)
      · refine v_iload_n dX11_rest_90 rfl ?_
        refine v_goto (tgt := 95) dX11_rest_91 (by decide) ?_
        exact v_ireturn dX11_rest_95 rfl rfl
      · refine v_iconst dX11_rest_94 (by decide) ?_
        exact v_ireturn dX11_rest_95 rfl rfl
theorem chX11_least_0 : (cX11_least.data.toList.drop 0).take 16 = [27, 154, 0, 13, 28, 153, 0, 7, 4, 167, 0, 4, 3, 172, 28, 153] := by decide +kernel
theorem chX11_least_1 : (cX11_least.data.toList.drop 16).take 16 = [0, 7, 27, 167, 0, 4, 26, 27, 26, 184, 1, 173, 108, 172] := by decide +kernel
theorem dX11_least_0 : decode cX11_least 0 = .ok (.iload_n 1, 1) := oq_27 (byt chX11_least_0 0 rfl)
theorem dX11_least_1 : decode cX11_least 1 = .ok (.ifCond .ne 13, 3) := oq_154 (byt chX11_least_0 1 rfl) (byt chX11_least_0 2 rfl) (byt chX11_least_0 3 rfl) (by decide +kernel)
theorem dX11_least_4 : decode cX11_least 4 = .ok (.iload_n 2, 1) := oq_28 (byt chX11_least_0 4 rfl)
theorem dX11_least_5 : decode cX11_least 5 = .ok (.ifCond .eq 7, 3) := oq_153 (byt chX11_least_0 5 rfl) (byt chX11_least_0 6 rfl) (byt chX11_least_0 7 rfl) (by decide +kernel)
theorem dX11_least_8 : decode cX11_least 8 = .ok (.iconst 1, 1) := oq_4 (byt chX11_least_0 8 rfl)
theorem dX11_least_9 : decode cX11_least 9 = .ok (.goto 4, 3) := oq_167 (byt chX11_least_0 9 rfl) (byt chX11_least_0 10 rfl) (byt chX11_least_0 11 rfl) (by decide +kernel)
theorem dX11_least_12 : decode cX11_least 12 = .ok (.iconst 0, 1) := oq_3 (byt chX11_least_0 12 rfl)
theorem dX11_least_13 : decode cX11_least 13 = .ok (.ireturn, 1) := oq_172 (byt chX11_least_0 13 rfl)
theorem dX11_least_14 : decode cX11_least 14 = .ok (.iload_n 2, 1) := oq_28 (byt chX11_least_0 14 rfl)
theorem dX11_least_15 : decode cX11_least 15 = .ok (.ifCond .eq 7, 3) := oq_153 (byt chX11_least_0 15 rfl) (byt chX11_least_1 0 rfl) (byt chX11_least_1 1 rfl) (by decide +kernel)
theorem dX11_least_18 : decode cX11_least 18 = .ok (.iload_n 1, 1) := oq_27 (byt chX11_least_1 2 rfl)
theorem dX11_least_19 : decode cX11_least 19 = .ok (.goto 4, 3) := oq_167 (byt chX11_least_1 3 rfl) (byt chX11_least_1 4 rfl) (byt chX11_least_1 5 rfl) (by decide +kernel)
theorem dX11_least_22 : decode cX11_least 22 = .ok (.iload_n 0, 1) := oq_26 (byt chX11_least_1 6 rfl)
theorem dX11_least_23 : decode cX11_least 23 = .ok (.iload_n 1, 1) := oq_27 (byt chX11_least_1 7 rfl)
theorem dX11_least_24 : decode cX11_least 24 = .ok (.iload_n 0, 1) := oq_26 (byt chX11_least_1 8 rfl)
theorem dX11_least_25 : decode cX11_least 25 = .ok (.invokestatic 429, 3) := oq_184 (byt chX11_least_1 9 rfl) (byt chX11_least_1 10 rfl) (byt chX11_least_1 11 rfl) rfl
theorem dX11_least_28 : decode cX11_least 28 = .ok (.idiv, 1) := oq_108 (byt chX11_least_1 12 rfl)
theorem dX11_least_29 : decode cX11_least 29 = .ok (.ireturn, 1) := oq_172 (byt chX11_least_1 13 rfl)
abbrev mX11_least : MI := (yX11_least, cX11_least, 3, (some .int), noE)
theorem okX11_least : cok mX11_least 3 := ⟨tw1784, tw11, by decide, by decide, by decide, by decide +kernel⟩
def fX11_least (M : Mem) (a0 a1 a2 : Int) : Option Int :=
  if a1 = 0 then (if a2 = 0 then (some 0) else (some 1)) else (jn (fun (t4 : Int) => (fX11_common M a1 a0).bind fun r5 => if r5 ≠ 0 then some (w32 (t4.tdiv r5)) else none) (fun (j3 : Int → Option Int) => if a2 = 0 then (j3 a0) else (j3 a1)))
set_option maxRecDepth 100000 in
set_option maxHeartbeats 4000000 in
theorem kX11_least (d : Nat) (hd : 1 ≤ d) (M : Mem) (a0 a1 a2 : Int) : Ct mX11_least d 0 0 [pI a0, pI a1, pI a2] M (dI M) (fX11_least M a0 a1 a2) := by
  obtain ⟨d, rfl⟩ : ∃ k, d = k + 1 := ⟨d - 1, by omega⟩
  refine Ct.of 0 (fun _ _ _ => trivial) (by decide +kernel) rfl ?_
  unfold fX11_least
  refine v_iload_n dX11_least_0 rfl ?_
  refine v_if_ne (tgt := 14) dX11_least_1 (by decide) (fun c1 => ?_) (fun c1 => ?_)
  · refine v_iload_n dX11_least_4 rfl ?_
    refine v_if_eq (tgt := 12) dX11_least_5 (by decide) (fun c2 => ?_) (fun c2 => ?_)
    · refine v_iconst dX11_least_12 (by decide) ?_
      exact v_ireturn dX11_least_13 rfl rfl
    · refine v_iconst dX11_least_8 (by decide) ?_
      refine v_goto (tgt := 13) dX11_least_9 (by decide) ?_
      exact v_ireturn dX11_least_13 rfl rfl
  · refine v_iload_n dX11_least_14 rfl ?_
    refine v_join (fun (t4 : Int) => [some (pI a0), some (pI a1), none]) (fun (t4 : Int) => [pI t4]) (fun (t4 : Int) => M) 23 (fun t4 => ?_) (fun j3 hj3 => ?_)
    · refine v_iload_n dX11_least_23 rfl ?_
      refine v_iload_n dX11_least_24 rfl ?_
      refine v_cS (mi := mX11_least) (c0 := 0) (c1 := 0) (As := [pI a1, pI a0]) (st := [pI t4]) (kX11_common d (by omega) _ _ _) okX11_common (Or.inl tw1696) tw1697 rfl (Nat.le_of_ble_eq_true rfl) dX11_least_25 (fun r5 => [pI r5, pI t4]) (fun r5 => M) (fun _ => rfl) (fun _ => rfl) (fun r5 h6 => ?_) rfl
      refine v_if (fun h7 => ?_)
      refine v_idiv h7 dX11_least_28 ?_
      exact v_ireturn dX11_least_29 rfl rfl
    · refine v_if_eq (tgt := 22) dX11_least_15 (by decide) (fun c8 => ?_) (fun c8 => ?_)
      · refine v_iload_n dX11_least_22 rfl ?_
        exact v_drop [some (pI a0), some (pI a1), none] (ls_s (ls_s (ls_n ls_e))) (hj3 a0)
      · refine v_iload_n dX11_least_18 rfl ?_
        refine v_goto (tgt := 23) dX11_least_19 (by decide) ?_
        exact v_drop [some (pI a0), some (pI a1), none] (ls_s (ls_s (ls_n ls_e))) (hj3 a1)
theorem chX11_share_0 : (cX11_share.data.toList.drop 0).take 16 = [42, 3, 181, 0, 90, 42, 27, 182, 1, 31, 153, 0, 11, 42, 28, 182] := by decide +kernel
theorem chX11_share_1 : (cX11_share.data.toList.drop 16).take 16 = [1, 34, 154, 0, 5, 2, 172, 3, 54, 4, 3, 54, 5, 21, 5, 42] := by decide +kernel
theorem chX11_share_2 : (cX11_share.data.toList.drop 32).take 16 = [180, 1, 25, 162, 0, 20, 21, 4, 42, 21, 5, 182, 1, 207, 96, 54] := by decide +kernel
theorem chX11_share_3 : (cX11_share.data.toList.drop 48).take 16 = [4, 132, 5, 1, 167, 255, 233, 42, 28, 182, 1, 207, 21, 4, 29, 184] := by decide +kernel
theorem chX11_share_4 : (cX11_share.data.toList.drop 64).take 16 = [1, 216, 172] := by decide +kernel
theorem dX11_share_0 : decode cX11_share 0 = .ok (.aload_n 0, 1) := oq_42 (byt chX11_share_0 0 rfl)
theorem dX11_share_1 : decode cX11_share 1 = .ok (.iconst 0, 1) := oq_3 (byt chX11_share_0 1 rfl)
theorem dX11_share_2 : decode cX11_share 2 = .ok (.putfield 90, 3) := oq_181 (byt chX11_share_0 2 rfl) (byt chX11_share_0 3 rfl) (byt chX11_share_0 4 rfl) rfl
theorem dX11_share_5 : decode cX11_share 5 = .ok (.aload_n 0, 1) := oq_42 (byt chX11_share_0 5 rfl)
theorem dX11_share_6 : decode cX11_share 6 = .ok (.iload_n 1, 1) := oq_27 (byt chX11_share_0 6 rfl)
theorem dX11_share_7 : decode cX11_share 7 = .ok (.invokevirtual 287, 3) := oq_182 (byt chX11_share_0 7 rfl) (byt chX11_share_0 8 rfl) (byt chX11_share_0 9 rfl) rfl
theorem dX11_share_10 : decode cX11_share 10 = .ok (.ifCond .eq 11, 3) := oq_153 (byt chX11_share_0 10 rfl) (byt chX11_share_0 11 rfl) (byt chX11_share_0 12 rfl) (by decide +kernel)
theorem dX11_share_13 : decode cX11_share 13 = .ok (.aload_n 0, 1) := oq_42 (byt chX11_share_0 13 rfl)
theorem dX11_share_14 : decode cX11_share 14 = .ok (.iload_n 2, 1) := oq_28 (byt chX11_share_0 14 rfl)
theorem dX11_share_15 : decode cX11_share 15 = .ok (.invokevirtual 290, 3) := oq_182 (byt chX11_share_0 15 rfl) (byt chX11_share_1 0 rfl) (byt chX11_share_1 1 rfl) rfl
theorem dX11_share_18 : decode cX11_share 18 = .ok (.ifCond .ne 5, 3) := oq_154 (byt chX11_share_1 2 rfl) (byt chX11_share_1 3 rfl) (byt chX11_share_1 4 rfl) (by decide +kernel)
theorem dX11_share_21 : decode cX11_share 21 = .ok (.iconst (-1), 1) := oq_2 (byt chX11_share_1 5 rfl)
theorem dX11_share_22 : decode cX11_share 22 = .ok (.ireturn, 1) := oq_172 (byt chX11_share_1 6 rfl)
theorem dX11_share_23 : decode cX11_share 23 = .ok (.iconst 0, 1) := oq_3 (byt chX11_share_1 7 rfl)
theorem dX11_share_24 : decode cX11_share 24 = .ok (.istore 4, 2) := oq_54 (byt chX11_share_1 8 rfl) (byt chX11_share_1 9 rfl) rfl
theorem dX11_share_26 : decode cX11_share 26 = .ok (.iconst 0, 1) := oq_3 (byt chX11_share_1 10 rfl)
theorem dX11_share_27 : decode cX11_share 27 = .ok (.istore 5, 2) := oq_54 (byt chX11_share_1 11 rfl) (byt chX11_share_1 12 rfl) rfl
theorem dX11_share_29 : decode cX11_share 29 = .ok (.iload 5, 2) := oq_21 (byt chX11_share_1 13 rfl) (byt chX11_share_1 14 rfl) rfl
theorem dX11_share_31 : decode cX11_share 31 = .ok (.aload_n 0, 1) := oq_42 (byt chX11_share_1 15 rfl)
theorem dX11_share_32 : decode cX11_share 32 = .ok (.getfield 281, 3) := oq_180 (byt chX11_share_2 0 rfl) (byt chX11_share_2 1 rfl) (byt chX11_share_2 2 rfl) rfl
theorem dX11_share_35 : decode cX11_share 35 = .ok (.if_icmp .ge 20, 3) := oq_162 (byt chX11_share_2 3 rfl) (byt chX11_share_2 4 rfl) (byt chX11_share_2 5 rfl) (by decide +kernel)
theorem dX11_share_38 : decode cX11_share 38 = .ok (.iload 4, 2) := oq_21 (byt chX11_share_2 6 rfl) (byt chX11_share_2 7 rfl) rfl
theorem dX11_share_40 : decode cX11_share 40 = .ok (.aload_n 0, 1) := oq_42 (byt chX11_share_2 8 rfl)
theorem dX11_share_41 : decode cX11_share 41 = .ok (.iload 5, 2) := oq_21 (byt chX11_share_2 9 rfl) (byt chX11_share_2 10 rfl) rfl
theorem dX11_share_43 : decode cX11_share 43 = .ok (.invokevirtual 463, 3) := oq_182 (byt chX11_share_2 11 rfl) (byt chX11_share_2 12 rfl) (byt chX11_share_2 13 rfl) rfl
theorem dX11_share_46 : decode cX11_share 46 = .ok (.iadd, 1) := oq_96 (byt chX11_share_2 14 rfl)
theorem dX11_share_47 : decode cX11_share 47 = .ok (.istore 4, 2) := oq_54 (byt chX11_share_2 15 rfl) (byt chX11_share_3 0 rfl) rfl
theorem dX11_share_49 : decode cX11_share 49 = .ok (.iinc 5 1, 3) := oq_132 (byt chX11_share_3 1 rfl) (byt chX11_share_3 2 rfl) (byt chX11_share_3 3 rfl) rfl
theorem dX11_share_52 : decode cX11_share 52 = .ok (.goto (-23), 3) := oq_167 (byt chX11_share_3 4 rfl) (byt chX11_share_3 5 rfl) (byt chX11_share_3 6 rfl) (by decide +kernel)
theorem dX11_share_55 : decode cX11_share 55 = .ok (.aload_n 0, 1) := oq_42 (byt chX11_share_3 7 rfl)
theorem dX11_share_56 : decode cX11_share 56 = .ok (.iload_n 2, 1) := oq_28 (byt chX11_share_3 8 rfl)
theorem dX11_share_57 : decode cX11_share 57 = .ok (.invokevirtual 463, 3) := oq_182 (byt chX11_share_3 9 rfl) (byt chX11_share_3 10 rfl) (byt chX11_share_3 11 rfl) rfl
theorem dX11_share_60 : decode cX11_share 60 = .ok (.iload 4, 2) := oq_21 (byt chX11_share_3 12 rfl) (byt chX11_share_3 13 rfl) rfl
theorem dX11_share_62 : decode cX11_share 62 = .ok (.iload_n 3, 1) := oq_29 (byt chX11_share_3 14 rfl)
theorem dX11_share_63 : decode cX11_share 63 = .ok (.invokestatic 472, 3) := oq_184 (byt chX11_share_3 15 rfl) (byt chX11_share_4 0 rfl) (byt chX11_share_4 1 rfl) rfl
theorem dX11_share_66 : decode cX11_share 66 = .ok (.ireturn, 1) := oq_172 (byt chX11_share_4 2 rfl)
abbrev mX11_share : MI := (yX11_share, cX11_share, 6, (some .int), noE)
theorem okX11_share : cok mX11_share 3 := ⟨tw1781, tw11, by decide, by decide, by decide, by decide +kernel⟩
def fX11_share (M : Mem) (a0 a1 a2 a3 : Int) : Option (Int × Mem) :=
  if M.2.1 a0 = 10 then bM (mst M a0 0 0) fun M2 => (fX11_hand M2 a0 a1).bind fun r4 => if r4.1 = 0 then (some ((-1), r4.2)) else (if r4.2.2.1 a0 = 10 then (fX11_isHouse r4.2 a0 a2).bind fun r7 => if r7 = 0 then (some ((-1), r4.2)) else (iterC (fun (rec11 : (Int × Int) → Option (Int × Mem)) (s12 : Int × Int) => if s12.2 < r4.2.1 a0 25 then ((fX11_worthOf r4.2 a0 s12.2).bind fun r14 => rec11 (w32 (s12.1 + r14), w32 (s12.2 + 1))) else ((fX11_worthOf r4.2 a0 a2).bind fun r16 => (fX11_least r4.2 r16 s12.1 a3).bind fun r18 => some (r18, r4.2))) BIG (0, 0)) else none) else none
set_option maxRecDepth 100000 in
set_option maxHeartbeats 4000000 in
theorem kX11_share (d : Nat) (hd : 3 ≤ d) (M : Mem) (a0 a1 a2 a3 : Int) : Ct mX11_share d 0 0 [pA a0, pI a1, pI a2, pI a3] M dIM (fX11_share M a0 a1 a2 a3) := by
  obtain ⟨d, rfl⟩ : ∃ k, d = k + 1 := ⟨d - 1, by omega⟩
  refine Ct.of 2 (fun _ _ _ => trivial) (by decide +kernel) rfl ?_
  unfold fX11_share
  refine v_aload_n dX11_share_0 rfl ?_
  refine v_iconst dX11_share_1 (by decide) ?_
  refine v_if (fun h1 => ?_)
  refine v_put (x := 0) 10 0 rfl inX11 (by decide) tw1193 (Or.inl rfl) rfl dX11_share_2 h1 rfl id ?_
  refine v_bM (fun M2 e3 => ?_)
  refine v_aload_n dX11_share_5 rfl ?_
  refine v_iload_n dX11_share_6 rfl ?_
  refine v_cV (mi := mX11_share) (c0 := 0) (c1 := 0) (As := [pI a1]) (st := []) (kX11_hand d (by omega) _ _ _) rfl (by rw [e3]; exact h1) rfl okX11_hand (Or.inl tw1500) tw1502 tp54 rfl (Nat.le_of_ble_eq_true rfl) dX11_share_7 (fun r4 => [pI r4.1]) (fun r4 => r4.2) (fun _ => rfl) (fun _ => rfl) (fun r4 h5 => ?_) rfl
  refine v_if_eq (tgt := 21) dX11_share_10 (by decide) (fun c6 => ?_) (fun c6 => ?_)
  · refine v_iconst dX11_share_21 (by decide) ?_
    exact v_ireturn dX11_share_22 rfl rfl
  · refine v_aload_n dX11_share_13 rfl ?_
    refine v_iload_n dX11_share_14 rfl ?_
    refine v_if (fun h9 => ?_)
    refine v_cV (mi := mX11_share) (c0 := 0) (c1 := 0) (As := [pI a2]) (st := []) (kX11_isHouse d (by omega) _ _ _) rfl h9 rfl okX11_isHouse (Or.inl tw1508) tw1510 tp56 rfl (Nat.le_of_ble_eq_true rfl) dX11_share_15 (fun r7 => [pI r7]) (fun r7 => r4.2) (fun _ => rfl) (fun _ => rfl) (fun r7 h8 => ?_) rfl
    refine v_if_ne (tgt := 23) dX11_share_18 (by decide) (fun c10 => ?_) (fun c10 => ?_)
    · refine v_iconst dX11_share_21 (by decide) ?_
      exact v_ireturn dX11_share_22 rfl rfl
    · refine v_iconst dX11_share_23 (by decide) ?_
      refine v_istore (ls' := [some (pA a0), some (pI a1), some (pI a2), some (pI a3), some (pI 0), none]) dX11_share_24 (by decide) rfl ?_
      refine v_iconst dX11_share_26 (by decide) ?_
      refine v_istore (ls' := [some (pA a0), some (pI a1), some (pI a2), some (pI a3), some (pI 0), some (pI 0)]) dX11_share_27 (by decide) rfl ?_
      refine v_drop [some (pA a0), none, some (pI a2), some (pI a3), some (pI 0), some (pI 0)] (ls_s (ls_n (ls_s (ls_s (ls_s (ls_s ls_e)))))) ?_
      refine v_loop (fun (s12 : Int × Int) => [some (pA a0), none, some (pI a2), some (pI a3), some (pI s12.1), some (pI s12.2)]) (fun (s12 : Int × Int) => r4.2) (s0 := (0, 0)) ?_
      intro rec11 hrec11 s12
      refine v_iload dX11_share_29 rfl ?_
      refine v_aload_n dX11_share_31 rfl ?_
      refine v_get (v := pI (r4.2.1 a0 25)) 10 25 rfl inX11 (by decide) tw1218 dX11_share_32 h9 rfl ?_
      refine v_icmp_ge (tgt := 55) dX11_share_35 (by decide) (fun c13 => ?_) (fun c13 => ?_)
      · refine v_iload dX11_share_38 rfl ?_
        refine v_aload_n dX11_share_40 rfl ?_
        refine v_iload dX11_share_41 rfl ?_
        refine v_cV (mi := mX11_share) (c0 := 0) (c1 := 0) (As := [pI s12.2]) (st := [pI s12.1]) (kX11_worthOf d (by omega) _ _ _) rfl h9 rfl okX11_worthOf (Or.inl tw1766) tw1768 tp99 rfl (Nat.le_of_ble_eq_true rfl) dX11_share_43 (fun r14 => [pI r14, pI s12.1]) (fun r14 => r4.2) (fun _ => rfl) (fun _ => rfl) (fun r14 h15 => ?_) rfl
        refine v_iadd dX11_share_46 ?_
        refine v_istore (ls' := [some (pA a0), none, some (pI a2), some (pI a3), some (pI (w32 (s12.1 + r14))), some (pI s12.2)]) dX11_share_47 (by decide) rfl ?_
        refine v_iinc (ls' := [some (pA a0), none, some (pI a2), some (pI a3), some (pI (w32 (s12.1 + r14))), some (pI (w32 (s12.2 + 1)))]) dX11_share_49 (by decide) rfl rfl ?_
        refine v_goto (tgt := 29) dX11_share_52 (by decide) ?_
        exact hrec11 (w32 (s12.1 + r14), w32 (s12.2 + 1))
      · refine v_aload_n dX11_share_55 rfl ?_
        refine v_iload_n dX11_share_56 rfl ?_
        refine v_cV (mi := mX11_share) (c0 := 0) (c1 := 0) (As := [pI a2]) (st := []) (kX11_worthOf d (by omega) _ _ _) rfl h9 rfl okX11_worthOf (Or.inl tw1766) tw1768 tp99 rfl (Nat.le_of_ble_eq_true rfl) dX11_share_57 (fun r16 => [pI r16]) (fun r16 => r4.2) (fun _ => rfl) (fun _ => rfl) (fun r16 h17 => ?_) rfl
        refine v_iload dX11_share_60 rfl ?_
        refine v_iload_n dX11_share_62 rfl ?_
        refine v_cS (mi := mX11_share) (c0 := 0) (c1 := 0) (As := [pI r16, pI s12.1, pI a3]) (st := []) (kX11_least d (by omega) _ _ _ _) okX11_least (Or.inl tw1782) tw1783 rfl (Nat.le_of_ble_eq_true rfl) dX11_share_63 (fun r18 => [pI r18]) (fun r18 => r4.2) (fun _ => rfl) (fun _ => rfl) (fun r18 h19 => ?_) rfl
        exact v_ireturn dX11_share_66 rfl rfl
theorem chX11_even_0 : (cX11_even.data.toList.drop 0).take 16 = [42, 3, 181, 0, 90, 42, 27, 182, 1, 31, 153, 0, 10, 28, 184, 1] := by decide +kernel
theorem chX11_even_1 : (cX11_even.data.toList.drop 16).take 16 = [37, 154, 0, 5, 2, 172, 3, 62, 3, 54, 4, 21, 4, 42, 180, 1] := by decide +kernel
theorem chX11_even_2 : (cX11_even.data.toList.drop 32).take 16 = [25, 162, 0, 24, 29, 42, 5, 8, 21, 4, 104, 96, 28, 96, 182, 1] := by decide +kernel
theorem chX11_even_3 : (cX11_even.data.toList.drop 48).take 16 = [21, 96, 62, 132, 4, 1, 167, 255, 229, 29, 42, 180, 1, 25, 108, 54] := by decide +kernel
theorem chX11_even_4 : (cX11_even.data.toList.drop 64).take 16 = [4, 29, 42, 180, 1, 25, 112, 54, 5, 3, 54, 6, 3, 54, 7, 3] := by decide +kernel
theorem chX11_even_5 : (cX11_even.data.toList.drop 80).take 16 = [54, 8, 21, 8, 42, 180, 1, 25, 162, 0, 52, 3, 42, 5, 8, 21] := by decide +kernel
theorem chX11_even_6 : (cX11_even.data.toList.drop 96).take 16 = [8, 104, 96, 28, 96, 182, 1, 21, 21, 4, 100, 184, 0, 163, 54, 9] := by decide +kernel
theorem chX11_even_7 : (cX11_even.data.toList.drop 112).take 16 = [21, 6, 21, 9, 96, 54, 6, 21, 7, 21, 9, 158, 0, 7, 4, 167] := by decide +kernel
theorem chX11_even_8 : (cX11_even.data.toList.drop 128).take 16 = [0, 4, 3, 96, 54, 7, 132, 8, 1, 167, 255, 201, 21, 6, 21, 5] := by decide +kernel
theorem chX11_even_9 : (cX11_even.data.toList.drop 144).take 16 = [21, 7, 184, 1, 143, 100, 172] := by decide +kernel
theorem dX11_even_0 : decode cX11_even 0 = .ok (.aload_n 0, 1) := oq_42 (byt chX11_even_0 0 rfl)
theorem dX11_even_1 : decode cX11_even 1 = .ok (.iconst 0, 1) := oq_3 (byt chX11_even_0 1 rfl)
theorem dX11_even_2 : decode cX11_even 2 = .ok (.putfield 90, 3) := oq_181 (byt chX11_even_0 2 rfl) (byt chX11_even_0 3 rfl) (byt chX11_even_0 4 rfl) rfl
theorem dX11_even_5 : decode cX11_even 5 = .ok (.aload_n 0, 1) := oq_42 (byt chX11_even_0 5 rfl)
theorem dX11_even_6 : decode cX11_even 6 = .ok (.iload_n 1, 1) := oq_27 (byt chX11_even_0 6 rfl)
theorem dX11_even_7 : decode cX11_even 7 = .ok (.invokevirtual 287, 3) := oq_182 (byt chX11_even_0 7 rfl) (byt chX11_even_0 8 rfl) (byt chX11_even_0 9 rfl) rfl
theorem dX11_even_10 : decode cX11_even 10 = .ok (.ifCond .eq 10, 3) := oq_153 (byt chX11_even_0 10 rfl) (byt chX11_even_0 11 rfl) (byt chX11_even_0 12 rfl) (by decide +kernel)
theorem dX11_even_13 : decode cX11_even 13 = .ok (.iload_n 2, 1) := oq_28 (byt chX11_even_0 13 rfl)
theorem dX11_even_14 : decode cX11_even 14 = .ok (.invokestatic 293, 3) := oq_184 (byt chX11_even_0 14 rfl) (byt chX11_even_0 15 rfl) (byt chX11_even_1 0 rfl) rfl
theorem dX11_even_17 : decode cX11_even 17 = .ok (.ifCond .ne 5, 3) := oq_154 (byt chX11_even_1 1 rfl) (byt chX11_even_1 2 rfl) (byt chX11_even_1 3 rfl) (by decide +kernel)
theorem dX11_even_20 : decode cX11_even 20 = .ok (.iconst (-1), 1) := oq_2 (byt chX11_even_1 4 rfl)
theorem dX11_even_21 : decode cX11_even 21 = .ok (.ireturn, 1) := oq_172 (byt chX11_even_1 5 rfl)
theorem dX11_even_22 : decode cX11_even 22 = .ok (.iconst 0, 1) := oq_3 (byt chX11_even_1 6 rfl)
theorem dX11_even_23 : decode cX11_even 23 = .ok (.istore_n 3, 1) := oq_62 (byt chX11_even_1 7 rfl)
theorem dX11_even_24 : decode cX11_even 24 = .ok (.iconst 0, 1) := oq_3 (byt chX11_even_1 8 rfl)
theorem dX11_even_25 : decode cX11_even 25 = .ok (.istore 4, 2) := oq_54 (byt chX11_even_1 9 rfl) (byt chX11_even_1 10 rfl) rfl
theorem dX11_even_27 : decode cX11_even 27 = .ok (.iload 4, 2) := oq_21 (byt chX11_even_1 11 rfl) (byt chX11_even_1 12 rfl) rfl
theorem dX11_even_29 : decode cX11_even 29 = .ok (.aload_n 0, 1) := oq_42 (byt chX11_even_1 13 rfl)
theorem dX11_even_30 : decode cX11_even 30 = .ok (.getfield 281, 3) := oq_180 (byt chX11_even_1 14 rfl) (byt chX11_even_1 15 rfl) (byt chX11_even_2 0 rfl) rfl
theorem dX11_even_33 : decode cX11_even 33 = .ok (.if_icmp .ge 24, 3) := oq_162 (byt chX11_even_2 1 rfl) (byt chX11_even_2 2 rfl) (byt chX11_even_2 3 rfl) (by decide +kernel)
theorem dX11_even_36 : decode cX11_even 36 = .ok (.iload_n 3, 1) := oq_29 (byt chX11_even_2 4 rfl)
theorem dX11_even_37 : decode cX11_even 37 = .ok (.aload_n 0, 1) := oq_42 (byt chX11_even_2 5 rfl)
theorem dX11_even_38 : decode cX11_even 38 = .ok (.iconst 2, 1) := oq_5 (byt chX11_even_2 6 rfl)
theorem dX11_even_39 : decode cX11_even 39 = .ok (.iconst 5, 1) := oq_8 (byt chX11_even_2 7 rfl)
theorem dX11_even_40 : decode cX11_even 40 = .ok (.iload 4, 2) := oq_21 (byt chX11_even_2 8 rfl) (byt chX11_even_2 9 rfl) rfl
theorem dX11_even_42 : decode cX11_even 42 = .ok (.imul, 1) := oq_104 (byt chX11_even_2 10 rfl)
theorem dX11_even_43 : decode cX11_even 43 = .ok (.iadd, 1) := oq_96 (byt chX11_even_2 11 rfl)
theorem dX11_even_44 : decode cX11_even 44 = .ok (.iload_n 2, 1) := oq_28 (byt chX11_even_2 12 rfl)
theorem dX11_even_45 : decode cX11_even 45 = .ok (.iadd, 1) := oq_96 (byt chX11_even_2 13 rfl)
theorem dX11_even_46 : decode cX11_even 46 = .ok (.invokevirtual 277, 3) := oq_182 (byt chX11_even_2 14 rfl) (byt chX11_even_2 15 rfl) (byt chX11_even_3 0 rfl) rfl
theorem dX11_even_49 : decode cX11_even 49 = .ok (.iadd, 1) := oq_96 (byt chX11_even_3 1 rfl)
theorem dX11_even_50 : decode cX11_even 50 = .ok (.istore_n 3, 1) := oq_62 (byt chX11_even_3 2 rfl)
theorem dX11_even_51 : decode cX11_even 51 = .ok (.iinc 4 1, 3) := oq_132 (byt chX11_even_3 3 rfl) (byt chX11_even_3 4 rfl) (byt chX11_even_3 5 rfl) rfl
theorem dX11_even_54 : decode cX11_even 54 = .ok (.goto (-27), 3) := oq_167 (byt chX11_even_3 6 rfl) (byt chX11_even_3 7 rfl) (byt chX11_even_3 8 rfl) (by decide +kernel)
theorem dX11_even_57 : decode cX11_even 57 = .ok (.iload_n 3, 1) := oq_29 (byt chX11_even_3 9 rfl)
theorem dX11_even_58 : decode cX11_even 58 = .ok (.aload_n 0, 1) := oq_42 (byt chX11_even_3 10 rfl)
theorem dX11_even_59 : decode cX11_even 59 = .ok (.getfield 281, 3) := oq_180 (byt chX11_even_3 11 rfl) (byt chX11_even_3 12 rfl) (byt chX11_even_3 13 rfl) rfl
theorem dX11_even_62 : decode cX11_even 62 = .ok (.idiv, 1) := oq_108 (byt chX11_even_3 14 rfl)
theorem dX11_even_63 : decode cX11_even 63 = .ok (.istore 4, 2) := oq_54 (byt chX11_even_3 15 rfl) (byt chX11_even_4 0 rfl) rfl
theorem dX11_even_65 : decode cX11_even 65 = .ok (.iload_n 3, 1) := oq_29 (byt chX11_even_4 1 rfl)
theorem dX11_even_66 : decode cX11_even 66 = .ok (.aload_n 0, 1) := oq_42 (byt chX11_even_4 2 rfl)
theorem dX11_even_67 : decode cX11_even 67 = .ok (.getfield 281, 3) := oq_180 (byt chX11_even_4 3 rfl) (byt chX11_even_4 4 rfl) (byt chX11_even_4 5 rfl) rfl
theorem dX11_even_70 : decode cX11_even 70 = .ok (.irem, 1) := oq_112 (byt chX11_even_4 6 rfl)
theorem dX11_even_71 : decode cX11_even 71 = .ok (.istore 5, 2) := oq_54 (byt chX11_even_4 7 rfl) (byt chX11_even_4 8 rfl) rfl
theorem dX11_even_73 : decode cX11_even 73 = .ok (.iconst 0, 1) := oq_3 (byt chX11_even_4 9 rfl)
theorem dX11_even_74 : decode cX11_even 74 = .ok (.istore 6, 2) := oq_54 (byt chX11_even_4 10 rfl) (byt chX11_even_4 11 rfl) rfl
theorem dX11_even_76 : decode cX11_even 76 = .ok (.iconst 0, 1) := oq_3 (byt chX11_even_4 12 rfl)
theorem dX11_even_77 : decode cX11_even 77 = .ok (.istore 7, 2) := oq_54 (byt chX11_even_4 13 rfl) (byt chX11_even_4 14 rfl) rfl
theorem dX11_even_79 : decode cX11_even 79 = .ok (.iconst 0, 1) := oq_3 (byt chX11_even_4 15 rfl)
theorem dX11_even_80 : decode cX11_even 80 = .ok (.istore 8, 2) := oq_54 (byt chX11_even_5 0 rfl) (byt chX11_even_5 1 rfl) rfl
theorem dX11_even_82 : decode cX11_even 82 = .ok (.iload 8, 2) := oq_21 (byt chX11_even_5 2 rfl) (byt chX11_even_5 3 rfl) rfl
theorem dX11_even_84 : decode cX11_even 84 = .ok (.aload_n 0, 1) := oq_42 (byt chX11_even_5 4 rfl)
theorem dX11_even_85 : decode cX11_even 85 = .ok (.getfield 281, 3) := oq_180 (byt chX11_even_5 5 rfl) (byt chX11_even_5 6 rfl) (byt chX11_even_5 7 rfl) rfl
theorem dX11_even_88 : decode cX11_even 88 = .ok (.if_icmp .ge 52, 3) := oq_162 (byt chX11_even_5 8 rfl) (byt chX11_even_5 9 rfl) (byt chX11_even_5 10 rfl) (by decide +kernel)
theorem dX11_even_91 : decode cX11_even 91 = .ok (.iconst 0, 1) := oq_3 (byt chX11_even_5 11 rfl)
theorem dX11_even_92 : decode cX11_even 92 = .ok (.aload_n 0, 1) := oq_42 (byt chX11_even_5 12 rfl)
theorem dX11_even_93 : decode cX11_even 93 = .ok (.iconst 2, 1) := oq_5 (byt chX11_even_5 13 rfl)
theorem dX11_even_94 : decode cX11_even 94 = .ok (.iconst 5, 1) := oq_8 (byt chX11_even_5 14 rfl)
theorem dX11_even_95 : decode cX11_even 95 = .ok (.iload 8, 2) := oq_21 (byt chX11_even_5 15 rfl) (byt chX11_even_6 0 rfl) rfl
theorem dX11_even_97 : decode cX11_even 97 = .ok (.imul, 1) := oq_104 (byt chX11_even_6 1 rfl)
theorem dX11_even_98 : decode cX11_even 98 = .ok (.iadd, 1) := oq_96 (byt chX11_even_6 2 rfl)
theorem dX11_even_99 : decode cX11_even 99 = .ok (.iload_n 2, 1) := oq_28 (byt chX11_even_6 3 rfl)
theorem dX11_even_100 : decode cX11_even 100 = .ok (.iadd, 1) := oq_96 (byt chX11_even_6 4 rfl)
theorem dX11_even_101 : decode cX11_even 101 = .ok (.invokevirtual 277, 3) := oq_182 (byt chX11_even_6 5 rfl) (byt chX11_even_6 6 rfl) (byt chX11_even_6 7 rfl) rfl
theorem dX11_even_104 : decode cX11_even 104 = .ok (.iload 4, 2) := oq_21 (byt chX11_even_6 8 rfl) (byt chX11_even_6 9 rfl) rfl
theorem dX11_even_106 : decode cX11_even 106 = .ok (.isub, 1) := oq_100 (byt chX11_even_6 10 rfl)
theorem dX11_even_107 : decode cX11_even 107 = .ok (.invokestatic 163, 3) := oq_184 (byt chX11_even_6 11 rfl) (byt chX11_even_6 12 rfl) (byt chX11_even_6 13 rfl) rfl
theorem dX11_even_110 : decode cX11_even 110 = .ok (.istore 9, 2) := oq_54 (byt chX11_even_6 14 rfl) (byt chX11_even_6 15 rfl) rfl
theorem dX11_even_112 : decode cX11_even 112 = .ok (.iload 6, 2) := oq_21 (byt chX11_even_7 0 rfl) (byt chX11_even_7 1 rfl) rfl
theorem dX11_even_114 : decode cX11_even 114 = .ok (.iload 9, 2) := oq_21 (byt chX11_even_7 2 rfl) (byt chX11_even_7 3 rfl) rfl
theorem dX11_even_116 : decode cX11_even 116 = .ok (.iadd, 1) := oq_96 (byt chX11_even_7 4 rfl)
theorem dX11_even_117 : decode cX11_even 117 = .ok (.istore 6, 2) := oq_54 (byt chX11_even_7 5 rfl) (byt chX11_even_7 6 rfl) rfl
theorem dX11_even_119 : decode cX11_even 119 = .ok (.iload 7, 2) := oq_21 (byt chX11_even_7 7 rfl) (byt chX11_even_7 8 rfl) rfl
theorem dX11_even_121 : decode cX11_even 121 = .ok (.iload 9, 2) := oq_21 (byt chX11_even_7 9 rfl) (byt chX11_even_7 10 rfl) rfl
theorem dX11_even_123 : decode cX11_even 123 = .ok (.ifCond .le 7, 3) := oq_158 (byt chX11_even_7 11 rfl) (byt chX11_even_7 12 rfl) (byt chX11_even_7 13 rfl) (by decide +kernel)
theorem dX11_even_126 : decode cX11_even 126 = .ok (.iconst 1, 1) := oq_4 (byt chX11_even_7 14 rfl)
theorem dX11_even_127 : decode cX11_even 127 = .ok (.goto 4, 3) := oq_167 (byt chX11_even_7 15 rfl) (byt chX11_even_8 0 rfl) (byt chX11_even_8 1 rfl) (by decide +kernel)
theorem dX11_even_130 : decode cX11_even 130 = .ok (.iconst 0, 1) := oq_3 (byt chX11_even_8 2 rfl)
theorem dX11_even_131 : decode cX11_even 131 = .ok (.iadd, 1) := oq_96 (byt chX11_even_8 3 rfl)
theorem dX11_even_132 : decode cX11_even 132 = .ok (.istore 7, 2) := oq_54 (byt chX11_even_8 4 rfl) (byt chX11_even_8 5 rfl) rfl
theorem dX11_even_134 : decode cX11_even 134 = .ok (.iinc 8 1, 3) := oq_132 (byt chX11_even_8 6 rfl) (byt chX11_even_8 7 rfl) (byt chX11_even_8 8 rfl) rfl
theorem dX11_even_137 : decode cX11_even 137 = .ok (.goto (-55), 3) := oq_167 (byt chX11_even_8 9 rfl) (byt chX11_even_8 10 rfl) (byt chX11_even_8 11 rfl) (by decide +kernel)
theorem dX11_even_140 : decode cX11_even 140 = .ok (.iload 6, 2) := oq_21 (byt chX11_even_8 12 rfl) (byt chX11_even_8 13 rfl) rfl
theorem dX11_even_142 : decode cX11_even 142 = .ok (.iload 5, 2) := oq_21 (byt chX11_even_8 14 rfl) (byt chX11_even_8 15 rfl) rfl
theorem dX11_even_144 : decode cX11_even 144 = .ok (.iload 7, 2) := oq_21 (byt chX11_even_9 0 rfl) (byt chX11_even_9 1 rfl) rfl
theorem dX11_even_146 : decode cX11_even 146 = .ok (.invokestatic 399, 3) := oq_184 (byt chX11_even_9 2 rfl) (byt chX11_even_9 3 rfl) (byt chX11_even_9 4 rfl) rfl
theorem dX11_even_149 : decode cX11_even 149 = .ok (.isub, 1) := oq_100 (byt chX11_even_9 5 rfl)
theorem dX11_even_150 : decode cX11_even 150 = .ok (.ireturn, 1) := oq_172 (byt chX11_even_9 6 rfl)
abbrev mX11_even : MI := (yX11_even, cX11_even, 10, (some .int), noE)
theorem okX11_even : cok mX11_even 2 := ⟨tw1788, tw11, by decide, by decide, by decide, by decide +kernel⟩
def fX11_even (M : Mem) (a0 a1 a2 : Int) : Option (Int × Mem) :=
  if M.2.1 a0 = 10 then bM (mst M a0 0 0) fun M2 => (fX11_hand M2 a0 a1).bind fun r4 => if r4.1 = 0 then (some ((-1), r4.2)) else ((fX11_isGood r4.2 a2).bind fun r7 => if r7 = 0 then (some ((-1), r4.2)) else (iterC (fun (rec10 : (Int × Int) → Option (Int × Mem)) (s11 : Int × Int) => if r4.2.2.1 a0 = 10 then if s11.2 < r4.2.1 a0 25 then ((fX11_of r4.2 a0 (w32 ((w32 (2 + (w32 (5 * s11.2)))) + a2))).bind fun r14 => rec10 (w32 (s11.1 + r14), w32 (s11.2 + 1))) else (if (r4.2.1 a0 25) ≠ 0 then if (r4.2.1 a0 25) ≠ 0 then iterC (fun (rec18 : (Int × Int × Int) → Option (Int × Mem)) (s19 : Int × Int × Int) => if s19.2.2 < r4.2.1 a0 25 then ((fX11_of r4.2 a0 (w32 ((w32 (2 + (w32 (5 * s19.2.2)))) + a2))).bind fun r21 => (fX11_greater r4.2 0 (w32 (r21 - (w32 (s11.1.tdiv (r4.2.1 a0 25)))))).bind fun r23 => if 0 < r23 then (rec18 (w32 (s19.1 + r23), w32 (s19.2.1 + 1), w32 (s19.2.2 + 1))) else (rec18 (w32 (s19.1 + r23), w32 (s19.2.1 + 0), w32 (s19.2.2 + 1)))) else ((fX11_lesser r4.2 (s11.1.tmod (r4.2.1 a0 25)) s19.2.1).bind fun r26 => some (w32 (s19.1 - r26), r4.2))) BIG (0, 0, 0) else none else none) else none) BIG (0, 0))) else none
set_option maxRecDepth 100000 in
set_option maxHeartbeats 4000000 in
theorem kX11_even (d : Nat) (hd : 3 ≤ d) (M : Mem) (a0 a1 a2 : Int) : Ct mX11_even d 0 0 [pA a0, pI a1, pI a2] M dIM (fX11_even M a0 a1 a2) := by
  obtain ⟨d, rfl⟩ : ∃ k, d = k + 1 := ⟨d - 1, by omega⟩
  refine Ct.of 7 (fun _ _ _ => trivial) (by decide +kernel) rfl ?_
  unfold fX11_even
  refine v_aload_n dX11_even_0 rfl ?_
  refine v_iconst dX11_even_1 (by decide) ?_
  refine v_if (fun h1 => ?_)
  refine v_put (x := 0) 10 0 rfl inX11 (by decide) tw1193 (Or.inl rfl) rfl dX11_even_2 h1 rfl id ?_
  refine v_bM (fun M2 e3 => ?_)
  refine v_aload_n dX11_even_5 rfl ?_
  refine v_iload_n dX11_even_6 rfl ?_
  refine v_cV (mi := mX11_even) (c0 := 0) (c1 := 0) (As := [pI a1]) (st := []) (kX11_hand d (by omega) _ _ _) rfl (by rw [e3]; exact h1) rfl okX11_hand (Or.inl tw1500) tw1502 tp54 rfl (Nat.le_of_ble_eq_true rfl) dX11_even_7 (fun r4 => [pI r4.1]) (fun r4 => r4.2) (fun _ => rfl) (fun _ => rfl) (fun r4 h5 => ?_) rfl
  refine v_if_eq (tgt := 20) dX11_even_10 (by decide) (fun c6 => ?_) (fun c6 => ?_)
  · refine v_iconst dX11_even_20 (by decide) ?_
    exact v_ireturn dX11_even_21 rfl rfl
  · refine v_iload_n dX11_even_13 rfl ?_
    refine v_cS (mi := mX11_even) (c0 := 0) (c1 := 0) (As := [pI a2]) (st := []) (kX11_isGood d (by omega) _ _) okX11_isGood (Or.inl tw1512) tw1513 rfl (Nat.le_of_ble_eq_true rfl) dX11_even_14 (fun r7 => [pI r7]) (fun r7 => r4.2) (fun _ => rfl) (fun _ => rfl) (fun r7 h8 => ?_) rfl
    refine v_if_ne (tgt := 22) dX11_even_17 (by decide) (fun c9 => ?_) (fun c9 => ?_)
    · refine v_iconst dX11_even_20 (by decide) ?_
      exact v_ireturn dX11_even_21 rfl rfl
    · refine v_iconst dX11_even_22 (by decide) ?_
      refine v_istore_n (ls' := [some (pA a0), some (pI a1), some (pI a2), some (pI 0), none, none, none, none, none, none]) dX11_even_23 (by decide) rfl ?_
      refine v_iconst dX11_even_24 (by decide) ?_
      refine v_istore (ls' := [some (pA a0), some (pI a1), some (pI a2), some (pI 0), some (pI 0), none, none, none, none, none]) dX11_even_25 (by decide) rfl ?_
      refine v_drop [some (pA a0), none, some (pI a2), some (pI 0), some (pI 0), none, none, none, none, none] (ls_s (ls_n (ls_s (ls_s (ls_s (ls_n (ls_n (ls_n (ls_n (ls_n ls_e)))))))))) ?_
      refine v_loop (fun (s11 : Int × Int) => [some (pA a0), none, some (pI a2), some (pI s11.1), some (pI s11.2), none, none, none, none, none]) (fun (s11 : Int × Int) => r4.2) (s0 := (0, 0)) ?_
      intro rec10 hrec10 s11
      refine v_iload dX11_even_27 rfl ?_
      refine v_aload_n dX11_even_29 rfl ?_
      refine v_if (fun h12 => ?_)
      refine v_get (v := pI (r4.2.1 a0 25)) 10 25 rfl inX11 (by decide) tw1218 dX11_even_30 h12 rfl ?_
      refine v_icmp_ge (tgt := 57) dX11_even_33 (by decide) (fun c13 => ?_) (fun c13 => ?_)
      · refine v_iload_n dX11_even_36 rfl ?_
        refine v_aload_n dX11_even_37 rfl ?_
        refine v_iconst dX11_even_38 (by decide) ?_
        refine v_iconst dX11_even_39 (by decide) ?_
        refine v_iload dX11_even_40 rfl ?_
        refine v_imul dX11_even_42 ?_
        refine v_iadd dX11_even_43 ?_
        refine v_iload_n dX11_even_44 rfl ?_
        refine v_iadd dX11_even_45 ?_
        refine v_cV (mi := mX11_even) (c0 := 0) (c1 := 0) (As := [pI (w32 ((w32 (2 + (w32 (5 * s11.2)))) + a2))]) (st := [pI s11.1]) (kX11_of d (by omega) _ _ _) rfl h12 rfl okX11_of (Or.inl tw1504) tw1506 tp55 rfl (Nat.le_of_ble_eq_true rfl) dX11_even_46 (fun r14 => [pI r14, pI s11.1]) (fun r14 => r4.2) (fun _ => rfl) (fun _ => rfl) (fun r14 h15 => ?_) rfl
        refine v_iadd dX11_even_49 ?_
        refine v_istore_n (ls' := [some (pA a0), none, some (pI a2), some (pI (w32 (s11.1 + r14))), some (pI s11.2), none, none, none, none, none]) dX11_even_50 (by decide) rfl ?_
        refine v_iinc (ls' := [some (pA a0), none, some (pI a2), some (pI (w32 (s11.1 + r14))), some (pI (w32 (s11.2 + 1))), none, none, none, none, none]) dX11_even_51 (by decide) rfl rfl ?_
        refine v_goto (tgt := 27) dX11_even_54 (by decide) ?_
        exact hrec10 (w32 (s11.1 + r14), w32 (s11.2 + 1))
      · refine v_iload_n dX11_even_57 rfl ?_
        refine v_aload_n dX11_even_58 rfl ?_
        refine v_get (v := pI (r4.2.1 a0 25)) 10 25 rfl inX11 (by decide) tw1218 dX11_even_59 h12 rfl ?_
        refine v_if (fun h16 => ?_)
        refine v_idiv h16 dX11_even_62 ?_
        refine v_istore (ls' := [some (pA a0), none, some (pI a2), some (pI s11.1), some (pI (w32 (s11.1.tdiv (r4.2.1 a0 25)))), none, none, none, none, none]) dX11_even_63 (by decide) rfl ?_
        refine v_iload_n dX11_even_65 rfl ?_
        refine v_aload_n dX11_even_66 rfl ?_
        refine v_get (v := pI (r4.2.1 a0 25)) 10 25 rfl inX11 (by decide) tw1218 dX11_even_67 h12 rfl ?_
        refine v_if (fun h17 => ?_)
        refine v_irem h17 dX11_even_70 ?_
        refine v_istore (ls' := [some (pA a0), none, some (pI a2), some (pI s11.1), some (pI (w32 (s11.1.tdiv (r4.2.1 a0 25)))), some (pI (s11.1.tmod (r4.2.1 a0 25))), none, none, none, none]) dX11_even_71 (by decide) rfl ?_
        refine v_iconst dX11_even_73 (by decide) ?_
        refine v_istore (ls' := [some (pA a0), none, some (pI a2), some (pI s11.1), some (pI (w32 (s11.1.tdiv (r4.2.1 a0 25)))), some (pI (s11.1.tmod (r4.2.1 a0 25))), some (pI 0), none, none, none]) dX11_even_74 (by decide) rfl ?_
        refine v_iconst dX11_even_76 (by decide) ?_
        refine v_istore (ls' := [some (pA a0), none, some (pI a2), some (pI s11.1), some (pI (w32 (s11.1.tdiv (r4.2.1 a0 25)))), some (pI (s11.1.tmod (r4.2.1 a0 25))), some (pI 0), some (pI 0), none, none]) dX11_even_77 (by decide) rfl ?_
        refine v_iconst dX11_even_79 (by decide) ?_
        refine v_istore (ls' := [some (pA a0), none, some (pI a2), some (pI s11.1), some (pI (w32 (s11.1.tdiv (r4.2.1 a0 25)))), some (pI (s11.1.tmod (r4.2.1 a0 25))), some (pI 0), some (pI 0), some (pI 0), none]) dX11_even_80 (by decide) rfl ?_
        refine v_drop [some (pA a0), none, some (pI a2), none, some (pI (w32 (s11.1.tdiv (r4.2.1 a0 25)))), some (pI (s11.1.tmod (r4.2.1 a0 25))), some (pI 0), some (pI 0), some (pI 0), none] (ls_s (ls_n (ls_s (ls_n (ls_s (ls_s (ls_s (ls_s (ls_s (ls_n ls_e)))))))))) ?_
        refine v_loop (fun (s19 : Int × Int × Int) => [some (pA a0), none, some (pI a2), none, some (pI (w32 (s11.1.tdiv (r4.2.1 a0 25)))), some (pI (s11.1.tmod (r4.2.1 a0 25))), some (pI s19.1), some (pI s19.2.1), some (pI s19.2.2), none]) (fun (s19 : Int × Int × Int) => r4.2) (s0 := (0, 0, 0)) ?_
        intro rec18 hrec18 s19
        refine v_iload dX11_even_82 rfl ?_
        refine v_aload_n dX11_even_84 rfl ?_
        refine v_get (v := pI (r4.2.1 a0 25)) 10 25 rfl inX11 (by decide) tw1218 dX11_even_85 h12 rfl ?_
        refine v_icmp_ge (tgt := 140) dX11_even_88 (by decide) (fun c20 => ?_) (fun c20 => ?_)
        · refine v_iconst dX11_even_91 (by decide) ?_
          refine v_aload_n dX11_even_92 rfl ?_
          refine v_iconst dX11_even_93 (by decide) ?_
          refine v_iconst dX11_even_94 (by decide) ?_
          refine v_iload dX11_even_95 rfl ?_
          refine v_imul dX11_even_97 ?_
          refine v_iadd dX11_even_98 ?_
          refine v_iload_n dX11_even_99 rfl ?_
          refine v_iadd dX11_even_100 ?_
          refine v_cV (mi := mX11_even) (c0 := 0) (c1 := 0) (As := [pI (w32 ((w32 (2 + (w32 (5 * s19.2.2)))) + a2))]) (st := [pI 0]) (kX11_of d (by omega) _ _ _) rfl h12 rfl okX11_of (Or.inl tw1504) tw1506 tp55 rfl (Nat.le_of_ble_eq_true rfl) dX11_even_101 (fun r21 => [pI r21, pI 0]) (fun r21 => r4.2) (fun _ => rfl) (fun _ => rfl) (fun r21 h22 => ?_) rfl
          refine v_iload dX11_even_104 rfl ?_
          refine v_isub dX11_even_106 ?_
          refine v_cS (mi := mX11_even) (c0 := 0) (c1 := 0) (As := [pI 0, pI (w32 (r21 - (w32 (s11.1.tdiv (r4.2.1 a0 25)))))]) (st := []) (kX11_greater d (by omega) _ _ _) okX11_greater (Or.inl tw1440) tw1441 rfl (Nat.le_of_ble_eq_true rfl) dX11_even_107 (fun r23 => [pI r23]) (fun r23 => r4.2) (fun _ => rfl) (fun _ => rfl) (fun r23 h24 => ?_) rfl
          refine v_istore (ls' := [some (pA a0), none, some (pI a2), none, some (pI (w32 (s11.1.tdiv (r4.2.1 a0 25)))), some (pI (s11.1.tmod (r4.2.1 a0 25))), some (pI s19.1), some (pI s19.2.1), some (pI s19.2.2), some (pI r23)]) dX11_even_110 (by decide) rfl ?_
          refine v_iload dX11_even_112 rfl ?_
          refine v_iload dX11_even_114 rfl ?_
          refine v_iadd dX11_even_116 ?_
          refine v_istore (ls' := [some (pA a0), none, some (pI a2), none, some (pI (w32 (s11.1.tdiv (r4.2.1 a0 25)))), some (pI (s11.1.tmod (r4.2.1 a0 25))), some (pI (w32 (s19.1 + r23))), some (pI s19.2.1), some (pI s19.2.2), some (pI r23)]) dX11_even_117 (by decide) rfl ?_
          refine v_iload dX11_even_119 rfl ?_
          refine v_iload dX11_even_121 rfl ?_
          refine v_if_le (tgt := 130) dX11_even_123 (by decide) (fun c25 => ?_) (fun c25 => ?_)
          · refine v_iconst dX11_even_126 (by decide) ?_
            refine v_goto (tgt := 131) dX11_even_127 (by decide) ?_
            refine v_iadd dX11_even_131 ?_
            refine v_istore (ls' := [some (pA a0), none, some (pI a2), none, some (pI (w32 (s11.1.tdiv (r4.2.1 a0 25)))), some (pI (s11.1.tmod (r4.2.1 a0 25))), some (pI (w32 (s19.1 + r23))), some (pI (w32 (s19.2.1 + 1))), some (pI s19.2.2), some (pI r23)]) dX11_even_132 (by decide) rfl ?_
            refine v_iinc (ls' := [some (pA a0), none, some (pI a2), none, some (pI (w32 (s11.1.tdiv (r4.2.1 a0 25)))), some (pI (s11.1.tmod (r4.2.1 a0 25))), some (pI (w32 (s19.1 + r23))), some (pI (w32 (s19.2.1 + 1))), some (pI (w32 (s19.2.2 + 1))), some (pI r23)]) dX11_even_134 (by decide) rfl rfl ?_
            refine v_goto (tgt := 82) dX11_even_137 (by decide) ?_
            exact v_drop [some (pA a0), none, some (pI a2), none, some (pI (w32 (s11.1.tdiv (r4.2.1 a0 25)))), some (pI (s11.1.tmod (r4.2.1 a0 25))), some (pI (w32 (s19.1 + r23))), some (pI (w32 (s19.2.1 + 1))), some (pI (w32 (s19.2.2 + 1))), none] (ls_s (ls_n (ls_s (ls_n (ls_s (ls_s (ls_s (ls_s (ls_s (ls_n ls_e)))))))))) (hrec18 (w32 (s19.1 + r23), w32 (s19.2.1 + 1), w32 (s19.2.2 + 1)))
          · refine v_iconst dX11_even_130 (by decide) ?_
            refine v_iadd dX11_even_131 ?_
            refine v_istore (ls' := [some (pA a0), none, some (pI a2), none, some (pI (w32 (s11.1.tdiv (r4.2.1 a0 25)))), some (pI (s11.1.tmod (r4.2.1 a0 25))), some (pI (w32 (s19.1 + r23))), some (pI (w32 (s19.2.1 + 0))), some (pI s19.2.2), some (pI r23)]) dX11_even_132 (by decide) rfl ?_
            refine v_iinc (ls' := [some (pA a0), none, some (pI a2), none, some (pI (w32 (s11.1.tdiv (r4.2.1 a0 25)))), some (pI (s11.1.tmod (r4.2.1 a0 25))), some (pI (w32 (s19.1 + r23))), some (pI (w32 (s19.2.1 + 0))), some (pI (w32 (s19.2.2 + 1))), some (pI r23)]) dX11_even_134 (by decide) rfl rfl ?_
            refine v_goto (tgt := 82) dX11_even_137 (by decide) ?_
            exact v_drop [some (pA a0), none, some (pI a2), none, some (pI (w32 (s11.1.tdiv (r4.2.1 a0 25)))), some (pI (s11.1.tmod (r4.2.1 a0 25))), some (pI (w32 (s19.1 + r23))), some (pI (w32 (s19.2.1 + 0))), some (pI (w32 (s19.2.2 + 1))), none] (ls_s (ls_n (ls_s (ls_n (ls_s (ls_s (ls_s (ls_s (ls_s (ls_n ls_e)))))))))) (hrec18 (w32 (s19.1 + r23), w32 (s19.2.1 + 0), w32 (s19.2.2 + 1)))
        · refine v_iload dX11_even_140 rfl ?_
          refine v_iload dX11_even_142 rfl ?_
          refine v_iload dX11_even_144 rfl ?_
          refine v_cS (mi := mX11_even) (c0 := 0) (c1 := 0) (As := [pI (s11.1.tmod (r4.2.1 a0 25)), pI s19.2.1]) (st := [pI s19.1]) (kX11_lesser d (by omega) _ _ _) okX11_lesser (Or.inl tw1665) tw1666 rfl (Nat.le_of_ble_eq_true rfl) dX11_even_146 (fun r26 => [pI r26, pI s19.1]) (fun r26 => r4.2) (fun _ => rfl) (fun _ => rfl) (fun r26 h27 => ?_) rfl
          refine v_isub dX11_even_149 ?_
          exact v_ireturn dX11_even_150 rfl rfl
theorem chX11_draw_0 : (cX11_draw.data.toList.drop 0).take 16 = [42, 42, 180, 1, 220, 19, 1, 223, 104, 17, 48, 57, 96, 181, 1, 220] := by decide +kernel
theorem chX11_draw_1 : (cX11_draw.data.toList.drop 16).take 16 = [42, 180, 1, 220, 16, 16, 124, 27, 112, 172] := by decide +kernel
theorem dX11_draw_0 : decode cX11_draw 0 = .ok (.aload_n 0, 1) := oq_42 (byt chX11_draw_0 0 rfl)
theorem dX11_draw_1 : decode cX11_draw 1 = .ok (.aload_n 0, 1) := oq_42 (byt chX11_draw_0 1 rfl)
theorem dX11_draw_2 : decode cX11_draw 2 = .ok (.getfield 476, 3) := oq_180 (byt chX11_draw_0 2 rfl) (byt chX11_draw_0 3 rfl) (byt chX11_draw_0 4 rfl) rfl
theorem dX11_draw_5 : decode cX11_draw 5 = .ok (.ldc_w 479, 3) := oq_19 (byt chX11_draw_0 5 rfl) (byt chX11_draw_0 6 rfl) (byt chX11_draw_0 7 rfl) rfl
theorem dX11_draw_8 : decode cX11_draw 8 = .ok (.imul, 1) := oq_104 (byt chX11_draw_0 8 rfl)
theorem dX11_draw_9 : decode cX11_draw 9 = .ok (.sipush 12345, 3) := oq_17 (byt chX11_draw_0 9 rfl) (byt chX11_draw_0 10 rfl) (byt chX11_draw_0 11 rfl) (by decide +kernel)
theorem dX11_draw_12 : decode cX11_draw 12 = .ok (.iadd, 1) := oq_96 (byt chX11_draw_0 12 rfl)
theorem dX11_draw_13 : decode cX11_draw 13 = .ok (.putfield 476, 3) := oq_181 (byt chX11_draw_0 13 rfl) (byt chX11_draw_0 14 rfl) (byt chX11_draw_0 15 rfl) rfl
theorem dX11_draw_16 : decode cX11_draw 16 = .ok (.aload_n 0, 1) := oq_42 (byt chX11_draw_1 0 rfl)
theorem dX11_draw_17 : decode cX11_draw 17 = .ok (.getfield 476, 3) := oq_180 (byt chX11_draw_1 1 rfl) (byt chX11_draw_1 2 rfl) (byt chX11_draw_1 3 rfl) rfl
theorem dX11_draw_20 : decode cX11_draw 20 = .ok (.bipush 16, 2) := oq_16 (byt chX11_draw_1 4 rfl) (byt chX11_draw_1 5 rfl) rfl
theorem dX11_draw_22 : decode cX11_draw 22 = .ok (.iushr, 1) := oq_124 (byt chX11_draw_1 6 rfl)
theorem dX11_draw_23 : decode cX11_draw 23 = .ok (.iload_n 1, 1) := oq_27 (byt chX11_draw_1 7 rfl)
theorem dX11_draw_24 : decode cX11_draw 24 = .ok (.irem, 1) := oq_112 (byt chX11_draw_1 8 rfl)
theorem dX11_draw_25 : decode cX11_draw 25 = .ok (.ireturn, 1) := oq_172 (byt chX11_draw_1 9 rfl)
abbrev mX11_draw : MI := (yX11_draw, cX11_draw, 2, (some .int), noE)
theorem okX11_draw : cok mX11_draw 1 := ⟨tw1800, tw11, by decide, by decide, by decide, by decide +kernel⟩
def fX11_draw (M : Mem) (a0 a1 : Int) : Option (Int × Mem) :=
  if M.2.1 a0 = 10 then bM (mst M a0 49 (w32 ((w32 ((M.1 a0 49) * 1103515245)) + 12345))) fun M2 => if a1 ≠ 0 then some ((bUshr (M2.1 a0 49) 16).tmod a1, M2) else none else none
set_option maxRecDepth 100000 in
set_option maxHeartbeats 4000000 in
theorem kX11_draw (d : Nat) (hd : 0 ≤ d) (M : Mem) (a0 a1 : Int) : Ct mX11_draw d 0 0 [pA a0, pI a1] M dIM (fX11_draw M a0 a1) := by
  refine Ct.of 0 (fun _ _ _ => trivial) (by decide +kernel) rfl ?_
  unfold fX11_draw
  refine v_aload_n dX11_draw_0 rfl ?_
  refine v_aload_n dX11_draw_1 rfl ?_
  refine v_if (fun h1 => ?_)
  refine v_get (v := pI (M.1 a0 49)) 10 49 rfl inX11 (by decide) tw1242 dX11_draw_2 h1 rfl ?_
  refine v_ldcw (n := 1103515245) dX11_draw_5 (by decide) tw1801 ?_
  refine v_imul dX11_draw_8 ?_
  refine v_sipush dX11_draw_9 (by decide) ?_
  refine v_iadd dX11_draw_12 ?_
  refine v_put (x := w32 ((w32 ((M.1 a0 49) * 1103515245)) + 12345)) 10 49 rfl inX11 (by decide) tw1242 (Or.inl rfl) rfl dX11_draw_13 h1 rfl id ?_
  refine v_bM (fun M2 e3 => ?_)
  refine v_aload_n dX11_draw_16 rfl ?_
  refine v_get (v := pI (M2.1 a0 49)) 10 49 rfl inX11 (by decide) tw1242 dX11_draw_17 (by rw [e3]; exact h1) rfl ?_
  refine v_bipush dX11_draw_20 (by decide) ?_
  refine v_iushr dX11_draw_22 ?_
  refine v_iload_n dX11_draw_23 rfl ?_
  refine v_if (fun h4 => ?_)
  refine v_irem h4 dX11_draw_24 ?_
  exact v_ireturn dX11_draw_25 rfl rfl
theorem chX11_givesOne_0 : (cX11_givesOne.data.toList.drop 0).take 16 = [3, 61, 28, 8, 162, 0, 37, 3, 62, 29, 42, 180, 1, 25, 162, 0] := by decide +kernel
theorem chX11_givesOne_1 : (cX11_givesOne.data.toList.drop 16).take 16 = [21, 42, 27, 29, 28, 182, 1, 101, 153, 0, 5, 4, 172, 132, 3, 1] := by decide +kernel
theorem chX11_givesOne_2 : (cX11_givesOne.data.toList.drop 32).take 16 = [167, 255, 233, 132, 2, 1, 167, 255, 220, 3, 172] := by decide +kernel
theorem dX11_givesOne_0 : decode cX11_givesOne 0 = .ok (.iconst 0, 1) := oq_3 (byt chX11_givesOne_0 0 rfl)
theorem dX11_givesOne_1 : decode cX11_givesOne 1 = .ok (.istore_n 2, 1) := oq_61 (byt chX11_givesOne_0 1 rfl)
theorem dX11_givesOne_2 : decode cX11_givesOne 2 = .ok (.iload_n 2, 1) := oq_28 (byt chX11_givesOne_0 2 rfl)
theorem dX11_givesOne_3 : decode cX11_givesOne 3 = .ok (.iconst 5, 1) := oq_8 (byt chX11_givesOne_0 3 rfl)
theorem dX11_givesOne_4 : decode cX11_givesOne 4 = .ok (.if_icmp .ge 37, 3) := oq_162 (byt chX11_givesOne_0 4 rfl) (byt chX11_givesOne_0 5 rfl) (byt chX11_givesOne_0 6 rfl) (by decide +kernel)
theorem dX11_givesOne_7 : decode cX11_givesOne 7 = .ok (.iconst 0, 1) := oq_3 (byt chX11_givesOne_0 7 rfl)
theorem dX11_givesOne_8 : decode cX11_givesOne 8 = .ok (.istore_n 3, 1) := oq_62 (byt chX11_givesOne_0 8 rfl)
theorem dX11_givesOne_9 : decode cX11_givesOne 9 = .ok (.iload_n 3, 1) := oq_29 (byt chX11_givesOne_0 9 rfl)
theorem dX11_givesOne_10 : decode cX11_givesOne 10 = .ok (.aload_n 0, 1) := oq_42 (byt chX11_givesOne_0 10 rfl)
theorem dX11_givesOne_11 : decode cX11_givesOne 11 = .ok (.getfield 281, 3) := oq_180 (byt chX11_givesOne_0 11 rfl) (byt chX11_givesOne_0 12 rfl) (byt chX11_givesOne_0 13 rfl) rfl
theorem dX11_givesOne_14 : decode cX11_givesOne 14 = .ok (.if_icmp .ge 21, 3) := oq_162 (byt chX11_givesOne_0 14 rfl) (byt chX11_givesOne_0 15 rfl) (byt chX11_givesOne_1 0 rfl) (by decide +kernel)
theorem dX11_givesOne_17 : decode cX11_givesOne 17 = .ok (.aload_n 0, 1) := oq_42 (byt chX11_givesOne_1 1 rfl)
theorem dX11_givesOne_18 : decode cX11_givesOne 18 = .ok (.iload_n 1, 1) := oq_27 (byt chX11_givesOne_1 2 rfl)
theorem dX11_givesOne_19 : decode cX11_givesOne 19 = .ok (.iload_n 3, 1) := oq_29 (byt chX11_givesOne_1 3 rfl)
theorem dX11_givesOne_20 : decode cX11_givesOne 20 = .ok (.iload_n 2, 1) := oq_28 (byt chX11_givesOne_1 4 rfl)
theorem dX11_givesOne_21 : decode cX11_givesOne 21 = .ok (.invokevirtual 357, 3) := oq_182 (byt chX11_givesOne_1 5 rfl) (byt chX11_givesOne_1 6 rfl) (byt chX11_givesOne_1 7 rfl) rfl
theorem dX11_givesOne_24 : decode cX11_givesOne 24 = .ok (.ifCond .eq 5, 3) := oq_153 (byt chX11_givesOne_1 8 rfl) (byt chX11_givesOne_1 9 rfl) (byt chX11_givesOne_1 10 rfl) (by decide +kernel)
theorem dX11_givesOne_27 : decode cX11_givesOne 27 = .ok (.iconst 1, 1) := oq_4 (byt chX11_givesOne_1 11 rfl)
theorem dX11_givesOne_28 : decode cX11_givesOne 28 = .ok (.ireturn, 1) := oq_172 (byt chX11_givesOne_1 12 rfl)
theorem dX11_givesOne_29 : decode cX11_givesOne 29 = .ok (.iinc 3 1, 3) := oq_132 (byt chX11_givesOne_1 13 rfl) (byt chX11_givesOne_1 14 rfl) (byt chX11_givesOne_1 15 rfl) rfl
theorem dX11_givesOne_32 : decode cX11_givesOne 32 = .ok (.goto (-23), 3) := oq_167 (byt chX11_givesOne_2 0 rfl) (byt chX11_givesOne_2 1 rfl) (byt chX11_givesOne_2 2 rfl) (by decide +kernel)
theorem dX11_givesOne_35 : decode cX11_givesOne 35 = .ok (.iinc 2 1, 3) := oq_132 (byt chX11_givesOne_2 3 rfl) (byt chX11_givesOne_2 4 rfl) (byt chX11_givesOne_2 5 rfl) rfl
theorem dX11_givesOne_38 : decode cX11_givesOne 38 = .ok (.goto (-36), 3) := oq_167 (byt chX11_givesOne_2 6 rfl) (byt chX11_givesOne_2 7 rfl) (byt chX11_givesOne_2 8 rfl) (by decide +kernel)
theorem dX11_givesOne_41 : decode cX11_givesOne 41 = .ok (.iconst 0, 1) := oq_3 (byt chX11_givesOne_2 9 rfl)
theorem dX11_givesOne_42 : decode cX11_givesOne 42 = .ok (.ireturn, 1) := oq_172 (byt chX11_givesOne_2 10 rfl)
abbrev mX11_givesOne : MI := (yX11_givesOne, cX11_givesOne, 4, (some .boolean), noE)
theorem okX11_givesOne : cok mX11_givesOne 1 := ⟨tw1805, tw11, by decide, by decide, by decide, by decide +kernel⟩
def fX11_givesOne (M : Mem) (a0 a1 : Int) : Option (Int × Mem) :=
  iterC (fun (rec1 : (Int × Mem) → Option (Int × Mem)) (s2 : Int × Mem) => if s2.1 < 5 then (iterC (fun (rec4 : (Int × Mem) → Option (Int × Mem)) (s5 : Int × Mem) => if s5.2.2.1 a0 = 10 then if s5.1 < s5.2.1 a0 25 then ((fX11_gives s5.2 a0 a1 s5.1 s2.1).bind fun r8 => if r8.1 = 0 then (rec4 (w32 (s5.1 + 1), r8.2)) else (some (1, r8.2))) else (rec1 (w32 (s2.1 + 1), s5.2)) else none) BIG (0, s2.2)) else (some (0, s2.2))) BIG (0, M)
set_option maxRecDepth 100000 in
set_option maxHeartbeats 4000000 in
theorem kX11_givesOne (d : Nat) (hd : 5 ≤ d) (M : Mem) (a0 a1 : Int) : Ct mX11_givesOne d 0 0 [pA a0, pI a1] M dIM (fX11_givesOne M a0 a1) := by
  obtain ⟨d, rfl⟩ : ∃ k, d = k + 1 := ⟨d - 1, by omega⟩
  refine Ct.of 2 (fun _ _ _ => trivial) (by decide +kernel) rfl ?_
  unfold fX11_givesOne
  refine v_iconst dX11_givesOne_0 (by decide) ?_
  refine v_istore_n (ls' := [some (pA a0), some (pI a1), some (pI 0), none]) dX11_givesOne_1 (by decide) rfl ?_
  refine v_loop (fun (s2 : Int × Mem) => [some (pA a0), some (pI a1), some (pI s2.1), none]) (fun (s2 : Int × Mem) => s2.2) (s0 := (0, M)) ?_
  intro rec1 hrec1 s2
  refine v_iload_n dX11_givesOne_2 rfl ?_
  refine v_iconst dX11_givesOne_3 (by decide) ?_
  refine v_icmp_ge (tgt := 41) dX11_givesOne_4 (by decide) (fun c3 => ?_) (fun c3 => ?_)
  · refine v_iconst dX11_givesOne_7 (by decide) ?_
    refine v_istore_n (ls' := [some (pA a0), some (pI a1), some (pI s2.1), some (pI 0)]) dX11_givesOne_8 (by decide) rfl ?_
    refine v_loop (fun (s5 : Int × Mem) => [some (pA a0), some (pI a1), some (pI s2.1), some (pI s5.1)]) (fun (s5 : Int × Mem) => s5.2) (s0 := (0, s2.2)) ?_
    intro rec4 hrec4 s5
    refine v_iload_n dX11_givesOne_9 rfl ?_
    refine v_aload_n dX11_givesOne_10 rfl ?_
    refine v_if (fun h6 => ?_)
    refine v_get (v := pI (s5.2.1 a0 25)) 10 25 rfl inX11 (by decide) tw1218 dX11_givesOne_11 h6 rfl ?_
    refine v_icmp_ge (tgt := 35) dX11_givesOne_14 (by decide) (fun c7 => ?_) (fun c7 => ?_)
    · refine v_aload_n dX11_givesOne_17 rfl ?_
      refine v_iload_n dX11_givesOne_18 rfl ?_
      refine v_iload_n dX11_givesOne_19 rfl ?_
      refine v_iload_n dX11_givesOne_20 rfl ?_
      refine v_cV (mi := mX11_givesOne) (c0 := 0) (c1 := 0) (As := [pI a1, pI s5.1, pI s2.1]) (st := []) (kX11_gives d (by omega) _ _ _ _ _) rfl h6 rfl okX11_gives (Or.inl tw1597) tw1599 tp72 rfl (Nat.le_of_ble_eq_true rfl) dX11_givesOne_21 (fun r8 => [pI r8.1]) (fun r8 => r8.2) (fun _ => rfl) (fun _ => rfl) (fun r8 h9 => ?_) rfl
      refine v_if_eq (tgt := 29) dX11_givesOne_24 (by decide) (fun c10 => ?_) (fun c10 => ?_)
      · refine v_iinc (ls' := [some (pA a0), some (pI a1), some (pI s2.1), some (pI (w32 (s5.1 + 1)))]) dX11_givesOne_29 (by decide) rfl rfl ?_
        refine v_goto (tgt := 9) dX11_givesOne_32 (by decide) ?_
        exact hrec4 (w32 (s5.1 + 1), r8.2)
      · refine v_iconst dX11_givesOne_27 (by decide) ?_
        exact v_breturn dX11_givesOne_28 rfl (by decide) rfl
    · refine v_iinc (ls' := [some (pA a0), some (pI a1), some (pI (w32 (s2.1 + 1))), some (pI s5.1)]) dX11_givesOne_35 (by decide) rfl rfl ?_
      refine v_goto (tgt := 2) dX11_givesOne_38 (by decide) ?_
      exact v_drop [some (pA a0), some (pI a1), some (pI (w32 (s2.1 + 1))), none] (ls_s (ls_s (ls_s (ls_n ls_e)))) (hrec1 (w32 (s2.1 + 1), s5.2))
  · refine v_iconst dX11_givesOne_41 (by decide) ?_
    exact v_breturn dX11_givesOne_42 rfl (by decide) rfl
theorem chX11_drawThief_0 : (cX11_drawThief.data.toList.drop 0).take 16 = [3, 61, 28, 42, 16, 84, 27, 96, 182, 1, 21, 162, 0, 30, 42, 42] := by decide +kernel
theorem chX11_drawThief_1 : (cX11_drawThief.data.toList.drop 16).take 16 = [180, 1, 25, 182, 1, 224, 62, 42, 27, 29, 42, 8, 182, 1, 224, 182] := by decide +kernel
theorem chX11_drawThief_2 : (cX11_drawThief.data.toList.drop 32).take 16 = [1, 98, 87, 132, 2, 1, 167, 255, 220, 4, 61, 28, 153, 0, 20, 42] := by decide +kernel
theorem chX11_drawThief_3 : (cX11_drawThief.data.toList.drop 48).take 16 = [27, 182, 1, 95, 158, 0, 12, 42, 27, 182, 1, 227, 61, 167, 255, 238] := by decide +kernel
theorem chX11_drawThief_4 : (cX11_drawThief.data.toList.drop 64).take 16 = [177] := by decide +kernel
theorem dX11_drawThief_0 : decode cX11_drawThief 0 = .ok (.iconst 0, 1) := oq_3 (byt chX11_drawThief_0 0 rfl)
theorem dX11_drawThief_1 : decode cX11_drawThief 1 = .ok (.istore_n 2, 1) := oq_61 (byt chX11_drawThief_0 1 rfl)
theorem dX11_drawThief_2 : decode cX11_drawThief 2 = .ok (.iload_n 2, 1) := oq_28 (byt chX11_drawThief_0 2 rfl)
theorem dX11_drawThief_3 : decode cX11_drawThief 3 = .ok (.aload_n 0, 1) := oq_42 (byt chX11_drawThief_0 3 rfl)
theorem dX11_drawThief_4 : decode cX11_drawThief 4 = .ok (.bipush 84, 2) := oq_16 (byt chX11_drawThief_0 4 rfl) (byt chX11_drawThief_0 5 rfl) rfl
theorem dX11_drawThief_6 : decode cX11_drawThief 6 = .ok (.iload_n 1, 1) := oq_27 (byt chX11_drawThief_0 6 rfl)
theorem dX11_drawThief_7 : decode cX11_drawThief 7 = .ok (.iadd, 1) := oq_96 (byt chX11_drawThief_0 7 rfl)
theorem dX11_drawThief_8 : decode cX11_drawThief 8 = .ok (.invokevirtual 277, 3) := oq_182 (byt chX11_drawThief_0 8 rfl) (byt chX11_drawThief_0 9 rfl) (byt chX11_drawThief_0 10 rfl) rfl
theorem dX11_drawThief_11 : decode cX11_drawThief 11 = .ok (.if_icmp .ge 30, 3) := oq_162 (byt chX11_drawThief_0 11 rfl) (byt chX11_drawThief_0 12 rfl) (byt chX11_drawThief_0 13 rfl) (by decide +kernel)
theorem dX11_drawThief_14 : decode cX11_drawThief 14 = .ok (.aload_n 0, 1) := oq_42 (byt chX11_drawThief_0 14 rfl)
theorem dX11_drawThief_15 : decode cX11_drawThief 15 = .ok (.aload_n 0, 1) := oq_42 (byt chX11_drawThief_0 15 rfl)
theorem dX11_drawThief_16 : decode cX11_drawThief 16 = .ok (.getfield 281, 3) := oq_180 (byt chX11_drawThief_1 0 rfl) (byt chX11_drawThief_1 1 rfl) (byt chX11_drawThief_1 2 rfl) rfl
theorem dX11_drawThief_19 : decode cX11_drawThief 19 = .ok (.invokevirtual 480, 3) := oq_182 (byt chX11_drawThief_1 3 rfl) (byt chX11_drawThief_1 4 rfl) (byt chX11_drawThief_1 5 rfl) rfl
theorem dX11_drawThief_22 : decode cX11_drawThief 22 = .ok (.istore_n 3, 1) := oq_62 (byt chX11_drawThief_1 6 rfl)
theorem dX11_drawThief_23 : decode cX11_drawThief 23 = .ok (.aload_n 0, 1) := oq_42 (byt chX11_drawThief_1 7 rfl)
theorem dX11_drawThief_24 : decode cX11_drawThief 24 = .ok (.iload_n 1, 1) := oq_27 (byt chX11_drawThief_1 8 rfl)
theorem dX11_drawThief_25 : decode cX11_drawThief 25 = .ok (.iload_n 3, 1) := oq_29 (byt chX11_drawThief_1 9 rfl)
theorem dX11_drawThief_26 : decode cX11_drawThief 26 = .ok (.aload_n 0, 1) := oq_42 (byt chX11_drawThief_1 10 rfl)
theorem dX11_drawThief_27 : decode cX11_drawThief 27 = .ok (.iconst 5, 1) := oq_8 (byt chX11_drawThief_1 11 rfl)
theorem dX11_drawThief_28 : decode cX11_drawThief 28 = .ok (.invokevirtual 480, 3) := oq_182 (byt chX11_drawThief_1 12 rfl) (byt chX11_drawThief_1 13 rfl) (byt chX11_drawThief_1 14 rfl) rfl
theorem dX11_drawThief_31 : decode cX11_drawThief 31 = .ok (.invokevirtual 354, 3) := oq_182 (byt chX11_drawThief_1 15 rfl) (byt chX11_drawThief_2 0 rfl) (byt chX11_drawThief_2 1 rfl) rfl
theorem dX11_drawThief_34 : decode cX11_drawThief 34 = .ok (.pop, 1) := oq_87 (byt chX11_drawThief_2 2 rfl)
theorem dX11_drawThief_35 : decode cX11_drawThief 35 = .ok (.iinc 2 1, 3) := oq_132 (byt chX11_drawThief_2 3 rfl) (byt chX11_drawThief_2 4 rfl) (byt chX11_drawThief_2 5 rfl) rfl
theorem dX11_drawThief_38 : decode cX11_drawThief 38 = .ok (.goto (-36), 3) := oq_167 (byt chX11_drawThief_2 6 rfl) (byt chX11_drawThief_2 7 rfl) (byt chX11_drawThief_2 8 rfl) (by decide +kernel)
theorem dX11_drawThief_41 : decode cX11_drawThief 41 = .ok (.iconst 1, 1) := oq_4 (byt chX11_drawThief_2 9 rfl)
theorem dX11_drawThief_42 : decode cX11_drawThief 42 = .ok (.istore_n 2, 1) := oq_61 (byt chX11_drawThief_2 10 rfl)
theorem dX11_drawThief_43 : decode cX11_drawThief 43 = .ok (.iload_n 2, 1) := oq_28 (byt chX11_drawThief_2 11 rfl)
theorem dX11_drawThief_44 : decode cX11_drawThief 44 = .ok (.ifCond .eq 20, 3) := oq_153 (byt chX11_drawThief_2 12 rfl) (byt chX11_drawThief_2 13 rfl) (byt chX11_drawThief_2 14 rfl) (by decide +kernel)
theorem dX11_drawThief_47 : decode cX11_drawThief 47 = .ok (.aload_n 0, 1) := oq_42 (byt chX11_drawThief_2 15 rfl)
theorem dX11_drawThief_48 : decode cX11_drawThief 48 = .ok (.iload_n 1, 1) := oq_27 (byt chX11_drawThief_3 0 rfl)
theorem dX11_drawThief_49 : decode cX11_drawThief 49 = .ok (.invokevirtual 351, 3) := oq_182 (byt chX11_drawThief_3 1 rfl) (byt chX11_drawThief_3 2 rfl) (byt chX11_drawThief_3 3 rfl) rfl
theorem dX11_drawThief_52 : decode cX11_drawThief 52 = .ok (.ifCond .le 12, 3) := oq_158 (byt chX11_drawThief_3 4 rfl) (byt chX11_drawThief_3 5 rfl) (byt chX11_drawThief_3 6 rfl) (by decide +kernel)
theorem dX11_drawThief_55 : decode cX11_drawThief 55 = .ok (.aload_n 0, 1) := oq_42 (byt chX11_drawThief_3 7 rfl)
theorem dX11_drawThief_56 : decode cX11_drawThief 56 = .ok (.iload_n 1, 1) := oq_27 (byt chX11_drawThief_3 8 rfl)
theorem dX11_drawThief_57 : decode cX11_drawThief 57 = .ok (.invokevirtual 483, 3) := oq_182 (byt chX11_drawThief_3 9 rfl) (byt chX11_drawThief_3 10 rfl) (byt chX11_drawThief_3 11 rfl) rfl
theorem dX11_drawThief_60 : decode cX11_drawThief 60 = .ok (.istore_n 2, 1) := oq_61 (byt chX11_drawThief_3 12 rfl)
theorem dX11_drawThief_61 : decode cX11_drawThief 61 = .ok (.goto (-18), 3) := oq_167 (byt chX11_drawThief_3 13 rfl) (byt chX11_drawThief_3 14 rfl) (byt chX11_drawThief_3 15 rfl) (by decide +kernel)
theorem dX11_drawThief_64 : decode cX11_drawThief 64 = .ok (.return_, 1) := oq_177 (byt chX11_drawThief_4 0 rfl)
abbrev mX11_drawThief : MI := (yX11_drawThief, cX11_drawThief, 4, none, noE)
theorem okX11_drawThief : cok mX11_drawThief 1 := ⟨tw1796, tw11, by decide, by decide, by decide, by decide +kernel⟩
def fX11_drawThief (M : Mem) (a0 a1 : Int) : Option Mem :=
  iterC (fun (rec1 : (Int × Mem) → Option Mem) (s2 : Int × Mem) => if s2.2.2.1 a0 = 10 then (fX11_of s2.2 a0 (w32 (84 + a1))).bind fun r3 => if s2.1 < r3 then ((fX11_draw s2.2 a0 (s2.2.1 a0 25)).bind fun r7 => if r7.2.2.1 a0 = 10 then (fX11_draw r7.2 a0 5).bind fun r9 => if r9.2.2.1 a0 = 10 then (fX11_takes r9.2 a0 a1 r7.1 r9.1).bind fun r12 => rec1 (w32 (s2.1 + 1), r12.2) else none else none) else (iterC (fun (rec15 : (Int × Mem) → Option Mem) (s16 : Int × Mem) => if s16.1 = 0 then (some s16.2) else (if s16.2.2.1 a0 = 10 then (fX11_owes s16.2 a0 a1).bind fun r18 => if 0 < r18 then ((fX11_givesOne s16.2 a0 a1).bind fun r22 => rec15 (r22.1, r22.2)) else (some s16.2) else none)) BIG (1, s2.2)) else none) BIG (0, M)
set_option maxRecDepth 100000 in
set_option maxHeartbeats 4000000 in
theorem kX11_drawThief (d : Nat) (hd : 6 ≤ d) (M : Mem) (a0 a1 : Int) : Ct mX11_drawThief d 0 0 [pA a0, pI a1] M dV (fX11_drawThief M a0 a1) := by
  obtain ⟨d, rfl⟩ : ∃ k, d = k + 1 := ⟨d - 1, by omega⟩
  refine Ct.of 2 (fun _ _ _ => trivial) (by decide +kernel) rfl ?_
  unfold fX11_drawThief
  refine v_iconst dX11_drawThief_0 (by decide) ?_
  refine v_istore_n (ls' := [some (pA a0), some (pI a1), some (pI 0), none]) dX11_drawThief_1 (by decide) rfl ?_
  refine v_loop (fun (s2 : Int × Mem) => [some (pA a0), some (pI a1), some (pI s2.1), none]) (fun (s2 : Int × Mem) => s2.2) (s0 := (0, M)) ?_
  intro rec1 hrec1 s2
  refine v_iload_n dX11_drawThief_2 rfl ?_
  refine v_aload_n dX11_drawThief_3 rfl ?_
  refine v_bipush dX11_drawThief_4 (by decide) ?_
  refine v_iload_n dX11_drawThief_6 rfl ?_
  refine v_iadd dX11_drawThief_7 ?_
  refine v_if (fun h5 => ?_)
  refine v_cV (mi := mX11_drawThief) (c0 := 0) (c1 := 0) (As := [pI (w32 (84 + a1))]) (st := [pI s2.1]) (kX11_of d (by omega) _ _ _) rfl h5 rfl okX11_of (Or.inl tw1504) tw1506 tp55 rfl (Nat.le_of_ble_eq_true rfl) dX11_drawThief_8 (fun r3 => [pI r3, pI s2.1]) (fun r3 => s2.2) (fun _ => rfl) (fun _ => rfl) (fun r3 h4 => ?_) rfl
  refine v_icmp_ge (tgt := 41) dX11_drawThief_11 (by decide) (fun c6 => ?_) (fun c6 => ?_)
  · refine v_aload_n dX11_drawThief_14 rfl ?_
    refine v_aload_n dX11_drawThief_15 rfl ?_
    refine v_get (v := pI (s2.2.1 a0 25)) 10 25 rfl inX11 (by decide) tw1218 dX11_drawThief_16 h5 rfl ?_
    refine v_cV (mi := mX11_drawThief) (c0 := 0) (c1 := 0) (As := [pI (s2.2.1 a0 25)]) (st := []) (kX11_draw d (by omega) _ _ _) rfl h5 rfl okX11_draw (Or.inl tw1797) tw1799 tp102 rfl (Nat.le_of_ble_eq_true rfl) dX11_drawThief_19 (fun r7 => [pI r7.1]) (fun r7 => r7.2) (fun _ => rfl) (fun _ => rfl) (fun r7 h8 => ?_) rfl
    refine v_istore_n (ls' := [some (pA a0), some (pI a1), some (pI s2.1), some (pI r7.1)]) dX11_drawThief_22 (by decide) rfl ?_
    refine v_aload_n dX11_drawThief_23 rfl ?_
    refine v_iload_n dX11_drawThief_24 rfl ?_
    refine v_iload_n dX11_drawThief_25 rfl ?_
    refine v_aload_n dX11_drawThief_26 rfl ?_
    refine v_iconst dX11_drawThief_27 (by decide) ?_
    refine v_if (fun h11 => ?_)
    refine v_cV (mi := mX11_drawThief) (c0 := 0) (c1 := 0) (As := [pI 5]) (st := [pI r7.1, pI a1, pA a0]) (kX11_draw d (by omega) _ _ _) rfl h11 rfl okX11_draw (Or.inl tw1797) tw1799 tp102 rfl (Nat.le_of_ble_eq_true rfl) dX11_drawThief_28 (fun r9 => [pI r9.1, pI r7.1, pI a1, pA a0]) (fun r9 => r9.2) (fun _ => rfl) (fun _ => rfl) (fun r9 h10 => ?_) rfl
    refine v_if (fun h14 => ?_)
    refine v_cV (mi := mX11_drawThief) (c0 := 0) (c1 := 0) (As := [pI a1, pI r7.1, pI r9.1]) (st := []) (kX11_takes d (by omega) _ _ _ _ _) rfl h14 rfl okX11_takes (Or.inl tw1586) tw1588 tp70 rfl (Nat.le_of_ble_eq_true rfl) dX11_drawThief_31 (fun r12 => [pI r12.1]) (fun r12 => r12.2) (fun _ => rfl) (fun _ => rfl) (fun r12 h13 => ?_) rfl
    refine v_pop dX11_drawThief_34 (by intro z hz; cases hz) ?_
    refine v_iinc (ls' := [some (pA a0), some (pI a1), some (pI (w32 (s2.1 + 1))), some (pI r7.1)]) dX11_drawThief_35 (by decide) rfl rfl ?_
    refine v_goto (tgt := 2) dX11_drawThief_38 (by decide) ?_
    exact v_drop [some (pA a0), some (pI a1), some (pI (w32 (s2.1 + 1))), none] (ls_s (ls_s (ls_s (ls_n ls_e)))) (hrec1 (w32 (s2.1 + 1), r12.2))
  · refine v_iconst dX11_drawThief_41 (by decide) ?_
    refine v_istore_n (ls' := [some (pA a0), some (pI a1), some (pI 1), none]) dX11_drawThief_42 (by decide) rfl ?_
    refine v_loop (fun (s16 : Int × Mem) => [some (pA a0), some (pI a1), some (pI s16.1), none]) (fun (s16 : Int × Mem) => s16.2) (s0 := (1, s2.2)) ?_
    intro rec15 hrec15 s16
    refine v_iload_n dX11_drawThief_43 rfl ?_
    refine v_if_eq (tgt := 64) dX11_drawThief_44 (by decide) (fun c17 => ?_) (fun c17 => ?_)
    · exact v_return dX11_drawThief_64 rfl rfl
    · refine v_aload_n dX11_drawThief_47 rfl ?_
      refine v_iload_n dX11_drawThief_48 rfl ?_
      refine v_if (fun h20 => ?_)
      refine v_cV (mi := mX11_drawThief) (c0 := 0) (c1 := 0) (As := [pI a1]) (st := []) (kX11_owes d (by omega) _ _ _) rfl h20 rfl okX11_owes (Or.inl tw1609) tw1611 tp75 rfl (Nat.le_of_ble_eq_true rfl) dX11_drawThief_49 (fun r18 => [pI r18]) (fun r18 => s16.2) (fun _ => rfl) (fun _ => rfl) (fun r18 h19 => ?_) rfl
      refine v_if_le (tgt := 64) dX11_drawThief_52 (by decide) (fun c21 => ?_) (fun c21 => ?_)
      · refine v_aload_n dX11_drawThief_55 rfl ?_
        refine v_iload_n dX11_drawThief_56 rfl ?_
        refine v_cV (mi := mX11_drawThief) (c0 := 0) (c1 := 0) (As := [pI a1]) (st := []) (kX11_givesOne d (by omega) _ _ _) rfl h20 rfl okX11_givesOne (Or.inl tw1802) tw1804 tp103 rfl (Nat.le_of_ble_eq_true rfl) dX11_drawThief_57 (fun r22 => [pI r22.1]) (fun r22 => r22.2) (fun _ => rfl) (fun _ => rfl) (fun r22 h23 => ?_) rfl
        refine v_istore_n (ls' := [some (pA a0), some (pI a1), some (pI r22.1), none]) dX11_drawThief_60 (by decide) rfl ?_
        refine v_goto (tgt := 43) dX11_drawThief_61 (by decide) ?_
        exact hrec15 (r22.1, r22.2)
      · exact v_return dX11_drawThief_64 rfl rfl
theorem chX11_drawn_0 : (cX11_drawn.data.toList.drop 0).take 16 = [42, 3, 181, 0, 90, 21, 4, 4, 16, 30, 184, 0, 98, 153, 0, 19] := by decide +kernel
theorem chX11_drawn_1 : (cX11_drawn.data.toList.drop 16).take 16 = [42, 28, 182, 1, 58, 153, 0, 11, 42, 27, 182, 1, 31, 154, 0, 7] := by decide +kernel
theorem chX11_drawn_2 : (cX11_drawn.data.toList.drop 32).take 16 = [17, 252, 24, 172, 42, 29, 181, 1, 220, 42, 182, 1, 110, 3, 54, 6] := by decide +kernel
theorem chX11_drawn_3 : (cX11_drawn.data.toList.drop 48).take 16 = [21, 6, 21, 4, 162, 0, 49, 3, 54, 7, 21, 7, 42, 180, 1, 28] := by decide +kernel
theorem chX11_drawn_4 : (cX11_drawn.data.toList.drop 64).take 16 = [162, 0, 27, 42, 180, 1, 79, 21, 7, 184, 1, 55, 154, 0, 9, 42] := by decide +kernel
theorem chX11_drawn_5 : (cX11_drawn.data.toList.drop 80).take 16 = [21, 7, 182, 1, 230, 132, 7, 1, 167, 255, 226, 42, 182, 1, 107, 132] := by decide +kernel
theorem chX11_drawn_6 : (cX11_drawn.data.toList.drop 96).take 16 = [6, 1, 167, 255, 206, 21, 5, 16, 70, 16, 69, 8, 42, 180, 1, 25] := by decide +kernel
theorem chX11_drawn_7 : (cX11_drawn.data.toList.drop 112).take 16 = [104, 96, 184, 0, 98, 153, 0, 16, 42, 180, 0, 44, 21, 5, 16, 70] := by decide +kernel
theorem chX11_drawn_8 : (cX11_drawn.data.toList.drop 128).take 16 = [100, 46, 167, 0, 9, 42, 21, 5, 182, 1, 140, 172] := by decide +kernel
theorem dX11_drawn_0 : decode cX11_drawn 0 = .ok (.aload_n 0, 1) := oq_42 (byt chX11_drawn_0 0 rfl)
theorem dX11_drawn_1 : decode cX11_drawn 1 = .ok (.iconst 0, 1) := oq_3 (byt chX11_drawn_0 1 rfl)
theorem dX11_drawn_2 : decode cX11_drawn 2 = .ok (.putfield 90, 3) := oq_181 (byt chX11_drawn_0 2 rfl) (byt chX11_drawn_0 3 rfl) (byt chX11_drawn_0 4 rfl) rfl
theorem dX11_drawn_5 : decode cX11_drawn 5 = .ok (.iload 4, 2) := oq_21 (byt chX11_drawn_0 5 rfl) (byt chX11_drawn_0 6 rfl) rfl
theorem dX11_drawn_7 : decode cX11_drawn 7 = .ok (.iconst 1, 1) := oq_4 (byt chX11_drawn_0 7 rfl)
theorem dX11_drawn_8 : decode cX11_drawn 8 = .ok (.bipush 30, 2) := oq_16 (byt chX11_drawn_0 8 rfl) (byt chX11_drawn_0 9 rfl) rfl
theorem dX11_drawn_10 : decode cX11_drawn 10 = .ok (.invokestatic 98, 3) := oq_184 (byt chX11_drawn_0 10 rfl) (byt chX11_drawn_0 11 rfl) (byt chX11_drawn_0 12 rfl) rfl
theorem dX11_drawn_13 : decode cX11_drawn 13 = .ok (.ifCond .eq 19, 3) := oq_153 (byt chX11_drawn_0 13 rfl) (byt chX11_drawn_0 14 rfl) (byt chX11_drawn_0 15 rfl) (by decide +kernel)
theorem dX11_drawn_16 : decode cX11_drawn 16 = .ok (.aload_n 0, 1) := oq_42 (byt chX11_drawn_1 0 rfl)
theorem dX11_drawn_17 : decode cX11_drawn 17 = .ok (.iload_n 2, 1) := oq_28 (byt chX11_drawn_1 1 rfl)
theorem dX11_drawn_18 : decode cX11_drawn 18 = .ok (.invokevirtual 314, 3) := oq_182 (byt chX11_drawn_1 2 rfl) (byt chX11_drawn_1 3 rfl) (byt chX11_drawn_1 4 rfl) rfl
theorem dX11_drawn_21 : decode cX11_drawn 21 = .ok (.ifCond .eq 11, 3) := oq_153 (byt chX11_drawn_1 5 rfl) (byt chX11_drawn_1 6 rfl) (byt chX11_drawn_1 7 rfl) (by decide +kernel)
theorem dX11_drawn_24 : decode cX11_drawn 24 = .ok (.aload_n 0, 1) := oq_42 (byt chX11_drawn_1 8 rfl)
theorem dX11_drawn_25 : decode cX11_drawn 25 = .ok (.iload_n 1, 1) := oq_27 (byt chX11_drawn_1 9 rfl)
theorem dX11_drawn_26 : decode cX11_drawn 26 = .ok (.invokevirtual 287, 3) := oq_182 (byt chX11_drawn_1 10 rfl) (byt chX11_drawn_1 11 rfl) (byt chX11_drawn_1 12 rfl) rfl
theorem dX11_drawn_29 : decode cX11_drawn 29 = .ok (.ifCond .ne 7, 3) := oq_154 (byt chX11_drawn_1 13 rfl) (byt chX11_drawn_1 14 rfl) (byt chX11_drawn_1 15 rfl) (by decide +kernel)
theorem dX11_drawn_32 : decode cX11_drawn 32 = .ok (.sipush (-1000), 3) := oq_17 (byt chX11_drawn_2 0 rfl) (byt chX11_drawn_2 1 rfl) (byt chX11_drawn_2 2 rfl) (by decide +kernel)
theorem dX11_drawn_35 : decode cX11_drawn 35 = .ok (.ireturn, 1) := oq_172 (byt chX11_drawn_2 3 rfl)
theorem dX11_drawn_36 : decode cX11_drawn 36 = .ok (.aload_n 0, 1) := oq_42 (byt chX11_drawn_2 4 rfl)
theorem dX11_drawn_37 : decode cX11_drawn 37 = .ok (.iload_n 3, 1) := oq_29 (byt chX11_drawn_2 5 rfl)
theorem dX11_drawn_38 : decode cX11_drawn 38 = .ok (.putfield 476, 3) := oq_181 (byt chX11_drawn_2 6 rfl) (byt chX11_drawn_2 7 rfl) (byt chX11_drawn_2 8 rfl) rfl
theorem dX11_drawn_41 : decode cX11_drawn 41 = .ok (.aload_n 0, 1) := oq_42 (byt chX11_drawn_2 9 rfl)
theorem dX11_drawn_42 : decode cX11_drawn 42 = .ok (.invokevirtual 366, 3) := oq_182 (byt chX11_drawn_2 10 rfl) (byt chX11_drawn_2 11 rfl) (byt chX11_drawn_2 12 rfl) rfl
theorem dX11_drawn_45 : decode cX11_drawn 45 = .ok (.iconst 0, 1) := oq_3 (byt chX11_drawn_2 13 rfl)
theorem dX11_drawn_46 : decode cX11_drawn 46 = .ok (.istore 6, 2) := oq_54 (byt chX11_drawn_2 14 rfl) (byt chX11_drawn_2 15 rfl) rfl
theorem dX11_drawn_48 : decode cX11_drawn 48 = .ok (.iload 6, 2) := oq_21 (byt chX11_drawn_3 0 rfl) (byt chX11_drawn_3 1 rfl) rfl
theorem dX11_drawn_50 : decode cX11_drawn 50 = .ok (.iload 4, 2) := oq_21 (byt chX11_drawn_3 2 rfl) (byt chX11_drawn_3 3 rfl) rfl
theorem dX11_drawn_52 : decode cX11_drawn 52 = .ok (.if_icmp .ge 49, 3) := oq_162 (byt chX11_drawn_3 4 rfl) (byt chX11_drawn_3 5 rfl) (byt chX11_drawn_3 6 rfl) (by decide +kernel)
theorem dX11_drawn_55 : decode cX11_drawn 55 = .ok (.iconst 0, 1) := oq_3 (byt chX11_drawn_3 7 rfl)
theorem dX11_drawn_56 : decode cX11_drawn 56 = .ok (.istore 7, 2) := oq_54 (byt chX11_drawn_3 8 rfl) (byt chX11_drawn_3 9 rfl) rfl
theorem dX11_drawn_58 : decode cX11_drawn 58 = .ok (.iload 7, 2) := oq_21 (byt chX11_drawn_3 10 rfl) (byt chX11_drawn_3 11 rfl) rfl
theorem dX11_drawn_60 : decode cX11_drawn 60 = .ok (.aload_n 0, 1) := oq_42 (byt chX11_drawn_3 12 rfl)
theorem dX11_drawn_61 : decode cX11_drawn 61 = .ok (.getfield 284, 3) := oq_180 (byt chX11_drawn_3 13 rfl) (byt chX11_drawn_3 14 rfl) (byt chX11_drawn_3 15 rfl) rfl
theorem dX11_drawn_64 : decode cX11_drawn 64 = .ok (.if_icmp .ge 27, 3) := oq_162 (byt chX11_drawn_4 0 rfl) (byt chX11_drawn_4 1 rfl) (byt chX11_drawn_4 2 rfl) (by decide +kernel)
theorem dX11_drawn_67 : decode cX11_drawn 67 = .ok (.aload_n 0, 1) := oq_42 (byt chX11_drawn_4 3 rfl)
theorem dX11_drawn_68 : decode cX11_drawn 68 = .ok (.getfield 335, 3) := oq_180 (byt chX11_drawn_4 4 rfl) (byt chX11_drawn_4 5 rfl) (byt chX11_drawn_4 6 rfl) rfl
theorem dX11_drawn_71 : decode cX11_drawn 71 = .ok (.iload 7, 2) := oq_21 (byt chX11_drawn_4 7 rfl) (byt chX11_drawn_4 8 rfl) rfl
theorem dX11_drawn_73 : decode cX11_drawn 73 = .ok (.invokestatic 311, 3) := oq_184 (byt chX11_drawn_4 9 rfl) (byt chX11_drawn_4 10 rfl) (byt chX11_drawn_4 11 rfl) rfl
theorem dX11_drawn_76 : decode cX11_drawn 76 = .ok (.ifCond .ne 9, 3) := oq_154 (byt chX11_drawn_4 12 rfl) (byt chX11_drawn_4 13 rfl) (byt chX11_drawn_4 14 rfl) (by decide +kernel)
theorem dX11_drawn_79 : decode cX11_drawn 79 = .ok (.aload_n 0, 1) := oq_42 (byt chX11_drawn_4 15 rfl)
theorem dX11_drawn_80 : decode cX11_drawn 80 = .ok (.iload 7, 2) := oq_21 (byt chX11_drawn_5 0 rfl) (byt chX11_drawn_5 1 rfl) rfl
theorem dX11_drawn_82 : decode cX11_drawn 82 = .ok (.invokevirtual 486, 3) := oq_182 (byt chX11_drawn_5 2 rfl) (byt chX11_drawn_5 3 rfl) (byt chX11_drawn_5 4 rfl) rfl
theorem dX11_drawn_85 : decode cX11_drawn 85 = .ok (.iinc 7 1, 3) := oq_132 (byt chX11_drawn_5 5 rfl) (byt chX11_drawn_5 6 rfl) (byt chX11_drawn_5 7 rfl) rfl
theorem dX11_drawn_88 : decode cX11_drawn 88 = .ok (.goto (-30), 3) := oq_167 (byt chX11_drawn_5 8 rfl) (byt chX11_drawn_5 9 rfl) (byt chX11_drawn_5 10 rfl) (by decide +kernel)
theorem dX11_drawn_91 : decode cX11_drawn 91 = .ok (.aload_n 0, 1) := oq_42 (byt chX11_drawn_5 11 rfl)
theorem dX11_drawn_92 : decode cX11_drawn 92 = .ok (.invokevirtual 363, 3) := oq_182 (byt chX11_drawn_5 12 rfl) (byt chX11_drawn_5 13 rfl) (byt chX11_drawn_5 14 rfl) rfl
theorem dX11_drawn_95 : decode cX11_drawn 95 = .ok (.iinc 6 1, 3) := oq_132 (byt chX11_drawn_5 15 rfl) (byt chX11_drawn_6 0 rfl) (byt chX11_drawn_6 1 rfl) rfl
theorem dX11_drawn_98 : decode cX11_drawn 98 = .ok (.goto (-50), 3) := oq_167 (byt chX11_drawn_6 2 rfl) (byt chX11_drawn_6 3 rfl) (byt chX11_drawn_6 4 rfl) (by decide +kernel)
theorem dX11_drawn_101 : decode cX11_drawn 101 = .ok (.iload 5, 2) := oq_21 (byt chX11_drawn_6 5 rfl) (byt chX11_drawn_6 6 rfl) rfl
theorem dX11_drawn_103 : decode cX11_drawn 103 = .ok (.bipush 70, 2) := oq_16 (byt chX11_drawn_6 7 rfl) (byt chX11_drawn_6 8 rfl) rfl
theorem dX11_drawn_105 : decode cX11_drawn 105 = .ok (.bipush 69, 2) := oq_16 (byt chX11_drawn_6 9 rfl) (byt chX11_drawn_6 10 rfl) rfl
theorem dX11_drawn_107 : decode cX11_drawn 107 = .ok (.iconst 5, 1) := oq_8 (byt chX11_drawn_6 11 rfl)
theorem dX11_drawn_108 : decode cX11_drawn 108 = .ok (.aload_n 0, 1) := oq_42 (byt chX11_drawn_6 12 rfl)
theorem dX11_drawn_109 : decode cX11_drawn 109 = .ok (.getfield 281, 3) := oq_180 (byt chX11_drawn_6 13 rfl) (byt chX11_drawn_6 14 rfl) (byt chX11_drawn_6 15 rfl) rfl
theorem dX11_drawn_112 : decode cX11_drawn 112 = .ok (.imul, 1) := oq_104 (byt chX11_drawn_7 0 rfl)
theorem dX11_drawn_113 : decode cX11_drawn 113 = .ok (.iadd, 1) := oq_96 (byt chX11_drawn_7 1 rfl)
theorem dX11_drawn_114 : decode cX11_drawn 114 = .ok (.invokestatic 98, 3) := oq_184 (byt chX11_drawn_7 2 rfl) (byt chX11_drawn_7 3 rfl) (byt chX11_drawn_7 4 rfl) rfl
theorem dX11_drawn_117 : decode cX11_drawn 117 = .ok (.ifCond .eq 16, 3) := oq_153 (byt chX11_drawn_7 5 rfl) (byt chX11_drawn_7 6 rfl) (byt chX11_drawn_7 7 rfl) (by decide +kernel)
theorem dX11_drawn_120 : decode cX11_drawn 120 = .ok (.aload_n 0, 1) := oq_42 (byt chX11_drawn_7 8 rfl)
theorem dX11_drawn_121 : decode cX11_drawn 121 = .ok (.getfield 44, 3) := oq_180 (byt chX11_drawn_7 9 rfl) (byt chX11_drawn_7 10 rfl) (byt chX11_drawn_7 11 rfl) rfl
theorem dX11_drawn_124 : decode cX11_drawn 124 = .ok (.iload 5, 2) := oq_21 (byt chX11_drawn_7 12 rfl) (byt chX11_drawn_7 13 rfl) rfl
theorem dX11_drawn_126 : decode cX11_drawn 126 = .ok (.bipush 70, 2) := oq_16 (byt chX11_drawn_7 14 rfl) (byt chX11_drawn_7 15 rfl) rfl
theorem dX11_drawn_128 : decode cX11_drawn 128 = .ok (.isub, 1) := oq_100 (byt chX11_drawn_8 0 rfl)
theorem dX11_drawn_129 : decode cX11_drawn 129 = .ok (.iaload, 1) := oq_46 (byt chX11_drawn_8 1 rfl)
theorem dX11_drawn_130 : decode cX11_drawn 130 = .ok (.goto 9, 3) := oq_167 (byt chX11_drawn_8 2 rfl) (byt chX11_drawn_8 3 rfl) (byt chX11_drawn_8 4 rfl) (by decide +kernel)
theorem dX11_drawn_133 : decode cX11_drawn 133 = .ok (.aload_n 0, 1) := oq_42 (byt chX11_drawn_8 5 rfl)
theorem dX11_drawn_134 : decode cX11_drawn 134 = .ok (.iload 5, 2) := oq_21 (byt chX11_drawn_8 6 rfl) (byt chX11_drawn_8 7 rfl) rfl
theorem dX11_drawn_136 : decode cX11_drawn 136 = .ok (.invokevirtual 396, 3) := oq_182 (byt chX11_drawn_8 8 rfl) (byt chX11_drawn_8 9 rfl) (byt chX11_drawn_8 10 rfl) rfl
theorem dX11_drawn_139 : decode cX11_drawn 139 = .ok (.ireturn, 1) := oq_172 (byt chX11_drawn_8 11 rfl)
abbrev mX11_drawn : MI := (yX11_drawn, cX11_drawn, 8, (some .int), noE)
theorem okX11_drawn : cok mX11_drawn 5 := ⟨tw1792, tw11, by decide, by decide, by decide, by decide +kernel⟩
def fX11_drawn (M : Mem) (a0 a1 a2 a3 a4 a5 : Int) : Option (Int × Mem) :=
  if M.2.1 a0 = 10 then bM (mst M a0 0 0) fun M2 => (fX11_in M2 a4 1 30).bind fun r4 => if r4 = 0 then (some ((-1000), M2)) else ((fX11_hasLaw M2 a0 a2).bind fun r7 => if r7.1 = 0 then (some ((-1000), r7.2)) else (if r7.2.2.1 a0 = 10 then (fX11_hand r7.2 a0 a1).bind fun r10 => if r10.1 = 0 then (some ((-1000), r10.2)) else (if r10.2.2.1 a0 = 10 then bM (mst r10.2 a0 49 a3) fun M15 => (fX11_begin M15 a0).bind fun r17 => iterC (fun (rec19 : (Int × Mem) → Option (Int × Mem)) (s20 : Int × Mem) => if s20.1 < a4 then (iterC (fun (rec22 : (Int × Mem) → Option (Int × Mem)) (s23 : Int × Mem) => if s23.2.2.1 a0 = 10 then if s23.1 < s23.2.1 a0 26 then ((fX11_has s23.2 (s23.2.1 a0 41) s23.1).bind fun r26 => if r26 = 0 then ((fX11_drawThief s23.2 a0 s23.1).bind fun r29 => rec22 (w32 (s23.1 + 1), r29)) else (rec22 (w32 (s23.1 + 1), s23.2))) else ((fX11_ends s23.2 a0).bind fun r31 => rec19 (w32 (s20.1 + 1), r31)) else none) BIG (0, s20.2)) else (if s20.2.2.1 a0 = 10 then (fX11_in s20.2 a5 70 (w32 (69 + (w32 (5 * (s20.2.1 a0 25)))))).bind fun r34 => if r34 = 0 then ((fX11_ofState s20.2 a0 a5).bind fun r37 => some (r37, s20.2)) else (if s20.2.2.1 (s20.2.1 a0 29) = 12 ∧ (0 : Int) ≤ (w32 (a5 - 70)) ∧ (w32 (a5 - 70)) < s20.2.2.2.1 (s20.2.1 a0 29) then some (s20.2.1 (s20.2.1 a0 29) (w32 (a5 - 70)), s20.2) else none) else none)) BIG (0, r17) else none) else none)) else none
set_option maxRecDepth 100000 in
set_option maxHeartbeats 4000000 in
theorem kX11_drawn (d : Nat) (hd : 7 ≤ d) (M : Mem) (a0 a1 a2 a3 a4 a5 : Int) : Ct mX11_drawn d 0 0 [pA a0, pI a1, pI a2, pI a3, pI a4, pI a5] M dIM (fX11_drawn M a0 a1 a2 a3 a4 a5) := by
  obtain ⟨d, rfl⟩ : ∃ k, d = k + 1 := ⟨d - 1, by omega⟩
  refine Ct.of 2 (fun _ _ _ => trivial) (by decide +kernel) rfl ?_
  unfold fX11_drawn
  refine v_aload_n dX11_drawn_0 rfl ?_
  refine v_iconst dX11_drawn_1 (by decide) ?_
  refine v_if (fun h1 => ?_)
  refine v_put (x := 0) 10 0 rfl inX11 (by decide) tw1193 (Or.inl rfl) rfl dX11_drawn_2 h1 rfl id ?_
  refine v_bM (fun M2 e3 => ?_)
  refine v_iload dX11_drawn_5 rfl ?_
  refine v_iconst dX11_drawn_7 (by decide) ?_
  refine v_bipush dX11_drawn_8 (by decide) ?_
  refine v_cS (mi := mX11_drawn) (c0 := 0) (c1 := 0) (As := [pI a4, pI 1, pI 30]) (st := []) (kX11_in d (by omega) _ _ _ _) okX11_in (Or.inl tw1360) tw1361 rfl (Nat.le_of_ble_eq_true rfl) dX11_drawn_10 (fun r4 => [pI r4]) (fun r4 => M2) (fun _ => rfl) (fun _ => rfl) (fun r4 h5 => ?_) rfl
  refine v_if_eq (tgt := 32) dX11_drawn_13 (by decide) (fun c6 => ?_) (fun c6 => ?_)
  · refine v_sipush dX11_drawn_32 (by decide) ?_
    exact v_ireturn dX11_drawn_35 rfl rfl
  · refine v_aload_n dX11_drawn_16 rfl ?_
    refine v_iload_n dX11_drawn_17 rfl ?_
    refine v_cV (mi := mX11_drawn) (c0 := 0) (c1 := 0) (As := [pI a2]) (st := []) (kX11_hasLaw d (by omega) _ _ _) rfl (by rw [e3]; exact h1) rfl okX11_hasLaw (Or.inl tw1535) tw1537 tp60 rfl (Nat.le_of_ble_eq_true rfl) dX11_drawn_18 (fun r7 => [pI r7.1]) (fun r7 => r7.2) (fun _ => rfl) (fun _ => rfl) (fun r7 h8 => ?_) rfl
    refine v_if_eq (tgt := 32) dX11_drawn_21 (by decide) (fun c9 => ?_) (fun c9 => ?_)
    · refine v_sipush dX11_drawn_32 (by decide) ?_
      exact v_ireturn dX11_drawn_35 rfl rfl
    · refine v_aload_n dX11_drawn_24 rfl ?_
      refine v_iload_n dX11_drawn_25 rfl ?_
      refine v_if (fun h12 => ?_)
      refine v_cV (mi := mX11_drawn) (c0 := 0) (c1 := 0) (As := [pI a1]) (st := []) (kX11_hand d (by omega) _ _ _) rfl h12 rfl okX11_hand (Or.inl tw1500) tw1502 tp54 rfl (Nat.le_of_ble_eq_true rfl) dX11_drawn_26 (fun r10 => [pI r10.1]) (fun r10 => r10.2) (fun _ => rfl) (fun _ => rfl) (fun r10 h11 => ?_) rfl
      refine v_if_ne (tgt := 36) dX11_drawn_29 (by decide) (fun c13 => ?_) (fun c13 => ?_)
      · refine v_sipush dX11_drawn_32 (by decide) ?_
        exact v_ireturn dX11_drawn_35 rfl rfl
      · refine v_aload_n dX11_drawn_36 rfl ?_
        refine v_iload_n dX11_drawn_37 rfl ?_
        refine v_if (fun h14 => ?_)
        refine v_put (x := a3) 10 49 rfl inX11 (by decide) tw1242 (Or.inl rfl) rfl dX11_drawn_38 h14 rfl id ?_
        refine v_bM (fun M15 e16 => ?_)
        refine v_aload_n dX11_drawn_41 rfl ?_
        refine v_cV (mi := mX11_drawn) (c0 := 0) (c1 := 0) (As := []) (st := []) (kX11_begin d (by omega) _ _) rfl (by rw [e16]; exact h14) rfl okX11_begin (Or.inl tw1578) tw1580 tp68 rfl (Nat.le_of_ble_eq_true rfl) dX11_drawn_42 (fun r17 => []) (fun r17 => r17) (fun _ => rfl) (fun _ => rfl) (fun r17 h18 => ?_) rfl
        refine v_iconst dX11_drawn_45 (by decide) ?_
        refine v_istore (ls' := [some (pA a0), some (pI a1), some (pI a2), some (pI a3), some (pI a4), some (pI a5), some (pI 0), none]) dX11_drawn_46 (by decide) rfl ?_
        refine v_drop [some (pA a0), none, none, none, some (pI a4), some (pI a5), some (pI 0), none] (ls_s (ls_n (ls_n (ls_n (ls_s (ls_s (ls_s (ls_n ls_e)))))))) ?_
        refine v_loop (fun (s20 : Int × Mem) => [some (pA a0), none, none, none, some (pI a4), some (pI a5), some (pI s20.1), none]) (fun (s20 : Int × Mem) => s20.2) (s0 := (0, r17)) ?_
        intro rec19 hrec19 s20
        refine v_iload dX11_drawn_48 rfl ?_
        refine v_iload dX11_drawn_50 rfl ?_
        refine v_icmp_ge (tgt := 101) dX11_drawn_52 (by decide) (fun c21 => ?_) (fun c21 => ?_)
        · refine v_iconst dX11_drawn_55 (by decide) ?_
          refine v_istore (ls' := [some (pA a0), none, none, none, some (pI a4), some (pI a5), some (pI s20.1), some (pI 0)]) dX11_drawn_56 (by decide) rfl ?_
          refine v_loop (fun (s23 : Int × Mem) => [some (pA a0), none, none, none, some (pI a4), some (pI a5), some (pI s20.1), some (pI s23.1)]) (fun (s23 : Int × Mem) => s23.2) (s0 := (0, s20.2)) ?_
          intro rec22 hrec22 s23
          refine v_iload dX11_drawn_58 rfl ?_
          refine v_aload_n dX11_drawn_60 rfl ?_
          refine v_if (fun h24 => ?_)
          refine v_get (v := pI (s23.2.1 a0 26)) 10 26 rfl inX11 (by decide) tw1219 dX11_drawn_61 h24 rfl ?_
          refine v_icmp_ge (tgt := 91) dX11_drawn_64 (by decide) (fun c25 => ?_) (fun c25 => ?_)
          · refine v_aload_n dX11_drawn_67 rfl ?_
            refine v_get (v := pI (s23.2.1 a0 41)) 10 41 rfl inX11 (by decide) tw1234 dX11_drawn_68 h24 rfl ?_
            refine v_iload dX11_drawn_71 rfl ?_
            refine v_cS (mi := mX11_drawn) (c0 := 0) (c1 := 0) (As := [pI (s23.2.1 a0 41), pI s23.1]) (st := []) (kX11_has d (by omega) _ _ _) okX11_has (Or.inl tw1547) tw1548 rfl (Nat.le_of_ble_eq_true rfl) dX11_drawn_73 (fun r26 => [pI r26]) (fun r26 => s23.2) (fun _ => rfl) (fun _ => rfl) (fun r26 h27 => ?_) rfl
            refine v_if_ne (tgt := 85) dX11_drawn_76 (by decide) (fun c28 => ?_) (fun c28 => ?_)
            · refine v_aload_n dX11_drawn_79 rfl ?_
              refine v_iload dX11_drawn_80 rfl ?_
              refine v_cV (mi := mX11_drawn) (c0 := 0) (c1 := 0) (As := [pI s23.1]) (st := []) (kX11_drawThief d (by omega) _ _ _) rfl h24 rfl okX11_drawThief (Or.inl tw1793) tw1795 tp101 rfl (Nat.le_of_ble_eq_true rfl) dX11_drawn_82 (fun r29 => []) (fun r29 => r29) (fun _ => rfl) (fun _ => rfl) (fun r29 h30 => ?_) rfl
              refine v_iinc (ls' := [some (pA a0), none, none, none, some (pI a4), some (pI a5), some (pI s20.1), some (pI (w32 (s23.1 + 1)))]) dX11_drawn_85 (by decide) rfl rfl ?_
              refine v_goto (tgt := 58) dX11_drawn_88 (by decide) ?_
              exact hrec22 (w32 (s23.1 + 1), r29)
            · refine v_iinc (ls' := [some (pA a0), none, none, none, some (pI a4), some (pI a5), some (pI s20.1), some (pI (w32 (s23.1 + 1)))]) dX11_drawn_85 (by decide) rfl rfl ?_
              refine v_goto (tgt := 58) dX11_drawn_88 (by decide) ?_
              exact hrec22 (w32 (s23.1 + 1), s23.2)
          · refine v_aload_n dX11_drawn_91 rfl ?_
            refine v_cV (mi := mX11_drawn) (c0 := 0) (c1 := 0) (As := []) (st := []) (kX11_ends d (by omega) _ _) rfl h24 rfl okX11_ends (Or.inl tw1613) tw1615 tp76 rfl (Nat.le_of_ble_eq_true rfl) dX11_drawn_92 (fun r31 => []) (fun r31 => r31) (fun _ => rfl) (fun _ => rfl) (fun r31 h32 => ?_) rfl
            refine v_iinc (ls' := [some (pA a0), none, none, none, some (pI a4), some (pI a5), some (pI (w32 (s20.1 + 1))), some (pI s23.1)]) dX11_drawn_95 (by decide) rfl rfl ?_
            refine v_goto (tgt := 48) dX11_drawn_98 (by decide) ?_
            exact v_drop [some (pA a0), none, none, none, some (pI a4), some (pI a5), some (pI (w32 (s20.1 + 1))), none] (ls_s (ls_n (ls_n (ls_n (ls_s (ls_s (ls_s (ls_n ls_e)))))))) (hrec19 (w32 (s20.1 + 1), r31))
        · refine v_iload dX11_drawn_101 rfl ?_
          refine v_bipush dX11_drawn_103 (by decide) ?_
          refine v_bipush dX11_drawn_105 (by decide) ?_
          refine v_iconst dX11_drawn_107 (by decide) ?_
          refine v_aload_n dX11_drawn_108 rfl ?_
          refine v_if (fun h33 => ?_)
          refine v_get (v := pI (s20.2.1 a0 25)) 10 25 rfl inX11 (by decide) tw1218 dX11_drawn_109 h33 rfl ?_
          refine v_imul dX11_drawn_112 ?_
          refine v_iadd dX11_drawn_113 ?_
          refine v_cS (mi := mX11_drawn) (c0 := 0) (c1 := 0) (As := [pI a5, pI 70, pI (w32 (69 + (w32 (5 * (s20.2.1 a0 25)))))]) (st := []) (kX11_in d (by omega) _ _ _ _) okX11_in (Or.inl tw1360) tw1361 rfl (Nat.le_of_ble_eq_true rfl) dX11_drawn_114 (fun r34 => [pI r34]) (fun r34 => s20.2) (fun _ => rfl) (fun _ => rfl) (fun r34 h35 => ?_) rfl
          refine v_if_eq (tgt := 133) dX11_drawn_117 (by decide) (fun c36 => ?_) (fun c36 => ?_)
          · refine v_aload_n dX11_drawn_133 rfl ?_
            refine v_iload dX11_drawn_134 rfl ?_
            refine v_cV (mi := mX11_drawn) (c0 := 0) (c1 := 0) (As := [pI a5]) (st := []) (kX11_ofState d (by omega) _ _ _) rfl h33 rfl okX11_ofState (Or.inl tw1633) tw1635 tp80 rfl (Nat.le_of_ble_eq_true rfl) dX11_drawn_136 (fun r37 => [pI r37]) (fun r37 => s20.2) (fun _ => rfl) (fun _ => rfl) (fun r37 h38 => ?_) rfl
            exact v_ireturn dX11_drawn_139 rfl rfl
          · refine v_aload_n dX11_drawn_120 rfl ?_
            refine v_get (v := pA (s20.2.1 a0 29)) 10 29 rfl inX11 (by decide) tw1222 dX11_drawn_121 h33 rfl ?_
            refine v_iload dX11_drawn_124 rfl ?_
            refine v_bipush dX11_drawn_126 (by decide) ?_
            refine v_isub dX11_drawn_128 ?_
            refine v_if (fun h39 => ?_)
            refine v_iaload h39 dX11_drawn_129 ?_
            refine v_goto (tgt := 139) dX11_drawn_130 (by decide) ?_
            exact v_ireturn dX11_drawn_139 rfl rfl
theorem chX11_areKin_0 : (cX11_areKin.data.toList.drop 0).take 16 = [42, 16, 88, 27, 96, 182, 1, 21, 28, 159, 0, 15, 42, 16, 88, 28] := by decide +kernel
theorem chX11_areKin_1 : (cX11_areKin.data.toList.drop 16).take 16 = [96, 182, 1, 21, 27, 160, 0, 7, 4, 167, 0, 4, 3, 172] := by decide +kernel
theorem dX11_areKin_0 : decode cX11_areKin 0 = .ok (.aload_n 0, 1) := oq_42 (byt chX11_areKin_0 0 rfl)
theorem dX11_areKin_1 : decode cX11_areKin 1 = .ok (.bipush 88, 2) := oq_16 (byt chX11_areKin_0 1 rfl) (byt chX11_areKin_0 2 rfl) rfl
theorem dX11_areKin_3 : decode cX11_areKin 3 = .ok (.iload_n 1, 1) := oq_27 (byt chX11_areKin_0 3 rfl)
theorem dX11_areKin_4 : decode cX11_areKin 4 = .ok (.iadd, 1) := oq_96 (byt chX11_areKin_0 4 rfl)
theorem dX11_areKin_5 : decode cX11_areKin 5 = .ok (.invokevirtual 277, 3) := oq_182 (byt chX11_areKin_0 5 rfl) (byt chX11_areKin_0 6 rfl) (byt chX11_areKin_0 7 rfl) rfl
theorem dX11_areKin_8 : decode cX11_areKin 8 = .ok (.iload_n 2, 1) := oq_28 (byt chX11_areKin_0 8 rfl)
theorem dX11_areKin_9 : decode cX11_areKin 9 = .ok (.if_icmp .eq 15, 3) := oq_159 (byt chX11_areKin_0 9 rfl) (byt chX11_areKin_0 10 rfl) (byt chX11_areKin_0 11 rfl) (by decide +kernel)
theorem dX11_areKin_12 : decode cX11_areKin 12 = .ok (.aload_n 0, 1) := oq_42 (byt chX11_areKin_0 12 rfl)
theorem dX11_areKin_13 : decode cX11_areKin 13 = .ok (.bipush 88, 2) := oq_16 (byt chX11_areKin_0 13 rfl) (byt chX11_areKin_0 14 rfl) rfl
theorem dX11_areKin_15 : decode cX11_areKin 15 = .ok (.iload_n 2, 1) := oq_28 (byt chX11_areKin_0 15 rfl)
theorem dX11_areKin_16 : decode cX11_areKin 16 = .ok (.iadd, 1) := oq_96 (byt chX11_areKin_1 0 rfl)
theorem dX11_areKin_17 : decode cX11_areKin 17 = .ok (.invokevirtual 277, 3) := oq_182 (byt chX11_areKin_1 1 rfl) (byt chX11_areKin_1 2 rfl) (byt chX11_areKin_1 3 rfl) rfl
theorem dX11_areKin_20 : decode cX11_areKin 20 = .ok (.iload_n 1, 1) := oq_27 (byt chX11_areKin_1 4 rfl)
theorem dX11_areKin_21 : decode cX11_areKin 21 = .ok (.if_icmp .ne 7, 3) := oq_160 (byt chX11_areKin_1 5 rfl) (byt chX11_areKin_1 6 rfl) (byt chX11_areKin_1 7 rfl) (by decide +kernel)
theorem dX11_areKin_24 : decode cX11_areKin 24 = .ok (.iconst 1, 1) := oq_4 (byt chX11_areKin_1 8 rfl)
theorem dX11_areKin_25 : decode cX11_areKin 25 = .ok (.goto 4, 3) := oq_167 (byt chX11_areKin_1 9 rfl) (byt chX11_areKin_1 10 rfl) (byt chX11_areKin_1 11 rfl) (by decide +kernel)
theorem dX11_areKin_28 : decode cX11_areKin 28 = .ok (.iconst 0, 1) := oq_3 (byt chX11_areKin_1 12 rfl)
theorem dX11_areKin_29 : decode cX11_areKin 29 = .ok (.ireturn, 1) := oq_172 (byt chX11_areKin_1 13 rfl)
abbrev mX11_areKin : MI := (yX11_areKin, cX11_areKin, 3, (some .boolean), noE)
theorem okX11_areKin : cok mX11_areKin 2 := ⟨tw1829, tw11, by decide, by decide, by decide, by decide +kernel⟩
def fX11_areKin (M : Mem) (a0 a1 a2 : Int) : Option Int :=
  if M.2.1 a0 = 10 then (fX11_of M a0 (w32 (88 + a1))).bind fun r1 => if r1 = a2 then (some 1) else ((fX11_of M a0 (w32 (88 + a2))).bind fun r5 => if r5 = a1 then (some 1) else (some 0)) else none
set_option maxRecDepth 100000 in
set_option maxHeartbeats 4000000 in
theorem kX11_areKin (d : Nat) (hd : 1 ≤ d) (M : Mem) (a0 a1 a2 : Int) : Ct mX11_areKin d 0 0 [pA a0, pI a1, pI a2] M (dI M) (fX11_areKin M a0 a1 a2) := by
  obtain ⟨d, rfl⟩ : ∃ k, d = k + 1 := ⟨d - 1, by omega⟩
  refine Ct.of 0 (fun _ _ _ => trivial) (by decide +kernel) rfl ?_
  unfold fX11_areKin
  refine v_aload_n dX11_areKin_0 rfl ?_
  refine v_bipush dX11_areKin_1 (by decide) ?_
  refine v_iload_n dX11_areKin_3 rfl ?_
  refine v_iadd dX11_areKin_4 ?_
  refine v_if (fun h3 => ?_)
  refine v_cV (mi := mX11_areKin) (c0 := 0) (c1 := 0) (As := [pI (w32 (88 + a1))]) (st := []) (kX11_of d (by omega) _ _ _) rfl h3 rfl okX11_of (Or.inl tw1504) tw1506 tp55 rfl (Nat.le_of_ble_eq_true rfl) dX11_areKin_5 (fun r1 => [pI r1]) (fun r1 => M) (fun _ => rfl) (fun _ => rfl) (fun r1 h2 => ?_) rfl
  refine v_iload_n dX11_areKin_8 rfl ?_
  refine v_icmp_eq (tgt := 24) dX11_areKin_9 (by decide) (fun c4 => ?_) (fun c4 => ?_)
  · refine v_iconst dX11_areKin_24 (by decide) ?_
    refine v_goto (tgt := 29) dX11_areKin_25 (by decide) ?_
    exact v_breturn dX11_areKin_29 rfl (by decide) rfl
  · refine v_aload_n dX11_areKin_12 rfl ?_
    refine v_bipush dX11_areKin_13 (by decide) ?_
    refine v_iload_n dX11_areKin_15 rfl ?_
    refine v_iadd dX11_areKin_16 ?_
    refine v_cV (mi := mX11_areKin) (c0 := 0) (c1 := 0) (As := [pI (w32 (88 + a2))]) (st := []) (kX11_of d (by omega) _ _ _) rfl h3 rfl okX11_of (Or.inl tw1504) tw1506 tp55 rfl (Nat.le_of_ble_eq_true rfl) dX11_areKin_17 (fun r5 => [pI r5]) (fun r5 => M) (fun _ => rfl) (fun _ => rfl) (fun r5 h6 => ?_) rfl
    refine v_iload_n dX11_areKin_20 rfl ?_
    refine v_icmp_ne (tgt := 28) dX11_areKin_21 (by decide) (fun c7 => ?_) (fun c7 => ?_)
    · refine v_iconst dX11_areKin_24 (by decide) ?_
      refine v_goto (tgt := 29) dX11_areKin_25 (by decide) ?_
      exact v_breturn dX11_areKin_29 rfl (by decide) rfl
    · refine v_iconst dX11_areKin_28 (by decide) ?_
      exact v_breturn dX11_areKin_29 rfl (by decide) rfl
theorem chX11_settle_0 : (cX11_settle.data.toList.drop 0).take 16 = [19, 1, 161, 60, 3, 61, 28, 4, 42, 180, 1, 28, 120, 162, 0, 183] := by decide +kernel
theorem chX11_settle_1 : (cX11_settle.data.toList.drop 16).take 16 = [3, 62, 3, 54, 4, 21, 4, 42, 180, 1, 28, 162, 0, 157, 29, 42] := by decide +kernel
theorem chX11_settle_2 : (cX11_settle.data.toList.drop 32).take 16 = [21, 4, 182, 1, 85, 153, 0, 30, 42, 21, 4, 182, 1, 95, 158, 0] := by decide +kernel
theorem chX11_settle_3 : (cX11_settle.data.toList.drop 48).take 16 = [21, 28, 21, 4, 184, 1, 55, 154, 0, 12, 42, 21, 4, 182, 1, 95] := by decide +kernel
theorem chX11_settle_4 : (cX11_settle.data.toList.drop 64).take 16 = [167, 0, 4, 3, 96, 62, 3, 54, 5, 3, 54, 6, 21, 6, 42, 180] := by decide +kernel
theorem chX11_settle_5 : (cX11_settle.data.toList.drop 80).take 16 = [1, 28, 162, 0, 59, 21, 5, 154, 0, 41, 28, 21, 6, 184, 1, 55] := by decide +kernel
theorem chX11_settle_6 : (cX11_settle.data.toList.drop 96).take 16 = [153, 0, 36, 42, 21, 6, 182, 1, 85, 153, 0, 27, 42, 21, 6, 182] := by decide +kernel
theorem chX11_settle_7 : (cX11_settle.data.toList.drop 112).take 16 = [1, 95, 158, 0, 18, 42, 21, 4, 21, 6, 182, 1, 233, 154, 0, 7] := by decide +kernel
theorem chX11_settle_8 : (cX11_settle.data.toList.drop 128).take 16 = [4, 167, 0, 4, 3, 54, 5, 132, 6, 1, 167, 255, 194, 29, 42, 21] := by decide +kernel
theorem chX11_settle_9 : (cX11_settle.data.toList.drop 144).take 16 = [4, 182, 1, 85, 153, 0, 27, 42, 21, 4, 182, 1, 95, 156, 0, 18] := by decide +kernel
theorem chX11_settle_10 : (cX11_settle.data.toList.drop 160).take 16 = [21, 5, 153, 0, 13, 42, 21, 4, 182, 1, 95, 116, 167, 0, 4, 3] := by decide +kernel
theorem chX11_settle_11 : (cX11_settle.data.toList.drop 176).take 16 = [96, 62, 132, 4, 1, 167, 255, 96, 27, 29, 184, 1, 143, 60, 132, 2] := by decide +kernel
theorem chX11_settle_12 : (cX11_settle.data.toList.drop 192).take 16 = [1, 167, 255, 69, 27, 172] := by decide +kernel
theorem dX11_settle_0 : decode cX11_settle 0 = .ok (.ldc_w 417, 3) := oq_19 (byt chX11_settle_0 0 rfl) (byt chX11_settle_0 1 rfl) (byt chX11_settle_0 2 rfl) rfl
theorem dX11_settle_3 : decode cX11_settle 3 = .ok (.istore_n 1, 1) := oq_60 (byt chX11_settle_0 3 rfl)
theorem dX11_settle_4 : decode cX11_settle 4 = .ok (.iconst 0, 1) := oq_3 (byt chX11_settle_0 4 rfl)
theorem dX11_settle_5 : decode cX11_settle 5 = .ok (.istore_n 2, 1) := oq_61 (byt chX11_settle_0 5 rfl)
theorem dX11_settle_6 : decode cX11_settle 6 = .ok (.iload_n 2, 1) := oq_28 (byt chX11_settle_0 6 rfl)
theorem dX11_settle_7 : decode cX11_settle 7 = .ok (.iconst 1, 1) := oq_4 (byt chX11_settle_0 7 rfl)
theorem dX11_settle_8 : decode cX11_settle 8 = .ok (.aload_n 0, 1) := oq_42 (byt chX11_settle_0 8 rfl)
theorem dX11_settle_9 : decode cX11_settle 9 = .ok (.getfield 284, 3) := oq_180 (byt chX11_settle_0 9 rfl) (byt chX11_settle_0 10 rfl) (byt chX11_settle_0 11 rfl) rfl
theorem dX11_settle_12 : decode cX11_settle 12 = .ok (.ishl, 1) := oq_120 (byt chX11_settle_0 12 rfl)
theorem dX11_settle_13 : decode cX11_settle 13 = .ok (.if_icmp .ge 183, 3) := oq_162 (byt chX11_settle_0 13 rfl) (byt chX11_settle_0 14 rfl) (byt chX11_settle_0 15 rfl) (by decide +kernel)
theorem dX11_settle_16 : decode cX11_settle 16 = .ok (.iconst 0, 1) := oq_3 (byt chX11_settle_1 0 rfl)
theorem dX11_settle_17 : decode cX11_settle 17 = .ok (.istore_n 3, 1) := oq_62 (byt chX11_settle_1 1 rfl)
theorem dX11_settle_18 : decode cX11_settle 18 = .ok (.iconst 0, 1) := oq_3 (byt chX11_settle_1 2 rfl)
theorem dX11_settle_19 : decode cX11_settle 19 = .ok (.istore 4, 2) := oq_54 (byt chX11_settle_1 3 rfl) (byt chX11_settle_1 4 rfl) rfl
theorem dX11_settle_21 : decode cX11_settle 21 = .ok (.iload 4, 2) := oq_21 (byt chX11_settle_1 5 rfl) (byt chX11_settle_1 6 rfl) rfl
theorem dX11_settle_23 : decode cX11_settle 23 = .ok (.aload_n 0, 1) := oq_42 (byt chX11_settle_1 7 rfl)
theorem dX11_settle_24 : decode cX11_settle 24 = .ok (.getfield 284, 3) := oq_180 (byt chX11_settle_1 8 rfl) (byt chX11_settle_1 9 rfl) (byt chX11_settle_1 10 rfl) rfl
theorem dX11_settle_27 : decode cX11_settle 27 = .ok (.if_icmp .ge 157, 3) := oq_162 (byt chX11_settle_1 11 rfl) (byt chX11_settle_1 12 rfl) (byt chX11_settle_1 13 rfl) (by decide +kernel)
theorem dX11_settle_30 : decode cX11_settle 30 = .ok (.iload_n 3, 1) := oq_29 (byt chX11_settle_1 14 rfl)
theorem dX11_settle_31 : decode cX11_settle 31 = .ok (.aload_n 0, 1) := oq_42 (byt chX11_settle_1 15 rfl)
theorem dX11_settle_32 : decode cX11_settle 32 = .ok (.iload 4, 2) := oq_21 (byt chX11_settle_2 0 rfl) (byt chX11_settle_2 1 rfl) rfl
theorem dX11_settle_34 : decode cX11_settle 34 = .ok (.invokevirtual 341, 3) := oq_182 (byt chX11_settle_2 2 rfl) (byt chX11_settle_2 3 rfl) (byt chX11_settle_2 4 rfl) rfl
theorem dX11_settle_37 : decode cX11_settle 37 = .ok (.ifCond .eq 30, 3) := oq_153 (byt chX11_settle_2 5 rfl) (byt chX11_settle_2 6 rfl) (byt chX11_settle_2 7 rfl) (by decide +kernel)
theorem dX11_settle_40 : decode cX11_settle 40 = .ok (.aload_n 0, 1) := oq_42 (byt chX11_settle_2 8 rfl)
theorem dX11_settle_41 : decode cX11_settle 41 = .ok (.iload 4, 2) := oq_21 (byt chX11_settle_2 9 rfl) (byt chX11_settle_2 10 rfl) rfl
theorem dX11_settle_43 : decode cX11_settle 43 = .ok (.invokevirtual 351, 3) := oq_182 (byt chX11_settle_2 11 rfl) (byt chX11_settle_2 12 rfl) (byt chX11_settle_2 13 rfl) rfl
theorem dX11_settle_46 : decode cX11_settle 46 = .ok (.ifCond .le 21, 3) := oq_158 (byt chX11_settle_2 14 rfl) (byt chX11_settle_2 15 rfl) (byt chX11_settle_3 0 rfl) (by decide +kernel)
theorem dX11_settle_49 : decode cX11_settle 49 = .ok (.iload_n 2, 1) := oq_28 (byt chX11_settle_3 1 rfl)
theorem dX11_settle_50 : decode cX11_settle 50 = .ok (.iload 4, 2) := oq_21 (byt chX11_settle_3 2 rfl) (byt chX11_settle_3 3 rfl) rfl
theorem dX11_settle_52 : decode cX11_settle 52 = .ok (.invokestatic 311, 3) := oq_184 (byt chX11_settle_3 4 rfl) (byt chX11_settle_3 5 rfl) (byt chX11_settle_3 6 rfl) rfl
theorem dX11_settle_55 : decode cX11_settle 55 = .ok (.ifCond .ne 12, 3) := oq_154 (byt chX11_settle_3 7 rfl) (byt chX11_settle_3 8 rfl) (byt chX11_settle_3 9 rfl) (by decide +kernel)
theorem dX11_settle_58 : decode cX11_settle 58 = .ok (.aload_n 0, 1) := oq_42 (byt chX11_settle_3 10 rfl)
theorem dX11_settle_59 : decode cX11_settle 59 = .ok (.iload 4, 2) := oq_21 (byt chX11_settle_3 11 rfl) (byt chX11_settle_3 12 rfl) rfl
theorem dX11_settle_61 : decode cX11_settle 61 = .ok (.invokevirtual 351, 3) := oq_182 (byt chX11_settle_3 13 rfl) (byt chX11_settle_3 14 rfl) (byt chX11_settle_3 15 rfl) rfl
theorem dX11_settle_64 : decode cX11_settle 64 = .ok (.goto 4, 3) := oq_167 (byt chX11_settle_4 0 rfl) (byt chX11_settle_4 1 rfl) (byt chX11_settle_4 2 rfl) (by decide +kernel)
theorem dX11_settle_67 : decode cX11_settle 67 = .ok (.iconst 0, 1) := oq_3 (byt chX11_settle_4 3 rfl)
theorem dX11_settle_68 : decode cX11_settle 68 = .ok (.iadd, 1) := oq_96 (byt chX11_settle_4 4 rfl)
theorem dX11_settle_69 : decode cX11_settle 69 = .ok (.istore_n 3, 1) := oq_62 (byt chX11_settle_4 5 rfl)
theorem dX11_settle_70 : decode cX11_settle 70 = .ok (.iconst 0, 1) := oq_3 (byt chX11_settle_4 6 rfl)
theorem dX11_settle_71 : decode cX11_settle 71 = .ok (.istore 5, 2) := oq_54 (byt chX11_settle_4 7 rfl) (byt chX11_settle_4 8 rfl) rfl
theorem dX11_settle_73 : decode cX11_settle 73 = .ok (.iconst 0, 1) := oq_3 (byt chX11_settle_4 9 rfl)
theorem dX11_settle_74 : decode cX11_settle 74 = .ok (.istore 6, 2) := oq_54 (byt chX11_settle_4 10 rfl) (byt chX11_settle_4 11 rfl) rfl
theorem dX11_settle_76 : decode cX11_settle 76 = .ok (.iload 6, 2) := oq_21 (byt chX11_settle_4 12 rfl) (byt chX11_settle_4 13 rfl) rfl
theorem dX11_settle_78 : decode cX11_settle 78 = .ok (.aload_n 0, 1) := oq_42 (byt chX11_settle_4 14 rfl)
theorem dX11_settle_79 : decode cX11_settle 79 = .ok (.getfield 284, 3) := oq_180 (byt chX11_settle_4 15 rfl) (byt chX11_settle_5 0 rfl) (byt chX11_settle_5 1 rfl) rfl
theorem dX11_settle_82 : decode cX11_settle 82 = .ok (.if_icmp .ge 59, 3) := oq_162 (byt chX11_settle_5 2 rfl) (byt chX11_settle_5 3 rfl) (byt chX11_settle_5 4 rfl) (by decide +kernel)
theorem dX11_settle_85 : decode cX11_settle 85 = .ok (.iload 5, 2) := oq_21 (byt chX11_settle_5 5 rfl) (byt chX11_settle_5 6 rfl) rfl
theorem dX11_settle_87 : decode cX11_settle 87 = .ok (.ifCond .ne 41, 3) := oq_154 (byt chX11_settle_5 7 rfl) (byt chX11_settle_5 8 rfl) (byt chX11_settle_5 9 rfl) (by decide +kernel)
theorem dX11_settle_90 : decode cX11_settle 90 = .ok (.iload_n 2, 1) := oq_28 (byt chX11_settle_5 10 rfl)
theorem dX11_settle_91 : decode cX11_settle 91 = .ok (.iload 6, 2) := oq_21 (byt chX11_settle_5 11 rfl) (byt chX11_settle_5 12 rfl) rfl
theorem dX11_settle_93 : decode cX11_settle 93 = .ok (.invokestatic 311, 3) := oq_184 (byt chX11_settle_5 13 rfl) (byt chX11_settle_5 14 rfl) (byt chX11_settle_5 15 rfl) rfl
theorem dX11_settle_96 : decode cX11_settle 96 = .ok (.ifCond .eq 36, 3) := oq_153 (byt chX11_settle_6 0 rfl) (byt chX11_settle_6 1 rfl) (byt chX11_settle_6 2 rfl) (by decide +kernel)
theorem dX11_settle_99 : decode cX11_settle 99 = .ok (.aload_n 0, 1) := oq_42 (byt chX11_settle_6 3 rfl)
theorem dX11_settle_100 : decode cX11_settle 100 = .ok (.iload 6, 2) := oq_21 (byt chX11_settle_6 4 rfl) (byt chX11_settle_6 5 rfl) rfl
theorem dX11_settle_102 : decode cX11_settle 102 = .ok (.invokevirtual 341, 3) := oq_182 (byt chX11_settle_6 6 rfl) (byt chX11_settle_6 7 rfl) (byt chX11_settle_6 8 rfl) rfl
theorem dX11_settle_105 : decode cX11_settle 105 = .ok (.ifCond .eq 27, 3) := oq_153 (byt chX11_settle_6 9 rfl) (byt chX11_settle_6 10 rfl) (byt chX11_settle_6 11 rfl) (by decide +kernel)
theorem dX11_settle_108 : decode cX11_settle 108 = .ok (.aload_n 0, 1) := oq_42 (byt chX11_settle_6 12 rfl)
theorem dX11_settle_109 : decode cX11_settle 109 = .ok (.iload 6, 2) := oq_21 (byt chX11_settle_6 13 rfl) (byt chX11_settle_6 14 rfl) rfl
theorem dX11_settle_111 : decode cX11_settle 111 = .ok (.invokevirtual 351, 3) := oq_182 (byt chX11_settle_6 15 rfl) (byt chX11_settle_7 0 rfl) (byt chX11_settle_7 1 rfl) rfl
theorem dX11_settle_114 : decode cX11_settle 114 = .ok (.ifCond .le 18, 3) := oq_158 (byt chX11_settle_7 2 rfl) (byt chX11_settle_7 3 rfl) (byt chX11_settle_7 4 rfl) (by decide +kernel)
theorem dX11_settle_117 : decode cX11_settle 117 = .ok (.aload_n 0, 1) := oq_42 (byt chX11_settle_7 5 rfl)
theorem dX11_settle_118 : decode cX11_settle 118 = .ok (.iload 4, 2) := oq_21 (byt chX11_settle_7 6 rfl) (byt chX11_settle_7 7 rfl) rfl
theorem dX11_settle_120 : decode cX11_settle 120 = .ok (.iload 6, 2) := oq_21 (byt chX11_settle_7 8 rfl) (byt chX11_settle_7 9 rfl) rfl
theorem dX11_settle_122 : decode cX11_settle 122 = .ok (.invokevirtual 489, 3) := oq_182 (byt chX11_settle_7 10 rfl) (byt chX11_settle_7 11 rfl) (byt chX11_settle_7 12 rfl) rfl
theorem dX11_settle_125 : decode cX11_settle 125 = .ok (.ifCond .ne 7, 3) := oq_154 (byt chX11_settle_7 13 rfl) (byt chX11_settle_7 14 rfl) (byt chX11_settle_7 15 rfl) (by decide +kernel)
theorem dX11_settle_128 : decode cX11_settle 128 = .ok (.iconst 1, 1) := oq_4 (byt chX11_settle_8 0 rfl)
theorem dX11_settle_129 : decode cX11_settle 129 = .ok (.goto 4, 3) := oq_167 (byt chX11_settle_8 1 rfl) (byt chX11_settle_8 2 rfl) (byt chX11_settle_8 3 rfl) (by decide +kernel)
theorem dX11_settle_132 : decode cX11_settle 132 = .ok (.iconst 0, 1) := oq_3 (byt chX11_settle_8 4 rfl)
theorem dX11_settle_133 : decode cX11_settle 133 = .ok (.istore 5, 2) := oq_54 (byt chX11_settle_8 5 rfl) (byt chX11_settle_8 6 rfl) rfl
theorem dX11_settle_135 : decode cX11_settle 135 = .ok (.iinc 6 1, 3) := oq_132 (byt chX11_settle_8 7 rfl) (byt chX11_settle_8 8 rfl) (byt chX11_settle_8 9 rfl) rfl
theorem dX11_settle_138 : decode cX11_settle 138 = .ok (.goto (-62), 3) := oq_167 (byt chX11_settle_8 10 rfl) (byt chX11_settle_8 11 rfl) (byt chX11_settle_8 12 rfl) (by decide +kernel)
theorem dX11_settle_141 : decode cX11_settle 141 = .ok (.iload_n 3, 1) := oq_29 (byt chX11_settle_8 13 rfl)
theorem dX11_settle_142 : decode cX11_settle 142 = .ok (.aload_n 0, 1) := oq_42 (byt chX11_settle_8 14 rfl)
theorem dX11_settle_143 : decode cX11_settle 143 = .ok (.iload 4, 2) := oq_21 (byt chX11_settle_8 15 rfl) (byt chX11_settle_9 0 rfl) rfl
theorem dX11_settle_145 : decode cX11_settle 145 = .ok (.invokevirtual 341, 3) := oq_182 (byt chX11_settle_9 1 rfl) (byt chX11_settle_9 2 rfl) (byt chX11_settle_9 3 rfl) rfl
theorem dX11_settle_148 : decode cX11_settle 148 = .ok (.ifCond .eq 27, 3) := oq_153 (byt chX11_settle_9 4 rfl) (byt chX11_settle_9 5 rfl) (byt chX11_settle_9 6 rfl) (by decide +kernel)
theorem dX11_settle_151 : decode cX11_settle 151 = .ok (.aload_n 0, 1) := oq_42 (byt chX11_settle_9 7 rfl)
theorem dX11_settle_152 : decode cX11_settle 152 = .ok (.iload 4, 2) := oq_21 (byt chX11_settle_9 8 rfl) (byt chX11_settle_9 9 rfl) rfl
theorem dX11_settle_154 : decode cX11_settle 154 = .ok (.invokevirtual 351, 3) := oq_182 (byt chX11_settle_9 10 rfl) (byt chX11_settle_9 11 rfl) (byt chX11_settle_9 12 rfl) rfl
theorem dX11_settle_157 : decode cX11_settle 157 = .ok (.ifCond .ge 18, 3) := oq_156 (byt chX11_settle_9 13 rfl) (byt chX11_settle_9 14 rfl) (byt chX11_settle_9 15 rfl) (by decide +kernel)
theorem dX11_settle_160 : decode cX11_settle 160 = .ok (.iload 5, 2) := oq_21 (byt chX11_settle_10 0 rfl) (byt chX11_settle_10 1 rfl) rfl
theorem dX11_settle_162 : decode cX11_settle 162 = .ok (.ifCond .eq 13, 3) := oq_153 (byt chX11_settle_10 2 rfl) (byt chX11_settle_10 3 rfl) (byt chX11_settle_10 4 rfl) (by decide +kernel)
theorem dX11_settle_165 : decode cX11_settle 165 = .ok (.aload_n 0, 1) := oq_42 (byt chX11_settle_10 5 rfl)
theorem dX11_settle_166 : decode cX11_settle 166 = .ok (.iload 4, 2) := oq_21 (byt chX11_settle_10 6 rfl) (byt chX11_settle_10 7 rfl) rfl
theorem dX11_settle_168 : decode cX11_settle 168 = .ok (.invokevirtual 351, 3) := oq_182 (byt chX11_settle_10 8 rfl) (byt chX11_settle_10 9 rfl) (byt chX11_settle_10 10 rfl) rfl
theorem dX11_settle_171 : decode cX11_settle 171 = .ok (.ineg, 1) := oq_116 (byt chX11_settle_10 11 rfl)
theorem dX11_settle_172 : decode cX11_settle 172 = .ok (.goto 4, 3) := oq_167 (byt chX11_settle_10 12 rfl) (byt chX11_settle_10 13 rfl) (byt chX11_settle_10 14 rfl) (by decide +kernel)
theorem dX11_settle_175 : decode cX11_settle 175 = .ok (.iconst 0, 1) := oq_3 (byt chX11_settle_10 15 rfl)
theorem dX11_settle_176 : decode cX11_settle 176 = .ok (.iadd, 1) := oq_96 (byt chX11_settle_11 0 rfl)
theorem dX11_settle_177 : decode cX11_settle 177 = .ok (.istore_n 3, 1) := oq_62 (byt chX11_settle_11 1 rfl)
theorem dX11_settle_178 : decode cX11_settle 178 = .ok (.iinc 4 1, 3) := oq_132 (byt chX11_settle_11 2 rfl) (byt chX11_settle_11 3 rfl) (byt chX11_settle_11 4 rfl) rfl
theorem dX11_settle_181 : decode cX11_settle 181 = .ok (.goto (-160), 3) := oq_167 (byt chX11_settle_11 5 rfl) (byt chX11_settle_11 6 rfl) (byt chX11_settle_11 7 rfl) (by decide +kernel)
theorem dX11_settle_184 : decode cX11_settle 184 = .ok (.iload_n 1, 1) := oq_27 (byt chX11_settle_11 8 rfl)
theorem dX11_settle_185 : decode cX11_settle 185 = .ok (.iload_n 3, 1) := oq_29 (byt chX11_settle_11 9 rfl)
theorem dX11_settle_186 : decode cX11_settle 186 = .ok (.invokestatic 399, 3) := oq_184 (byt chX11_settle_11 10 rfl) (byt chX11_settle_11 11 rfl) (byt chX11_settle_11 12 rfl) rfl
theorem dX11_settle_189 : decode cX11_settle 189 = .ok (.istore_n 1, 1) := oq_60 (byt chX11_settle_11 13 rfl)
theorem dX11_settle_190 : decode cX11_settle 190 = .ok (.iinc 2 1, 3) := oq_132 (byt chX11_settle_11 14 rfl) (byt chX11_settle_11 15 rfl) (byt chX11_settle_12 0 rfl) rfl
theorem dX11_settle_193 : decode cX11_settle 193 = .ok (.goto (-187), 3) := oq_167 (byt chX11_settle_12 1 rfl) (byt chX11_settle_12 2 rfl) (byt chX11_settle_12 3 rfl) (by decide +kernel)
theorem dX11_settle_196 : decode cX11_settle 196 = .ok (.iload_n 1, 1) := oq_27 (byt chX11_settle_12 4 rfl)
theorem dX11_settle_197 : decode cX11_settle 197 = .ok (.ireturn, 1) := oq_172 (byt chX11_settle_12 5 rfl)
abbrev mX11_settle : MI := (yX11_settle, cX11_settle, 7, (some .int), noE)
theorem okX11_settle : cok mX11_settle 0 := ⟨tw1825, tw11, by decide, by decide, by decide, by decide +kernel⟩
def fX11_settle (M : Mem) (a0 : Int) : Option Int :=
  iterC (fun (rec1 : (Int × Int) → Option Int) (s2 : Int × Int) => if M.2.1 a0 = 10 then if s2.2 < bShl 1 (M.1 a0 26) then (iterC (fun (rec5 : (Int × Int) → Option Int) (s6 : Int × Int) => if s6.2 < M.1 a0 26 then ((fX11_isFree M a0 s6.2).bind fun r8 => jn (fun (t11 : Int) => iterC (fun (rec12 : (Int × Int) → Option Int) (s13 : Int × Int) => if s13.2 < M.1 a0 26 then (if s13.1 = 0 then ((fX11_has M s2.2 s13.2).bind fun r16 => if r16 = 0 then (rec12 (0, w32 (s13.2 + 1))) else ((fX11_isFree M a0 s13.2).bind fun r19 => if r19 = 0 then (rec12 (0, w32 (s13.2 + 1))) else ((fX11_owes M a0 s13.2).bind fun r22 => if 0 < r22 then ((fX11_areKin M a0 s6.2 s13.2).bind fun r25 => if r25 = 0 then (rec12 (1, w32 (s13.2 + 1))) else (rec12 (0, w32 (s13.2 + 1)))) else (rec12 (0, w32 (s13.2 + 1)))))) else (rec12 (1, w32 (s13.2 + 1)))) else ((fX11_isFree M a0 s6.2).bind fun r28 => if r28 = 0 then (rec5 (w32 ((w32 (s6.1 + t11)) + 0), w32 (s6.2 + 1))) else ((fX11_owes M a0 s6.2).bind fun r31 => if r31 < 0 then (if s13.1 = 0 then (rec5 (w32 ((w32 (s6.1 + t11)) + 0), w32 (s6.2 + 1))) else ((fX11_owes M a0 s6.2).bind fun r35 => rec5 (w32 ((w32 (s6.1 + t11)) + (w32 (-r35))), w32 (s6.2 + 1)))) else (rec5 (w32 ((w32 (s6.1 + t11)) + 0), w32 (s6.2 + 1)))))) BIG (0, 0)) (fun (j10 : Int → Option Int) => jn (fun (t38 : Unit) => j10 0) (fun (j37 : Unit → Option Int) => if r8 = 0 then (j37 ()) else ((fX11_owes M a0 s6.2).bind fun r40 => if 0 < r40 then ((fX11_has M s2.2 s6.2).bind fun r43 => if r43 = 0 then ((fX11_owes M a0 s6.2).bind fun r46 => j10 r46) else (j37 ())) else (j37 ()))))) else ((fX11_lesser M s2.1 s6.1).bind fun r48 => rec1 (r48, w32 (s2.2 + 1)))) BIG (0, 0)) else (some s2.1) else none) BIG (1000000, 0)
set_option maxRecDepth 100000 in
set_option maxHeartbeats 4000000 in
theorem kX11_settle (d : Nat) (hd : 3 ≤ d) (M : Mem) (a0 : Int) : Ct mX11_settle d 0 0 [pA a0] M (dI M) (fX11_settle M a0) := by
  obtain ⟨d, rfl⟩ : ∃ k, d = k + 1 := ⟨d - 1, by omega⟩
  refine Ct.of 6 (fun _ _ _ => trivial) (by decide +kernel) rfl ?_
  unfold fX11_settle
  refine v_ldcw (n := 1000000) dX11_settle_0 (by decide) tw1680 ?_
  refine v_istore_n (ls' := [some (pA a0), some (pI 1000000), none, none, none, none, none]) dX11_settle_3 (by decide) rfl ?_
  refine v_iconst dX11_settle_4 (by decide) ?_
  refine v_istore_n (ls' := [some (pA a0), some (pI 1000000), some (pI 0), none, none, none, none]) dX11_settle_5 (by decide) rfl ?_
  refine v_loop (fun (s2 : Int × Int) => [some (pA a0), some (pI s2.1), some (pI s2.2), none, none, none, none]) (fun (s2 : Int × Int) => M) (s0 := (1000000, 0)) ?_
  intro rec1 hrec1 s2
  refine v_iload_n dX11_settle_6 rfl ?_
  refine v_iconst dX11_settle_7 (by decide) ?_
  refine v_aload_n dX11_settle_8 rfl ?_
  refine v_if (fun h3 => ?_)
  refine v_get (v := pI (M.1 a0 26)) 10 26 rfl inX11 (by decide) tw1219 dX11_settle_9 h3 rfl ?_
  refine v_ishl dX11_settle_12 ?_
  refine v_icmp_ge (tgt := 196) dX11_settle_13 (by decide) (fun c4 => ?_) (fun c4 => ?_)
  · refine v_iconst dX11_settle_16 (by decide) ?_
    refine v_istore_n (ls' := [some (pA a0), some (pI s2.1), some (pI s2.2), some (pI 0), none, none, none]) dX11_settle_17 (by decide) rfl ?_
    refine v_iconst dX11_settle_18 (by decide) ?_
    refine v_istore (ls' := [some (pA a0), some (pI s2.1), some (pI s2.2), some (pI 0), some (pI 0), none, none]) dX11_settle_19 (by decide) rfl ?_
    refine v_loop (fun (s6 : Int × Int) => [some (pA a0), some (pI s2.1), some (pI s2.2), some (pI s6.1), some (pI s6.2), none, none]) (fun (s6 : Int × Int) => M) (s0 := (0, 0)) ?_
    intro rec5 hrec5 s6
    refine v_iload dX11_settle_21 rfl ?_
    refine v_aload_n dX11_settle_23 rfl ?_
    refine v_get (v := pI (M.1 a0 26)) 10 26 rfl inX11 (by decide) tw1219 dX11_settle_24 h3 rfl ?_
    refine v_icmp_ge (tgt := 184) dX11_settle_27 (by decide) (fun c7 => ?_) (fun c7 => ?_)
    · refine v_iload_n dX11_settle_30 rfl ?_
      refine v_aload_n dX11_settle_31 rfl ?_
      refine v_iload dX11_settle_32 rfl ?_
      refine v_cV (mi := mX11_settle) (c0 := 0) (c1 := 0) (As := [pI s6.2]) (st := [pI s6.1]) (kX11_isFree d (by omega) _ _ _) rfl h3 rfl okX11_isFree (Or.inl tw1590) tw1592 tp71 rfl (Nat.le_of_ble_eq_true rfl) dX11_settle_34 (fun r8 => [pI r8, pI s6.1]) (fun r8 => M) (fun _ => rfl) (fun _ => rfl) (fun r8 h9 => ?_) rfl
      refine v_join (fun (t11 : Int) => [some (pA a0), some (pI s2.1), some (pI s2.2), none, some (pI s6.2), none, none]) (fun (t11 : Int) => [pI t11, pI s6.1]) (fun (t11 : Int) => M) 68 (fun t11 => ?_) (fun j10 hj10 => ?_)
      · refine v_iadd dX11_settle_68 ?_
        refine v_istore_n (ls' := [some (pA a0), some (pI s2.1), some (pI s2.2), some (pI (w32 (s6.1 + t11))), some (pI s6.2), none, none]) dX11_settle_69 (by decide) rfl ?_
        refine v_iconst dX11_settle_70 (by decide) ?_
        refine v_istore (ls' := [some (pA a0), some (pI s2.1), some (pI s2.2), some (pI (w32 (s6.1 + t11))), some (pI s6.2), some (pI 0), none]) dX11_settle_71 (by decide) rfl ?_
        refine v_iconst dX11_settle_73 (by decide) ?_
        refine v_istore (ls' := [some (pA a0), some (pI s2.1), some (pI s2.2), some (pI (w32 (s6.1 + t11))), some (pI s6.2), some (pI 0), some (pI 0)]) dX11_settle_74 (by decide) rfl ?_
        refine v_loop (fun (s13 : Int × Int) => [some (pA a0), some (pI s2.1), some (pI s2.2), some (pI (w32 (s6.1 + t11))), some (pI s6.2), some (pI s13.1), some (pI s13.2)]) (fun (s13 : Int × Int) => M) (s0 := (0, 0)) ?_
        intro rec12 hrec12 s13
        refine v_iload dX11_settle_76 rfl ?_
        refine v_aload_n dX11_settle_78 rfl ?_
        refine v_get (v := pI (M.1 a0 26)) 10 26 rfl inX11 (by decide) tw1219 dX11_settle_79 h3 rfl ?_
        refine v_icmp_ge (tgt := 141) dX11_settle_82 (by decide) (fun c14 => ?_) (fun c14 => ?_)
        · refine v_iload dX11_settle_85 rfl ?_
          refine v_if_ne (tgt := 128) dX11_settle_87 (by decide) (fun c15 => ?_) (fun c15 => ?_)
          · refine v_iload_n dX11_settle_90 rfl ?_
            refine v_iload dX11_settle_91 rfl ?_
            refine v_cS (mi := mX11_settle) (c0 := 0) (c1 := 0) (As := [pI s2.2, pI s13.2]) (st := []) (kX11_has d (by omega) _ _ _) okX11_has (Or.inl tw1547) tw1548 rfl (Nat.le_of_ble_eq_true rfl) dX11_settle_93 (fun r16 => [pI r16]) (fun r16 => M) (fun _ => rfl) (fun _ => rfl) (fun r16 h17 => ?_) rfl
            refine v_if_eq (tgt := 132) dX11_settle_96 (by decide) (fun c18 => ?_) (fun c18 => ?_)
            · refine v_iconst dX11_settle_132 (by decide) ?_
              refine v_istore (ls' := [some (pA a0), some (pI s2.1), some (pI s2.2), some (pI (w32 (s6.1 + t11))), some (pI s6.2), some (pI 0), some (pI s13.2)]) dX11_settle_133 (by decide) rfl ?_
              refine v_iinc (ls' := [some (pA a0), some (pI s2.1), some (pI s2.2), some (pI (w32 (s6.1 + t11))), some (pI s6.2), some (pI 0), some (pI (w32 (s13.2 + 1)))]) dX11_settle_135 (by decide) rfl rfl ?_
              refine v_goto (tgt := 76) dX11_settle_138 (by decide) ?_
              exact hrec12 (0, w32 (s13.2 + 1))
            · refine v_aload_n dX11_settle_99 rfl ?_
              refine v_iload dX11_settle_100 rfl ?_
              refine v_cV (mi := mX11_settle) (c0 := 0) (c1 := 0) (As := [pI s13.2]) (st := []) (kX11_isFree d (by omega) _ _ _) rfl h3 rfl okX11_isFree (Or.inl tw1590) tw1592 tp71 rfl (Nat.le_of_ble_eq_true rfl) dX11_settle_102 (fun r19 => [pI r19]) (fun r19 => M) (fun _ => rfl) (fun _ => rfl) (fun r19 h20 => ?_) rfl
              refine v_if_eq (tgt := 132) dX11_settle_105 (by decide) (fun c21 => ?_) (fun c21 => ?_)
              · refine v_iconst dX11_settle_132 (by decide) ?_
                refine v_istore (ls' := [some (pA a0), some (pI s2.1), some (pI s2.2), some (pI (w32 (s6.1 + t11))), some (pI s6.2), some (pI 0), some (pI s13.2)]) dX11_settle_133 (by decide) rfl ?_
                refine v_iinc (ls' := [some (pA a0), some (pI s2.1), some (pI s2.2), some (pI (w32 (s6.1 + t11))), some (pI s6.2), some (pI 0), some (pI (w32 (s13.2 + 1)))]) dX11_settle_135 (by decide) rfl rfl ?_
                refine v_goto (tgt := 76) dX11_settle_138 (by decide) ?_
                exact hrec12 (0, w32 (s13.2 + 1))
              · refine v_aload_n dX11_settle_108 rfl ?_
                refine v_iload dX11_settle_109 rfl ?_
                refine v_cV (mi := mX11_settle) (c0 := 0) (c1 := 0) (As := [pI s13.2]) (st := []) (kX11_owes d (by omega) _ _ _) rfl h3 rfl okX11_owes (Or.inl tw1609) tw1611 tp75 rfl (Nat.le_of_ble_eq_true rfl) dX11_settle_111 (fun r22 => [pI r22]) (fun r22 => M) (fun _ => rfl) (fun _ => rfl) (fun r22 h23 => ?_) rfl
                refine v_if_le (tgt := 132) dX11_settle_114 (by decide) (fun c24 => ?_) (fun c24 => ?_)
                · refine v_aload_n dX11_settle_117 rfl ?_
                  refine v_iload dX11_settle_118 rfl ?_
                  refine v_iload dX11_settle_120 rfl ?_
                  refine v_cV (mi := mX11_settle) (c0 := 0) (c1 := 0) (As := [pI s6.2, pI s13.2]) (st := []) (kX11_areKin d (by omega) _ _ _ _) rfl h3 rfl okX11_areKin (Or.inl tw1826) tw1828 tp108 rfl (Nat.le_of_ble_eq_true rfl) dX11_settle_122 (fun r25 => [pI r25]) (fun r25 => M) (fun _ => rfl) (fun _ => rfl) (fun r25 h26 => ?_) rfl
                  refine v_if_ne (tgt := 132) dX11_settle_125 (by decide) (fun c27 => ?_) (fun c27 => ?_)
                  · refine v_iconst dX11_settle_128 (by decide) ?_
                    refine v_goto (tgt := 133) dX11_settle_129 (by decide) ?_
                    refine v_istore (ls' := [some (pA a0), some (pI s2.1), some (pI s2.2), some (pI (w32 (s6.1 + t11))), some (pI s6.2), some (pI 1), some (pI s13.2)]) dX11_settle_133 (by decide) rfl ?_
                    refine v_iinc (ls' := [some (pA a0), some (pI s2.1), some (pI s2.2), some (pI (w32 (s6.1 + t11))), some (pI s6.2), some (pI 1), some (pI (w32 (s13.2 + 1)))]) dX11_settle_135 (by decide) rfl rfl ?_
                    refine v_goto (tgt := 76) dX11_settle_138 (by decide) ?_
                    exact hrec12 (1, w32 (s13.2 + 1))
                  · refine v_iconst dX11_settle_132 (by decide) ?_
                    refine v_istore (ls' := [some (pA a0), some (pI s2.1), some (pI s2.2), some (pI (w32 (s6.1 + t11))), some (pI s6.2), some (pI 0), some (pI s13.2)]) dX11_settle_133 (by decide) rfl ?_
                    refine v_iinc (ls' := [some (pA a0), some (pI s2.1), some (pI s2.2), some (pI (w32 (s6.1 + t11))), some (pI s6.2), some (pI 0), some (pI (w32 (s13.2 + 1)))]) dX11_settle_135 (by decide) rfl rfl ?_
                    refine v_goto (tgt := 76) dX11_settle_138 (by decide) ?_
                    exact hrec12 (0, w32 (s13.2 + 1))
                · refine v_iconst dX11_settle_132 (by decide) ?_
                  refine v_istore (ls' := [some (pA a0), some (pI s2.1), some (pI s2.2), some (pI (w32 (s6.1 + t11))), some (pI s6.2), some (pI 0), some (pI s13.2)]) dX11_settle_133 (by decide) rfl ?_
                  refine v_iinc (ls' := [some (pA a0), some (pI s2.1), some (pI s2.2), some (pI (w32 (s6.1 + t11))), some (pI s6.2), some (pI 0), some (pI (w32 (s13.2 + 1)))]) dX11_settle_135 (by decide) rfl rfl ?_
                  refine v_goto (tgt := 76) dX11_settle_138 (by decide) ?_
                  exact hrec12 (0, w32 (s13.2 + 1))
          · refine v_iconst dX11_settle_128 (by decide) ?_
            refine v_goto (tgt := 133) dX11_settle_129 (by decide) ?_
            refine v_istore (ls' := [some (pA a0), some (pI s2.1), some (pI s2.2), some (pI (w32 (s6.1 + t11))), some (pI s6.2), some (pI 1), some (pI s13.2)]) dX11_settle_133 (by decide) rfl ?_
            refine v_iinc (ls' := [some (pA a0), some (pI s2.1), some (pI s2.2), some (pI (w32 (s6.1 + t11))), some (pI s6.2), some (pI 1), some (pI (w32 (s13.2 + 1)))]) dX11_settle_135 (by decide) rfl rfl ?_
            refine v_goto (tgt := 76) dX11_settle_138 (by decide) ?_
            exact hrec12 (1, w32 (s13.2 + 1))
        · refine v_iload_n dX11_settle_141 rfl ?_
          refine v_aload_n dX11_settle_142 rfl ?_
          refine v_iload dX11_settle_143 rfl ?_
          refine v_cV (mi := mX11_settle) (c0 := 0) (c1 := 0) (As := [pI s6.2]) (st := [pI (w32 (s6.1 + t11))]) (kX11_isFree d (by omega) _ _ _) rfl h3 rfl okX11_isFree (Or.inl tw1590) tw1592 tp71 rfl (Nat.le_of_ble_eq_true rfl) dX11_settle_145 (fun r28 => [pI r28, pI (w32 (s6.1 + t11))]) (fun r28 => M) (fun _ => rfl) (fun _ => rfl) (fun r28 h29 => ?_) rfl
          refine v_if_eq (tgt := 175) dX11_settle_148 (by decide) (fun c30 => ?_) (fun c30 => ?_)
          · refine v_iconst dX11_settle_175 (by decide) ?_
            refine v_iadd dX11_settle_176 ?_
            refine v_istore_n (ls' := [some (pA a0), some (pI s2.1), some (pI s2.2), some (pI (w32 ((w32 (s6.1 + t11)) + 0))), some (pI s6.2), some (pI s13.1), some (pI s13.2)]) dX11_settle_177 (by decide) rfl ?_
            refine v_iinc (ls' := [some (pA a0), some (pI s2.1), some (pI s2.2), some (pI (w32 ((w32 (s6.1 + t11)) + 0))), some (pI (w32 (s6.2 + 1))), some (pI s13.1), some (pI s13.2)]) dX11_settle_178 (by decide) rfl rfl ?_
            refine v_goto (tgt := 21) dX11_settle_181 (by decide) ?_
            exact v_drop [some (pA a0), some (pI s2.1), some (pI s2.2), some (pI (w32 ((w32 (s6.1 + t11)) + 0))), some (pI (w32 (s6.2 + 1))), none, none] (ls_s (ls_s (ls_s (ls_s (ls_s (ls_n (ls_n ls_e))))))) (hrec5 (w32 ((w32 (s6.1 + t11)) + 0), w32 (s6.2 + 1)))
          · refine v_aload_n dX11_settle_151 rfl ?_
            refine v_iload dX11_settle_152 rfl ?_
            refine v_cV (mi := mX11_settle) (c0 := 0) (c1 := 0) (As := [pI s6.2]) (st := [pI (w32 (s6.1 + t11))]) (kX11_owes d (by omega) _ _ _) rfl h3 rfl okX11_owes (Or.inl tw1609) tw1611 tp75 rfl (Nat.le_of_ble_eq_true rfl) dX11_settle_154 (fun r31 => [pI r31, pI (w32 (s6.1 + t11))]) (fun r31 => M) (fun _ => rfl) (fun _ => rfl) (fun r31 h32 => ?_) rfl
            refine v_if_ge (tgt := 175) dX11_settle_157 (by decide) (fun c33 => ?_) (fun c33 => ?_)
            · refine v_iload dX11_settle_160 rfl ?_
              refine v_if_eq (tgt := 175) dX11_settle_162 (by decide) (fun c34 => ?_) (fun c34 => ?_)
              · refine v_iconst dX11_settle_175 (by decide) ?_
                refine v_iadd dX11_settle_176 ?_
                refine v_istore_n (ls' := [some (pA a0), some (pI s2.1), some (pI s2.2), some (pI (w32 ((w32 (s6.1 + t11)) + 0))), some (pI s6.2), some (pI s13.1), some (pI s13.2)]) dX11_settle_177 (by decide) rfl ?_
                refine v_iinc (ls' := [some (pA a0), some (pI s2.1), some (pI s2.2), some (pI (w32 ((w32 (s6.1 + t11)) + 0))), some (pI (w32 (s6.2 + 1))), some (pI s13.1), some (pI s13.2)]) dX11_settle_178 (by decide) rfl rfl ?_
                refine v_goto (tgt := 21) dX11_settle_181 (by decide) ?_
                exact v_drop [some (pA a0), some (pI s2.1), some (pI s2.2), some (pI (w32 ((w32 (s6.1 + t11)) + 0))), some (pI (w32 (s6.2 + 1))), none, none] (ls_s (ls_s (ls_s (ls_s (ls_s (ls_n (ls_n ls_e))))))) (hrec5 (w32 ((w32 (s6.1 + t11)) + 0), w32 (s6.2 + 1)))
              · refine v_aload_n dX11_settle_165 rfl ?_
                refine v_iload dX11_settle_166 rfl ?_
                refine v_cV (mi := mX11_settle) (c0 := 0) (c1 := 0) (As := [pI s6.2]) (st := [pI (w32 (s6.1 + t11))]) (kX11_owes d (by omega) _ _ _) rfl h3 rfl okX11_owes (Or.inl tw1609) tw1611 tp75 rfl (Nat.le_of_ble_eq_true rfl) dX11_settle_168 (fun r35 => [pI r35, pI (w32 (s6.1 + t11))]) (fun r35 => M) (fun _ => rfl) (fun _ => rfl) (fun r35 h36 => ?_) rfl
                refine v_ineg dX11_settle_171 ?_
                refine v_goto (tgt := 176) dX11_settle_172 (by decide) ?_
                refine v_iadd dX11_settle_176 ?_
                refine v_istore_n (ls' := [some (pA a0), some (pI s2.1), some (pI s2.2), some (pI (w32 ((w32 (s6.1 + t11)) + (w32 (-r35))))), some (pI s6.2), some (pI s13.1), some (pI s13.2)]) dX11_settle_177 (by decide) rfl ?_
                refine v_iinc (ls' := [some (pA a0), some (pI s2.1), some (pI s2.2), some (pI (w32 ((w32 (s6.1 + t11)) + (w32 (-r35))))), some (pI (w32 (s6.2 + 1))), some (pI s13.1), some (pI s13.2)]) dX11_settle_178 (by decide) rfl rfl ?_
                refine v_goto (tgt := 21) dX11_settle_181 (by decide) ?_
                exact v_drop [some (pA a0), some (pI s2.1), some (pI s2.2), some (pI (w32 ((w32 (s6.1 + t11)) + (w32 (-r35))))), some (pI (w32 (s6.2 + 1))), none, none] (ls_s (ls_s (ls_s (ls_s (ls_s (ls_n (ls_n ls_e))))))) (hrec5 (w32 ((w32 (s6.1 + t11)) + (w32 (-r35))), w32 (s6.2 + 1)))
            · refine v_iconst dX11_settle_175 (by decide) ?_
              refine v_iadd dX11_settle_176 ?_
              refine v_istore_n (ls' := [some (pA a0), some (pI s2.1), some (pI s2.2), some (pI (w32 ((w32 (s6.1 + t11)) + 0))), some (pI s6.2), some (pI s13.1), some (pI s13.2)]) dX11_settle_177 (by decide) rfl ?_
              refine v_iinc (ls' := [some (pA a0), some (pI s2.1), some (pI s2.2), some (pI (w32 ((w32 (s6.1 + t11)) + 0))), some (pI (w32 (s6.2 + 1))), some (pI s13.1), some (pI s13.2)]) dX11_settle_178 (by decide) rfl rfl ?_
              refine v_goto (tgt := 21) dX11_settle_181 (by decide) ?_
              exact v_drop [some (pA a0), some (pI s2.1), some (pI s2.2), some (pI (w32 ((w32 (s6.1 + t11)) + 0))), some (pI (w32 (s6.2 + 1))), none, none] (ls_s (ls_s (ls_s (ls_s (ls_s (ls_n (ls_n ls_e))))))) (hrec5 (w32 ((w32 (s6.1 + t11)) + 0), w32 (s6.2 + 1)))
      · refine v_join (fun (t38 : Unit) => [some (pA a0), some (pI s2.1), some (pI s2.2), none, some (pI s6.2), none, none]) (fun (t38 : Unit) => [pI s6.1]) (fun (t38 : Unit) => M) 67 (fun t38 => ?_) (fun j37 hj37 => ?_)
        · refine v_iconst dX11_settle_67 (by decide) ?_
          exact hj10 0
        · refine v_if_eq (tgt := 67) dX11_settle_37 (by decide) (fun c39 => ?_) (fun c39 => ?_)
          · exact v_drop [some (pA a0), some (pI s2.1), some (pI s2.2), none, some (pI s6.2), none, none] (ls_s (ls_s (ls_s (ls_n (ls_s (ls_n (ls_n ls_e))))))) (hj37 ())
          · refine v_aload_n dX11_settle_40 rfl ?_
            refine v_iload dX11_settle_41 rfl ?_
            refine v_cV (mi := mX11_settle) (c0 := 0) (c1 := 0) (As := [pI s6.2]) (st := [pI s6.1]) (kX11_owes d (by omega) _ _ _) rfl h3 rfl okX11_owes (Or.inl tw1609) tw1611 tp75 rfl (Nat.le_of_ble_eq_true rfl) dX11_settle_43 (fun r40 => [pI r40, pI s6.1]) (fun r40 => M) (fun _ => rfl) (fun _ => rfl) (fun r40 h41 => ?_) rfl
            refine v_if_le (tgt := 67) dX11_settle_46 (by decide) (fun c42 => ?_) (fun c42 => ?_)
            · refine v_iload_n dX11_settle_49 rfl ?_
              refine v_iload dX11_settle_50 rfl ?_
              refine v_cS (mi := mX11_settle) (c0 := 0) (c1 := 0) (As := [pI s2.2, pI s6.2]) (st := [pI s6.1]) (kX11_has d (by omega) _ _ _) okX11_has (Or.inl tw1547) tw1548 rfl (Nat.le_of_ble_eq_true rfl) dX11_settle_52 (fun r43 => [pI r43, pI s6.1]) (fun r43 => M) (fun _ => rfl) (fun _ => rfl) (fun r43 h44 => ?_) rfl
              refine v_if_ne (tgt := 67) dX11_settle_55 (by decide) (fun c45 => ?_) (fun c45 => ?_)
              · refine v_aload_n dX11_settle_58 rfl ?_
                refine v_iload dX11_settle_59 rfl ?_
                refine v_cV (mi := mX11_settle) (c0 := 0) (c1 := 0) (As := [pI s6.2]) (st := [pI s6.1]) (kX11_owes d (by omega) _ _ _) rfl h3 rfl okX11_owes (Or.inl tw1609) tw1611 tp75 rfl (Nat.le_of_ble_eq_true rfl) dX11_settle_61 (fun r46 => [pI r46, pI s6.1]) (fun r46 => M) (fun _ => rfl) (fun _ => rfl) (fun r46 h47 => ?_) rfl
                refine v_goto (tgt := 68) dX11_settle_64 (by decide) ?_
                exact v_drop [some (pA a0), some (pI s2.1), some (pI s2.2), none, some (pI s6.2), none, none] (ls_s (ls_s (ls_s (ls_n (ls_s (ls_n (ls_n ls_e))))))) (hj10 r46)
              · exact v_drop [some (pA a0), some (pI s2.1), some (pI s2.2), none, some (pI s6.2), none, none] (ls_s (ls_s (ls_s (ls_n (ls_s (ls_n (ls_n ls_e))))))) (hj37 ())
            · exact v_drop [some (pA a0), some (pI s2.1), some (pI s2.2), none, some (pI s6.2), none, none] (ls_s (ls_s (ls_s (ls_n (ls_s (ls_n (ls_n ls_e))))))) (hj37 ())
    · refine v_iload_n dX11_settle_184 rfl ?_
      refine v_iload_n dX11_settle_185 rfl ?_
      refine v_cS (mi := mX11_settle) (c0 := 0) (c1 := 0) (As := [pI s2.1, pI s6.1]) (st := []) (kX11_lesser d (by omega) _ _ _) okX11_lesser (Or.inl tw1665) tw1666 rfl (Nat.le_of_ble_eq_true rfl) dX11_settle_186 (fun r48 => [pI r48]) (fun r48 => M) (fun _ => rfl) (fun _ => rfl) (fun r48 h49 => ?_) rfl
      refine v_istore_n (ls' := [some (pA a0), some (pI r48), some (pI s2.2), some (pI s6.1), some (pI s6.2), none, none]) dX11_settle_189 (by decide) rfl ?_
      refine v_iinc (ls' := [some (pA a0), some (pI r48), some (pI (w32 (s2.2 + 1))), some (pI s6.1), some (pI s6.2), none, none]) dX11_settle_190 (by decide) rfl rfl ?_
      refine v_goto (tgt := 6) dX11_settle_193 (by decide) ?_
      exact v_drop [some (pA a0), some (pI r48), some (pI (w32 (s2.2 + 1))), none, none, none, none] (ls_s (ls_s (ls_s (ls_n (ls_n (ls_n (ls_n ls_e))))))) (hrec1 (r48, w32 (s2.2 + 1)))
  · refine v_iload_n dX11_settle_196 rfl ?_
    exact v_ireturn dX11_settle_197 rfl rfl
theorem chX11_can_0 : (cX11_can.data.toList.drop 0).take 16 = [3, 61, 3, 62, 29, 8, 162, 0, 113, 3, 54, 4, 3, 54, 5, 21] := by decide +kernel
theorem chX11_can_1 : (cX11_can.data.toList.drop 16).take 16 = [5, 42, 180, 1, 25, 162, 0, 62, 21, 4, 42, 180, 0, 50, 27, 21] := by decide +kernel
theorem chX11_can_2 : (cX11_can.data.toList.drop 32).take 16 = [5, 29, 184, 1, 88, 46, 154, 0, 35, 3, 42, 16, 32, 8, 21, 5] := by decide +kernel
theorem chX11_can_3 : (cX11_can.data.toList.drop 48).take 16 = [104, 96, 29, 96, 182, 1, 21, 42, 180, 0, 44, 8, 21, 5, 104, 29] := by decide +kernel
theorem chX11_can_4 : (cX11_can.data.toList.drop 64).take 16 = [96, 46, 100, 184, 0, 163, 167, 0, 4, 3, 96, 54, 4, 132, 5, 1] := by decide +kernel
theorem chX11_can_5 : (cX11_can.data.toList.drop 80).take 16 = [167, 255, 191, 28, 42, 27, 182, 1, 85, 153, 0, 21, 21, 4, 42, 180] := by decide +kernel
theorem chX11_can_6 : (cX11_can.data.toList.drop 96).take 16 = [0, 47, 8, 27, 104, 29, 96, 46, 184, 1, 143, 167, 0, 4, 3, 96] := by decide +kernel
theorem chX11_can_7 : (cX11_can.data.toList.drop 112).take 16 = [61, 132, 3, 1, 167, 255, 144, 28, 172] := by decide +kernel
theorem dX11_can_0 : decode cX11_can 0 = .ok (.iconst 0, 1) := oq_3 (byt chX11_can_0 0 rfl)
theorem dX11_can_1 : decode cX11_can 1 = .ok (.istore_n 2, 1) := oq_61 (byt chX11_can_0 1 rfl)
theorem dX11_can_2 : decode cX11_can 2 = .ok (.iconst 0, 1) := oq_3 (byt chX11_can_0 2 rfl)
theorem dX11_can_3 : decode cX11_can 3 = .ok (.istore_n 3, 1) := oq_62 (byt chX11_can_0 3 rfl)
theorem dX11_can_4 : decode cX11_can 4 = .ok (.iload_n 3, 1) := oq_29 (byt chX11_can_0 4 rfl)
theorem dX11_can_5 : decode cX11_can 5 = .ok (.iconst 5, 1) := oq_8 (byt chX11_can_0 5 rfl)
theorem dX11_can_6 : decode cX11_can 6 = .ok (.if_icmp .ge 113, 3) := oq_162 (byt chX11_can_0 6 rfl) (byt chX11_can_0 7 rfl) (byt chX11_can_0 8 rfl) (by decide +kernel)
theorem dX11_can_9 : decode cX11_can 9 = .ok (.iconst 0, 1) := oq_3 (byt chX11_can_0 9 rfl)
theorem dX11_can_10 : decode cX11_can 10 = .ok (.istore 4, 2) := oq_54 (byt chX11_can_0 10 rfl) (byt chX11_can_0 11 rfl) rfl
theorem dX11_can_12 : decode cX11_can 12 = .ok (.iconst 0, 1) := oq_3 (byt chX11_can_0 12 rfl)
theorem dX11_can_13 : decode cX11_can 13 = .ok (.istore 5, 2) := oq_54 (byt chX11_can_0 13 rfl) (byt chX11_can_0 14 rfl) rfl
theorem dX11_can_15 : decode cX11_can 15 = .ok (.iload 5, 2) := oq_21 (byt chX11_can_0 15 rfl) (byt chX11_can_1 0 rfl) rfl
theorem dX11_can_17 : decode cX11_can 17 = .ok (.aload_n 0, 1) := oq_42 (byt chX11_can_1 1 rfl)
theorem dX11_can_18 : decode cX11_can 18 = .ok (.getfield 281, 3) := oq_180 (byt chX11_can_1 2 rfl) (byt chX11_can_1 3 rfl) (byt chX11_can_1 4 rfl) rfl
theorem dX11_can_21 : decode cX11_can 21 = .ok (.if_icmp .ge 62, 3) := oq_162 (byt chX11_can_1 5 rfl) (byt chX11_can_1 6 rfl) (byt chX11_can_1 7 rfl) (by decide +kernel)
theorem dX11_can_24 : decode cX11_can 24 = .ok (.iload 4, 2) := oq_21 (byt chX11_can_1 8 rfl) (byt chX11_can_1 9 rfl) rfl
theorem dX11_can_26 : decode cX11_can 26 = .ok (.aload_n 0, 1) := oq_42 (byt chX11_can_1 10 rfl)
theorem dX11_can_27 : decode cX11_can 27 = .ok (.getfield 50, 3) := oq_180 (byt chX11_can_1 11 rfl) (byt chX11_can_1 12 rfl) (byt chX11_can_1 13 rfl) rfl
theorem dX11_can_30 : decode cX11_can 30 = .ok (.iload_n 1, 1) := oq_27 (byt chX11_can_1 14 rfl)
theorem dX11_can_31 : decode cX11_can 31 = .ok (.iload 5, 2) := oq_21 (byt chX11_can_1 15 rfl) (byt chX11_can_2 0 rfl) rfl
theorem dX11_can_33 : decode cX11_can 33 = .ok (.iload_n 3, 1) := oq_29 (byt chX11_can_2 1 rfl)
theorem dX11_can_34 : decode cX11_can 34 = .ok (.invokestatic 344, 3) := oq_184 (byt chX11_can_2 2 rfl) (byt chX11_can_2 3 rfl) (byt chX11_can_2 4 rfl) rfl
theorem dX11_can_37 : decode cX11_can 37 = .ok (.iaload, 1) := oq_46 (byt chX11_can_2 5 rfl)
theorem dX11_can_38 : decode cX11_can 38 = .ok (.ifCond .ne 35, 3) := oq_154 (byt chX11_can_2 6 rfl) (byt chX11_can_2 7 rfl) (byt chX11_can_2 8 rfl) (by decide +kernel)
theorem dX11_can_41 : decode cX11_can 41 = .ok (.iconst 0, 1) := oq_3 (byt chX11_can_2 9 rfl)
theorem dX11_can_42 : decode cX11_can 42 = .ok (.aload_n 0, 1) := oq_42 (byt chX11_can_2 10 rfl)
theorem dX11_can_43 : decode cX11_can 43 = .ok (.bipush 32, 2) := oq_16 (byt chX11_can_2 11 rfl) (byt chX11_can_2 12 rfl) rfl
theorem dX11_can_45 : decode cX11_can 45 = .ok (.iconst 5, 1) := oq_8 (byt chX11_can_2 13 rfl)
theorem dX11_can_46 : decode cX11_can 46 = .ok (.iload 5, 2) := oq_21 (byt chX11_can_2 14 rfl) (byt chX11_can_2 15 rfl) rfl
theorem dX11_can_48 : decode cX11_can 48 = .ok (.imul, 1) := oq_104 (byt chX11_can_3 0 rfl)
theorem dX11_can_49 : decode cX11_can 49 = .ok (.iadd, 1) := oq_96 (byt chX11_can_3 1 rfl)
theorem dX11_can_50 : decode cX11_can 50 = .ok (.iload_n 3, 1) := oq_29 (byt chX11_can_3 2 rfl)
theorem dX11_can_51 : decode cX11_can 51 = .ok (.iadd, 1) := oq_96 (byt chX11_can_3 3 rfl)
theorem dX11_can_52 : decode cX11_can 52 = .ok (.invokevirtual 277, 3) := oq_182 (byt chX11_can_3 4 rfl) (byt chX11_can_3 5 rfl) (byt chX11_can_3 6 rfl) rfl
theorem dX11_can_55 : decode cX11_can 55 = .ok (.aload_n 0, 1) := oq_42 (byt chX11_can_3 7 rfl)
theorem dX11_can_56 : decode cX11_can 56 = .ok (.getfield 44, 3) := oq_180 (byt chX11_can_3 8 rfl) (byt chX11_can_3 9 rfl) (byt chX11_can_3 10 rfl) rfl
theorem dX11_can_59 : decode cX11_can 59 = .ok (.iconst 5, 1) := oq_8 (byt chX11_can_3 11 rfl)
theorem dX11_can_60 : decode cX11_can 60 = .ok (.iload 5, 2) := oq_21 (byt chX11_can_3 12 rfl) (byt chX11_can_3 13 rfl) rfl
theorem dX11_can_62 : decode cX11_can 62 = .ok (.imul, 1) := oq_104 (byt chX11_can_3 14 rfl)
theorem dX11_can_63 : decode cX11_can 63 = .ok (.iload_n 3, 1) := oq_29 (byt chX11_can_3 15 rfl)
theorem dX11_can_64 : decode cX11_can 64 = .ok (.iadd, 1) := oq_96 (byt chX11_can_4 0 rfl)
theorem dX11_can_65 : decode cX11_can 65 = .ok (.iaload, 1) := oq_46 (byt chX11_can_4 1 rfl)
theorem dX11_can_66 : decode cX11_can 66 = .ok (.isub, 1) := oq_100 (byt chX11_can_4 2 rfl)
theorem dX11_can_67 : decode cX11_can 67 = .ok (.invokestatic 163, 3) := oq_184 (byt chX11_can_4 3 rfl) (byt chX11_can_4 4 rfl) (byt chX11_can_4 5 rfl) rfl
theorem dX11_can_70 : decode cX11_can 70 = .ok (.goto 4, 3) := oq_167 (byt chX11_can_4 6 rfl) (byt chX11_can_4 7 rfl) (byt chX11_can_4 8 rfl) (by decide +kernel)
theorem dX11_can_73 : decode cX11_can 73 = .ok (.iconst 0, 1) := oq_3 (byt chX11_can_4 9 rfl)
theorem dX11_can_74 : decode cX11_can 74 = .ok (.iadd, 1) := oq_96 (byt chX11_can_4 10 rfl)
theorem dX11_can_75 : decode cX11_can 75 = .ok (.istore 4, 2) := oq_54 (byt chX11_can_4 11 rfl) (byt chX11_can_4 12 rfl) rfl
theorem dX11_can_77 : decode cX11_can 77 = .ok (.iinc 5 1, 3) := oq_132 (byt chX11_can_4 13 rfl) (byt chX11_can_4 14 rfl) (byt chX11_can_4 15 rfl) rfl
theorem dX11_can_80 : decode cX11_can 80 = .ok (.goto (-65), 3) := oq_167 (byt chX11_can_5 0 rfl) (byt chX11_can_5 1 rfl) (byt chX11_can_5 2 rfl) (by decide +kernel)
theorem dX11_can_83 : decode cX11_can 83 = .ok (.iload_n 2, 1) := oq_28 (byt chX11_can_5 3 rfl)
theorem dX11_can_84 : decode cX11_can 84 = .ok (.aload_n 0, 1) := oq_42 (byt chX11_can_5 4 rfl)
theorem dX11_can_85 : decode cX11_can 85 = .ok (.iload_n 1, 1) := oq_27 (byt chX11_can_5 5 rfl)
theorem dX11_can_86 : decode cX11_can 86 = .ok (.invokevirtual 341, 3) := oq_182 (byt chX11_can_5 6 rfl) (byt chX11_can_5 7 rfl) (byt chX11_can_5 8 rfl) rfl
theorem dX11_can_89 : decode cX11_can 89 = .ok (.ifCond .eq 21, 3) := oq_153 (byt chX11_can_5 9 rfl) (byt chX11_can_5 10 rfl) (byt chX11_can_5 11 rfl) (by decide +kernel)
theorem dX11_can_92 : decode cX11_can 92 = .ok (.iload 4, 2) := oq_21 (byt chX11_can_5 12 rfl) (byt chX11_can_5 13 rfl) rfl
theorem dX11_can_94 : decode cX11_can 94 = .ok (.aload_n 0, 1) := oq_42 (byt chX11_can_5 14 rfl)
theorem dX11_can_95 : decode cX11_can 95 = .ok (.getfield 47, 3) := oq_180 (byt chX11_can_5 15 rfl) (byt chX11_can_6 0 rfl) (byt chX11_can_6 1 rfl) rfl
theorem dX11_can_98 : decode cX11_can 98 = .ok (.iconst 5, 1) := oq_8 (byt chX11_can_6 2 rfl)
theorem dX11_can_99 : decode cX11_can 99 = .ok (.iload_n 1, 1) := oq_27 (byt chX11_can_6 3 rfl)
theorem dX11_can_100 : decode cX11_can 100 = .ok (.imul, 1) := oq_104 (byt chX11_can_6 4 rfl)
theorem dX11_can_101 : decode cX11_can 101 = .ok (.iload_n 3, 1) := oq_29 (byt chX11_can_6 5 rfl)
theorem dX11_can_102 : decode cX11_can 102 = .ok (.iadd, 1) := oq_96 (byt chX11_can_6 6 rfl)
theorem dX11_can_103 : decode cX11_can 103 = .ok (.iaload, 1) := oq_46 (byt chX11_can_6 7 rfl)
theorem dX11_can_104 : decode cX11_can 104 = .ok (.invokestatic 399, 3) := oq_184 (byt chX11_can_6 8 rfl) (byt chX11_can_6 9 rfl) (byt chX11_can_6 10 rfl) rfl
theorem dX11_can_107 : decode cX11_can 107 = .ok (.goto 4, 3) := oq_167 (byt chX11_can_6 11 rfl) (byt chX11_can_6 12 rfl) (byt chX11_can_6 13 rfl) (by decide +kernel)
theorem dX11_can_110 : decode cX11_can 110 = .ok (.iconst 0, 1) := oq_3 (byt chX11_can_6 14 rfl)
theorem dX11_can_111 : decode cX11_can 111 = .ok (.iadd, 1) := oq_96 (byt chX11_can_6 15 rfl)
theorem dX11_can_112 : decode cX11_can 112 = .ok (.istore_n 2, 1) := oq_61 (byt chX11_can_7 0 rfl)
theorem dX11_can_113 : decode cX11_can 113 = .ok (.iinc 3 1, 3) := oq_132 (byt chX11_can_7 1 rfl) (byt chX11_can_7 2 rfl) (byt chX11_can_7 3 rfl) rfl
theorem dX11_can_116 : decode cX11_can 116 = .ok (.goto (-112), 3) := oq_167 (byt chX11_can_7 4 rfl) (byt chX11_can_7 5 rfl) (byt chX11_can_7 6 rfl) (by decide +kernel)
theorem dX11_can_119 : decode cX11_can 119 = .ok (.iload_n 2, 1) := oq_28 (byt chX11_can_7 7 rfl)
theorem dX11_can_120 : decode cX11_can 120 = .ok (.ireturn, 1) := oq_172 (byt chX11_can_7 8 rfl)
abbrev mX11_can : MI := (yX11_can, cX11_can, 6, (some .int), noE)
theorem okX11_can : cok mX11_can 1 := ⟨tw1813, tw11, by decide, by decide, by decide, by decide +kernel⟩
def fX11_can (M : Mem) (a0 a1 : Int) : Option Int :=
  iterC (fun (rec1 : (Int × Int) → Option Int) (s2 : Int × Int) => if s2.2 < 5 then (iterC (fun (rec4 : (Int × Int) → Option Int) (s5 : Int × Int) => if M.2.1 a0 = 10 then if s5.2 < M.1 a0 25 then ((fX11_place M a1 s5.2 s2.2).bind fun r8 => if M.2.1 (M.1 a0 31) = 12 ∧ (0 : Int) ≤ r8 ∧ r8 < M.2.2.1 (M.1 a0 31) then if M.1 (M.1 a0 31) r8 = 0 then ((fX11_of M a0 (w32 ((w32 (32 + (w32 (5 * s5.2)))) + s2.2))).bind fun r12 => if M.2.1 (M.1 a0 29) = 12 ∧ (0 : Int) ≤ (w32 ((w32 (5 * s5.2)) + s2.2)) ∧ (w32 ((w32 (5 * s5.2)) + s2.2)) < M.2.2.1 (M.1 a0 29) then (fX11_greater M 0 (w32 (r12 - (M.1 (M.1 a0 29) (w32 ((w32 (5 * s5.2)) + s2.2)))))).bind fun r15 => rec4 (w32 (s5.1 + r15), w32 (s5.2 + 1)) else none) else (rec4 (w32 (s5.1 + 0), w32 (s5.2 + 1))) else none) else ((fX11_isFree M a0 a1).bind fun r17 => if r17 = 0 then (rec1 (w32 (s2.1 + 0), w32 (s2.2 + 1))) else (if M.2.1 (M.1 a0 30) = 12 ∧ (0 : Int) ≤ (w32 ((w32 (5 * a1)) + s2.2)) ∧ (w32 ((w32 (5 * a1)) + s2.2)) < M.2.2.1 (M.1 a0 30) then (fX11_lesser M s5.1 (M.1 (M.1 a0 30) (w32 ((w32 (5 * a1)) + s2.2)))).bind fun r21 => rec1 (w32 (s2.1 + r21), w32 (s2.2 + 1)) else none)) else none) BIG (0, 0)) else (some s2.1)) BIG (0, 0)
set_option maxRecDepth 100000 in
set_option maxHeartbeats 4000000 in
theorem kX11_can (d : Nat) (hd : 3 ≤ d) (M : Mem) (a0 a1 : Int) : Ct mX11_can d 0 0 [pA a0, pI a1] M (dI M) (fX11_can M a0 a1) := by
  obtain ⟨d, rfl⟩ : ∃ k, d = k + 1 := ⟨d - 1, by omega⟩
  refine Ct.of 4 (fun _ _ _ => trivial) (by decide +kernel) rfl ?_
  unfold fX11_can
  refine v_iconst dX11_can_0 (by decide) ?_
  refine v_istore_n (ls' := [some (pA a0), some (pI a1), some (pI 0), none, none, none]) dX11_can_1 (by decide) rfl ?_
  refine v_iconst dX11_can_2 (by decide) ?_
  refine v_istore_n (ls' := [some (pA a0), some (pI a1), some (pI 0), some (pI 0), none, none]) dX11_can_3 (by decide) rfl ?_
  refine v_loop (fun (s2 : Int × Int) => [some (pA a0), some (pI a1), some (pI s2.1), some (pI s2.2), none, none]) (fun (s2 : Int × Int) => M) (s0 := (0, 0)) ?_
  intro rec1 hrec1 s2
  refine v_iload_n dX11_can_4 rfl ?_
  refine v_iconst dX11_can_5 (by decide) ?_
  refine v_icmp_ge (tgt := 119) dX11_can_6 (by decide) (fun c3 => ?_) (fun c3 => ?_)
  · refine v_iconst dX11_can_9 (by decide) ?_
    refine v_istore (ls' := [some (pA a0), some (pI a1), some (pI s2.1), some (pI s2.2), some (pI 0), none]) dX11_can_10 (by decide) rfl ?_
    refine v_iconst dX11_can_12 (by decide) ?_
    refine v_istore (ls' := [some (pA a0), some (pI a1), some (pI s2.1), some (pI s2.2), some (pI 0), some (pI 0)]) dX11_can_13 (by decide) rfl ?_
    refine v_loop (fun (s5 : Int × Int) => [some (pA a0), some (pI a1), some (pI s2.1), some (pI s2.2), some (pI s5.1), some (pI s5.2)]) (fun (s5 : Int × Int) => M) (s0 := (0, 0)) ?_
    intro rec4 hrec4 s5
    refine v_iload dX11_can_15 rfl ?_
    refine v_aload_n dX11_can_17 rfl ?_
    refine v_if (fun h6 => ?_)
    refine v_get (v := pI (M.1 a0 25)) 10 25 rfl inX11 (by decide) tw1218 dX11_can_18 h6 rfl ?_
    refine v_icmp_ge (tgt := 83) dX11_can_21 (by decide) (fun c7 => ?_) (fun c7 => ?_)
    · refine v_iload dX11_can_24 rfl ?_
      refine v_aload_n dX11_can_26 rfl ?_
      refine v_get (v := pA (M.1 a0 31)) 10 31 rfl inX11 (by decide) tw1224 dX11_can_27 h6 rfl ?_
      refine v_iload_n dX11_can_30 rfl ?_
      refine v_iload dX11_can_31 rfl ?_
      refine v_iload_n dX11_can_33 rfl ?_
      refine v_cS (mi := mX11_can) (c0 := 0) (c1 := 0) (As := [pI a1, pI s5.2, pI s2.2]) (st := [pA (M.1 a0 31), pI s5.1]) (kX11_place d (by omega) _ _ _ _) okX11_place (Or.inl tw1594) tw1595 rfl (Nat.le_of_ble_eq_true rfl) dX11_can_34 (fun r8 => [pI r8, pA (M.1 a0 31), pI s5.1]) (fun r8 => M) (fun _ => rfl) (fun _ => rfl) (fun r8 h9 => ?_) rfl
      refine v_if (fun h10 => ?_)
      refine v_iaload h10 dX11_can_37 ?_
      refine v_if_ne (tgt := 73) dX11_can_38 (by decide) (fun c11 => ?_) (fun c11 => ?_)
      · refine v_iconst dX11_can_41 (by decide) ?_
        refine v_aload_n dX11_can_42 rfl ?_
        refine v_bipush dX11_can_43 (by decide) ?_
        refine v_iconst dX11_can_45 (by decide) ?_
        refine v_iload dX11_can_46 rfl ?_
        refine v_imul dX11_can_48 ?_
        refine v_iadd dX11_can_49 ?_
        refine v_iload_n dX11_can_50 rfl ?_
        refine v_iadd dX11_can_51 ?_
        refine v_cV (mi := mX11_can) (c0 := 0) (c1 := 0) (As := [pI (w32 ((w32 (32 + (w32 (5 * s5.2)))) + s2.2))]) (st := [pI 0, pI s5.1]) (kX11_of d (by omega) _ _ _) rfl h6 rfl okX11_of (Or.inl tw1504) tw1506 tp55 rfl (Nat.le_of_ble_eq_true rfl) dX11_can_52 (fun r12 => [pI r12, pI 0, pI s5.1]) (fun r12 => M) (fun _ => rfl) (fun _ => rfl) (fun r12 h13 => ?_) rfl
        refine v_aload_n dX11_can_55 rfl ?_
        refine v_get (v := pA (M.1 a0 29)) 10 29 rfl inX11 (by decide) tw1222 dX11_can_56 h6 rfl ?_
        refine v_iconst dX11_can_59 (by decide) ?_
        refine v_iload dX11_can_60 rfl ?_
        refine v_imul dX11_can_62 ?_
        refine v_iload_n dX11_can_63 rfl ?_
        refine v_iadd dX11_can_64 ?_
        refine v_if (fun h14 => ?_)
        refine v_iaload h14 dX11_can_65 ?_
        refine v_isub dX11_can_66 ?_
        refine v_cS (mi := mX11_can) (c0 := 0) (c1 := 0) (As := [pI 0, pI (w32 (r12 - (M.1 (M.1 a0 29) (w32 ((w32 (5 * s5.2)) + s2.2)))))]) (st := [pI s5.1]) (kX11_greater d (by omega) _ _ _) okX11_greater (Or.inl tw1440) tw1441 rfl (Nat.le_of_ble_eq_true rfl) dX11_can_67 (fun r15 => [pI r15, pI s5.1]) (fun r15 => M) (fun _ => rfl) (fun _ => rfl) (fun r15 h16 => ?_) rfl
        refine v_goto (tgt := 74) dX11_can_70 (by decide) ?_
        refine v_iadd dX11_can_74 ?_
        refine v_istore (ls' := [some (pA a0), some (pI a1), some (pI s2.1), some (pI s2.2), some (pI (w32 (s5.1 + r15))), some (pI s5.2)]) dX11_can_75 (by decide) rfl ?_
        refine v_iinc (ls' := [some (pA a0), some (pI a1), some (pI s2.1), some (pI s2.2), some (pI (w32 (s5.1 + r15))), some (pI (w32 (s5.2 + 1)))]) dX11_can_77 (by decide) rfl rfl ?_
        refine v_goto (tgt := 15) dX11_can_80 (by decide) ?_
        exact hrec4 (w32 (s5.1 + r15), w32 (s5.2 + 1))
      · refine v_iconst dX11_can_73 (by decide) ?_
        refine v_iadd dX11_can_74 ?_
        refine v_istore (ls' := [some (pA a0), some (pI a1), some (pI s2.1), some (pI s2.2), some (pI (w32 (s5.1 + 0))), some (pI s5.2)]) dX11_can_75 (by decide) rfl ?_
        refine v_iinc (ls' := [some (pA a0), some (pI a1), some (pI s2.1), some (pI s2.2), some (pI (w32 (s5.1 + 0))), some (pI (w32 (s5.2 + 1)))]) dX11_can_77 (by decide) rfl rfl ?_
        refine v_goto (tgt := 15) dX11_can_80 (by decide) ?_
        exact hrec4 (w32 (s5.1 + 0), w32 (s5.2 + 1))
    · refine v_iload_n dX11_can_83 rfl ?_
      refine v_aload_n dX11_can_84 rfl ?_
      refine v_iload_n dX11_can_85 rfl ?_
      refine v_cV (mi := mX11_can) (c0 := 0) (c1 := 0) (As := [pI a1]) (st := [pI s2.1]) (kX11_isFree d (by omega) _ _ _) rfl h6 rfl okX11_isFree (Or.inl tw1590) tw1592 tp71 rfl (Nat.le_of_ble_eq_true rfl) dX11_can_86 (fun r17 => [pI r17, pI s2.1]) (fun r17 => M) (fun _ => rfl) (fun _ => rfl) (fun r17 h18 => ?_) rfl
      refine v_if_eq (tgt := 110) dX11_can_89 (by decide) (fun c19 => ?_) (fun c19 => ?_)
      · refine v_iconst dX11_can_110 (by decide) ?_
        refine v_iadd dX11_can_111 ?_
        refine v_istore_n (ls' := [some (pA a0), some (pI a1), some (pI (w32 (s2.1 + 0))), some (pI s2.2), some (pI s5.1), some (pI s5.2)]) dX11_can_112 (by decide) rfl ?_
        refine v_iinc (ls' := [some (pA a0), some (pI a1), some (pI (w32 (s2.1 + 0))), some (pI (w32 (s2.2 + 1))), some (pI s5.1), some (pI s5.2)]) dX11_can_113 (by decide) rfl rfl ?_
        refine v_goto (tgt := 4) dX11_can_116 (by decide) ?_
        exact v_drop [some (pA a0), some (pI a1), some (pI (w32 (s2.1 + 0))), some (pI (w32 (s2.2 + 1))), none, none] (ls_s (ls_s (ls_s (ls_s (ls_n (ls_n ls_e)))))) (hrec1 (w32 (s2.1 + 0), w32 (s2.2 + 1)))
      · refine v_iload dX11_can_92 rfl ?_
        refine v_aload_n dX11_can_94 rfl ?_
        refine v_get (v := pA (M.1 a0 30)) 10 30 rfl inX11 (by decide) tw1223 dX11_can_95 h6 rfl ?_
        refine v_iconst dX11_can_98 (by decide) ?_
        refine v_iload_n dX11_can_99 rfl ?_
        refine v_imul dX11_can_100 ?_
        refine v_iload_n dX11_can_101 rfl ?_
        refine v_iadd dX11_can_102 ?_
        refine v_if (fun h20 => ?_)
        refine v_iaload h20 dX11_can_103 ?_
        refine v_cS (mi := mX11_can) (c0 := 0) (c1 := 0) (As := [pI s5.1, pI (M.1 (M.1 a0 30) (w32 ((w32 (5 * a1)) + s2.2)))]) (st := [pI s2.1]) (kX11_lesser d (by omega) _ _ _) okX11_lesser (Or.inl tw1665) tw1666 rfl (Nat.le_of_ble_eq_true rfl) dX11_can_104 (fun r21 => [pI r21, pI s2.1]) (fun r21 => M) (fun _ => rfl) (fun _ => rfl) (fun r21 h22 => ?_) rfl
        refine v_goto (tgt := 111) dX11_can_107 (by decide) ?_
        refine v_iadd dX11_can_111 ?_
        refine v_istore_n (ls' := [some (pA a0), some (pI a1), some (pI (w32 (s2.1 + r21))), some (pI s2.2), some (pI s5.1), some (pI s5.2)]) dX11_can_112 (by decide) rfl ?_
        refine v_iinc (ls' := [some (pA a0), some (pI a1), some (pI (w32 (s2.1 + r21))), some (pI (w32 (s2.2 + 1))), some (pI s5.1), some (pI s5.2)]) dX11_can_113 (by decide) rfl rfl ?_
        refine v_goto (tgt := 4) dX11_can_116 (by decide) ?_
        exact v_drop [some (pA a0), some (pI a1), some (pI (w32 (s2.1 + r21))), some (pI (w32 (s2.2 + 1))), none, none] (ls_s (ls_s (ls_s (ls_s (ls_n (ls_n ls_e)))))) (hrec1 (w32 (s2.1 + r21), w32 (s2.2 + 1)))
  · refine v_iload_n dX11_can_119 rfl ?_
    exact v_ireturn dX11_can_120 rfl rfl
