theorem chX10_text_0 : (cX10_text.data.toList.drop 0).take 16 = [42, 180, 0, 12, 3, 181, 0, 68, 42, 180, 0, 12, 2, 181, 0, 71] := by decide +kernel
theorem chX10_text_1 : (cX10_text.data.toList.drop 16).take 16 = [42, 180, 0, 12, 180, 0, 60, 62, 42, 180, 0, 12, 3, 181, 0, 60] := by decide +kernel
theorem chX10_text_2 : (cX10_text.data.toList.drop 32).take 16 = [42, 180, 0, 12, 27, 28, 182, 0, 74, 54, 4, 21, 4, 2, 160, 0] := by decide +kernel
theorem chX10_text_3 : (cX10_text.data.toList.drop 48).take 16 = [6, 16, 254, 172, 42, 180, 0, 23, 42, 180, 0, 12, 180, 0, 78, 29] := by decide +kernel
theorem chX10_text_4 : (cX10_text.data.toList.drop 64).take 16 = [27, 182, 0, 82, 42, 180, 0, 12, 42, 180, 0, 23, 180, 0, 86, 181] := by decide +kernel
theorem chX10_text_5 : (cX10_text.data.toList.drop 80).take 16 = [0, 68, 42, 180, 0, 12, 42, 180, 0, 23, 180, 0, 87, 181, 0, 71] := by decide +kernel
theorem chX10_text_6 : (cX10_text.data.toList.drop 96).take 16 = [42, 180, 0, 23, 180, 0, 86, 153, 0, 5, 2, 172, 42, 180, 0, 12] := by decide +kernel
theorem chX10_text_7 : (cX10_text.data.toList.drop 112).take 16 = [42, 180, 0, 23, 27, 21, 4, 182, 0, 88, 21, 4, 172] := by decide +kernel
theorem dX10_text_0 : decode cX10_text 0 = .ok (.aload_n 0, 1) := oq_42 (byt chX10_text_0 0 rfl)
theorem dX10_text_1 : decode cX10_text 1 = .ok (.getfield 12, 3) := oq_180 (byt chX10_text_0 1 rfl) (byt chX10_text_0 2 rfl) (byt chX10_text_0 3 rfl) rfl
theorem dX10_text_4 : decode cX10_text 4 = .ok (.iconst 0, 1) := oq_3 (byt chX10_text_0 4 rfl)
theorem dX10_text_5 : decode cX10_text 5 = .ok (.putfield 68, 3) := oq_181 (byt chX10_text_0 5 rfl) (byt chX10_text_0 6 rfl) (byt chX10_text_0 7 rfl) rfl
theorem dX10_text_8 : decode cX10_text 8 = .ok (.aload_n 0, 1) := oq_42 (byt chX10_text_0 8 rfl)
theorem dX10_text_9 : decode cX10_text 9 = .ok (.getfield 12, 3) := oq_180 (byt chX10_text_0 9 rfl) (byt chX10_text_0 10 rfl) (byt chX10_text_0 11 rfl) rfl
theorem dX10_text_12 : decode cX10_text 12 = .ok (.iconst (-1), 1) := oq_2 (byt chX10_text_0 12 rfl)
theorem dX10_text_13 : decode cX10_text 13 = .ok (.putfield 71, 3) := oq_181 (byt chX10_text_0 13 rfl) (byt chX10_text_0 14 rfl) (byt chX10_text_0 15 rfl) rfl
theorem dX10_text_16 : decode cX10_text 16 = .ok (.aload_n 0, 1) := oq_42 (byt chX10_text_1 0 rfl)
theorem dX10_text_17 : decode cX10_text 17 = .ok (.getfield 12, 3) := oq_180 (byt chX10_text_1 1 rfl) (byt chX10_text_1 2 rfl) (byt chX10_text_1 3 rfl) rfl
theorem dX10_text_20 : decode cX10_text 20 = .ok (.getfield 60, 3) := oq_180 (byt chX10_text_1 4 rfl) (byt chX10_text_1 5 rfl) (byt chX10_text_1 6 rfl) rfl
theorem dX10_text_23 : decode cX10_text 23 = .ok (.istore_n 3, 1) := oq_62 (byt chX10_text_1 7 rfl)
theorem dX10_text_24 : decode cX10_text 24 = .ok (.aload_n 0, 1) := oq_42 (byt chX10_text_1 8 rfl)
theorem dX10_text_25 : decode cX10_text 25 = .ok (.getfield 12, 3) := oq_180 (byt chX10_text_1 9 rfl) (byt chX10_text_1 10 rfl) (byt chX10_text_1 11 rfl) rfl
theorem dX10_text_28 : decode cX10_text 28 = .ok (.iconst 0, 1) := oq_3 (byt chX10_text_1 12 rfl)
theorem dX10_text_29 : decode cX10_text 29 = .ok (.putfield 60, 3) := oq_181 (byt chX10_text_1 13 rfl) (byt chX10_text_1 14 rfl) (byt chX10_text_1 15 rfl) rfl
theorem dX10_text_32 : decode cX10_text 32 = .ok (.aload_n 0, 1) := oq_42 (byt chX10_text_2 0 rfl)
theorem dX10_text_33 : decode cX10_text 33 = .ok (.getfield 12, 3) := oq_180 (byt chX10_text_2 1 rfl) (byt chX10_text_2 2 rfl) (byt chX10_text_2 3 rfl) rfl
theorem dX10_text_36 : decode cX10_text 36 = .ok (.iload_n 1, 1) := oq_27 (byt chX10_text_2 4 rfl)
theorem dX10_text_37 : decode cX10_text 37 = .ok (.iload_n 2, 1) := oq_28 (byt chX10_text_2 5 rfl)
theorem dX10_text_38 : decode cX10_text 38 = .ok (.invokevirtual 74, 3) := oq_182 (byt chX10_text_2 6 rfl) (byt chX10_text_2 7 rfl) (byt chX10_text_2 8 rfl) rfl
theorem dX10_text_41 : decode cX10_text 41 = .ok (.istore 4, 2) := oq_54 (byt chX10_text_2 9 rfl) (byt chX10_text_2 10 rfl) rfl
theorem dX10_text_43 : decode cX10_text 43 = .ok (.iload 4, 2) := oq_21 (byt chX10_text_2 11 rfl) (byt chX10_text_2 12 rfl) rfl
theorem dX10_text_45 : decode cX10_text 45 = .ok (.iconst (-1), 1) := oq_2 (byt chX10_text_2 13 rfl)
theorem dX10_text_46 : decode cX10_text 46 = .ok (.if_icmp .ne 6, 3) := oq_160 (byt chX10_text_2 14 rfl) (byt chX10_text_2 15 rfl) (byt chX10_text_3 0 rfl) (by decide +kernel)
theorem dX10_text_49 : decode cX10_text 49 = .ok (.bipush (-2), 2) := oq_16 (byt chX10_text_3 1 rfl) (byt chX10_text_3 2 rfl) rfl
theorem dX10_text_51 : decode cX10_text 51 = .ok (.ireturn, 1) := oq_172 (byt chX10_text_3 3 rfl)
theorem dX10_text_52 : decode cX10_text 52 = .ok (.aload_n 0, 1) := oq_42 (byt chX10_text_3 4 rfl)
theorem dX10_text_53 : decode cX10_text 53 = .ok (.getfield 23, 3) := oq_180 (byt chX10_text_3 5 rfl) (byt chX10_text_3 6 rfl) (byt chX10_text_3 7 rfl) rfl
theorem dX10_text_56 : decode cX10_text 56 = .ok (.aload_n 0, 1) := oq_42 (byt chX10_text_3 8 rfl)
theorem dX10_text_57 : decode cX10_text 57 = .ok (.getfield 12, 3) := oq_180 (byt chX10_text_3 9 rfl) (byt chX10_text_3 10 rfl) (byt chX10_text_3 11 rfl) rfl
theorem dX10_text_60 : decode cX10_text 60 = .ok (.getfield 78, 3) := oq_180 (byt chX10_text_3 12 rfl) (byt chX10_text_3 13 rfl) (byt chX10_text_3 14 rfl) rfl
theorem dX10_text_63 : decode cX10_text 63 = .ok (.iload_n 3, 1) := oq_29 (byt chX10_text_3 15 rfl)
theorem dX10_text_64 : decode cX10_text 64 = .ok (.iload_n 1, 1) := oq_27 (byt chX10_text_4 0 rfl)
theorem dX10_text_65 : decode cX10_text 65 = .ok (.invokevirtual 82, 3) := oq_182 (byt chX10_text_4 1 rfl) (byt chX10_text_4 2 rfl) (byt chX10_text_4 3 rfl) rfl
theorem dX10_text_68 : decode cX10_text 68 = .ok (.aload_n 0, 1) := oq_42 (byt chX10_text_4 4 rfl)
theorem dX10_text_69 : decode cX10_text 69 = .ok (.getfield 12, 3) := oq_180 (byt chX10_text_4 5 rfl) (byt chX10_text_4 6 rfl) (byt chX10_text_4 7 rfl) rfl
theorem dX10_text_72 : decode cX10_text 72 = .ok (.aload_n 0, 1) := oq_42 (byt chX10_text_4 8 rfl)
theorem dX10_text_73 : decode cX10_text 73 = .ok (.getfield 23, 3) := oq_180 (byt chX10_text_4 9 rfl) (byt chX10_text_4 10 rfl) (byt chX10_text_4 11 rfl) rfl
theorem dX10_text_76 : decode cX10_text 76 = .ok (.getfield 86, 3) := oq_180 (byt chX10_text_4 12 rfl) (byt chX10_text_4 13 rfl) (byt chX10_text_4 14 rfl) rfl
theorem dX10_text_79 : decode cX10_text 79 = .ok (.putfield 68, 3) := oq_181 (byt chX10_text_4 15 rfl) (byt chX10_text_5 0 rfl) (byt chX10_text_5 1 rfl) rfl
theorem dX10_text_82 : decode cX10_text 82 = .ok (.aload_n 0, 1) := oq_42 (byt chX10_text_5 2 rfl)
theorem dX10_text_83 : decode cX10_text 83 = .ok (.getfield 12, 3) := oq_180 (byt chX10_text_5 3 rfl) (byt chX10_text_5 4 rfl) (byt chX10_text_5 5 rfl) rfl
theorem dX10_text_86 : decode cX10_text 86 = .ok (.aload_n 0, 1) := oq_42 (byt chX10_text_5 6 rfl)
theorem dX10_text_87 : decode cX10_text 87 = .ok (.getfield 23, 3) := oq_180 (byt chX10_text_5 7 rfl) (byt chX10_text_5 8 rfl) (byt chX10_text_5 9 rfl) rfl
theorem dX10_text_90 : decode cX10_text 90 = .ok (.getfield 87, 3) := oq_180 (byt chX10_text_5 10 rfl) (byt chX10_text_5 11 rfl) (byt chX10_text_5 12 rfl) rfl
theorem dX10_text_93 : decode cX10_text 93 = .ok (.putfield 71, 3) := oq_181 (byt chX10_text_5 13 rfl) (byt chX10_text_5 14 rfl) (byt chX10_text_5 15 rfl) rfl
theorem dX10_text_96 : decode cX10_text 96 = .ok (.aload_n 0, 1) := oq_42 (byt chX10_text_6 0 rfl)
theorem dX10_text_97 : decode cX10_text 97 = .ok (.getfield 23, 3) := oq_180 (byt chX10_text_6 1 rfl) (byt chX10_text_6 2 rfl) (byt chX10_text_6 3 rfl) rfl
theorem dX10_text_100 : decode cX10_text 100 = .ok (.getfield 86, 3) := oq_180 (byt chX10_text_6 4 rfl) (byt chX10_text_6 5 rfl) (byt chX10_text_6 6 rfl) rfl
theorem dX10_text_103 : decode cX10_text 103 = .ok (.ifCond .eq 5, 3) := oq_153 (byt chX10_text_6 7 rfl) (byt chX10_text_6 8 rfl) (byt chX10_text_6 9 rfl) (by decide +kernel)
theorem dX10_text_106 : decode cX10_text 106 = .ok (.iconst (-1), 1) := oq_2 (byt chX10_text_6 10 rfl)
theorem dX10_text_107 : decode cX10_text 107 = .ok (.ireturn, 1) := oq_172 (byt chX10_text_6 11 rfl)
theorem dX10_text_108 : decode cX10_text 108 = .ok (.aload_n 0, 1) := oq_42 (byt chX10_text_6 12 rfl)
theorem dX10_text_109 : decode cX10_text 109 = .ok (.getfield 12, 3) := oq_180 (byt chX10_text_6 13 rfl) (byt chX10_text_6 14 rfl) (byt chX10_text_6 15 rfl) rfl
theorem dX10_text_112 : decode cX10_text 112 = .ok (.aload_n 0, 1) := oq_42 (byt chX10_text_7 0 rfl)
theorem dX10_text_113 : decode cX10_text 113 = .ok (.getfield 23, 3) := oq_180 (byt chX10_text_7 1 rfl) (byt chX10_text_7 2 rfl) (byt chX10_text_7 3 rfl) rfl
theorem dX10_text_116 : decode cX10_text 116 = .ok (.iload_n 1, 1) := oq_27 (byt chX10_text_7 4 rfl)
theorem dX10_text_117 : decode cX10_text 117 = .ok (.iload 4, 2) := oq_21 (byt chX10_text_7 5 rfl) (byt chX10_text_7 6 rfl) rfl
theorem dX10_text_119 : decode cX10_text 119 = .ok (.invokevirtual 88, 3) := oq_182 (byt chX10_text_7 7 rfl) (byt chX10_text_7 8 rfl) (byt chX10_text_7 9 rfl) rfl
theorem dX10_text_122 : decode cX10_text 122 = .ok (.iload 4, 2) := oq_21 (byt chX10_text_7 10 rfl) (byt chX10_text_7 11 rfl) rfl
theorem dX10_text_124 : decode cX10_text 124 = .ok (.ireturn, 1) := oq_172 (byt chX10_text_7 12 rfl)
abbrev mX10_text : MI := (yX10_text, cX10_text, 5, (some .int), noE)
theorem okX10_text : cok mX10_text 2 := ⟨tw455, tw1, by decide, by decide, by decide, by decide +kernel⟩
def fX10_text (M : Mem) (a0 a1 a2 : Int) : Option (Int × Mem) :=
  if M.2.1 a0 = 9 then if M.2.1 (M.1 a0 0) = 6 then bM (mst M (M.1 a0 0) 2 0) fun M3 => if M3.2.1 (M3.1 a0 0) = 6 then bM (mst M3 (M3.1 a0 0) 3 (-1)) fun M6 => if M6.2.1 (M6.1 a0 0) = 6 then bM (mst M6 (M6.1 a0 0) 1 0) fun M9 => if M9.2.1 (M9.1 a0 0) = 6 then (fX6_slot M9 (M9.1 a0 0) a1 a2).bind fun r11 => if r11 = (-1) then (some ((-2), M9)) else (if M9.2.1 (M9.1 a0 2) = 3 then (fX3_read M9 (M9.1 a0 2) (M9.1 (M9.1 a0 0) 0) (M6.1 (M6.1 a0 0) 1) a1).bind fun r15 => if r15.2.1 a0 = 9 then if r15.2.1 (r15.1 a0 2) = 3 then if r15.2.1 (r15.1 a0 0) = 6 then bM (mst r15 (r15.1 a0 0) 2 (r15.1 (r15.1 a0 2) 0)) fun M21 => if M21.2.1 (M21.1 a0 2) = 3 then if M21.2.1 (M21.1 a0 0) = 6 then bM (mst M21 (M21.1 a0 0) 3 (M21.1 (M21.1 a0 2) 1)) fun M25 => if M25.2.1 (M25.1 a0 2) = 3 then if M25.1 (M25.1 a0 2) 0 = 0 then (if M25.2.1 (M25.1 a0 0) = 6 then (fX6_keep M25 (M25.1 a0 0) (M25.1 a0 2) a1 r11).bind fun r29 => some (r11, r29) else none) else (some ((-1), M25)) else none else none else none else none else none else none else none) else none else none else none else none else none
set_option maxRecDepth 100000 in
set_option maxHeartbeats 4000000 in
theorem kX10_text (d : Nat) (hd : 10 ≤ d) (M : Mem) (a0 a1 a2 : Int) : Ct mX10_text d 0 0 [pA a0, pI a1, pI a2] M dIM (fX10_text M a0 a1 a2) := by
  obtain ⟨d, rfl⟩ : ∃ k, d = k + 1 := ⟨d - 1, by omega⟩
  refine Ct.of 2 (fun _ _ _ => trivial) (by decide +kernel) rfl ?_
  unfold fX10_text
  refine v_aload_n dX10_text_0 rfl ?_
  refine v_if (fun h1 => ?_)
  refine v_get (v := pA (M.1 a0 0)) 9 0 rfl inX10 (by decide) tw421 dX10_text_1 h1 rfl ?_
  refine v_iconst dX10_text_4 (by decide) ?_
  refine v_if (fun h2 => ?_)
  refine v_put (x := 0) 6 2 rfl inX6 (by decide) tw209 (Or.inl rfl) rfl dX10_text_5 h2 rfl id ?_
  refine v_bM (fun M3 e4 => ?_)
  refine v_aload_n dX10_text_8 rfl ?_
  refine v_get (v := pA (M3.1 a0 0)) 9 0 rfl inX10 (by decide) tw421 dX10_text_9 (by rw [e4]; exact h1) rfl ?_
  refine v_iconst dX10_text_12 (by decide) ?_
  refine v_if (fun h5 => ?_)
  refine v_put (x := (-1)) 6 3 rfl inX6 (by decide) tw211 (Or.inl rfl) rfl dX10_text_13 h5 rfl id ?_
  refine v_bM (fun M6 e7 => ?_)
  refine v_aload_n dX10_text_16 rfl ?_
  refine v_get (v := pA (M6.1 a0 0)) 9 0 rfl inX10 (by decide) tw421 dX10_text_17 (by rw [e7, e4]; exact h1) rfl ?_
  refine v_if (fun h8 => ?_)
  refine v_get (v := pI (M6.1 (M6.1 a0 0) 1)) 6 1 rfl inX6 (by decide) tw207 dX10_text_20 h8 rfl ?_
  refine v_istore_n (ls' := [some (pA a0), some (pI a1), some (pI a2), some (pI (M6.1 (M6.1 a0 0) 1)), none]) dX10_text_23 (by decide) rfl ?_
  refine v_aload_n dX10_text_24 rfl ?_
  refine v_get (v := pA (M6.1 a0 0)) 9 0 rfl inX10 (by decide) tw421 dX10_text_25 (by rw [e7, e4]; exact h1) rfl ?_
  refine v_iconst dX10_text_28 (by decide) ?_
  refine v_put (x := 0) 6 1 rfl inX6 (by decide) tw207 (Or.inl rfl) rfl dX10_text_29 h8 rfl id ?_
  refine v_bM (fun M9 e10 => ?_)
  refine v_aload_n dX10_text_32 rfl ?_
  refine v_get (v := pA (M9.1 a0 0)) 9 0 rfl inX10 (by decide) tw421 dX10_text_33 (by rw [e10, e7, e4]; exact h1) rfl ?_
  refine v_iload_n dX10_text_36 rfl ?_
  refine v_iload_n dX10_text_37 rfl ?_
  refine v_if (fun h13 => ?_)
  refine v_cV (mi := mX10_text) (c0 := 0) (c1 := 0) (As := [pI a1, pI a2]) (st := []) (kX6_slot d (by omega) _ _ _ _) rfl h13 rfl okX6_slot (Or.inl tw456) tw457 tw458 rfl (Nat.le_of_ble_eq_true rfl) dX10_text_38 (fun r11 => [pI r11]) (fun r11 => M9) (fun _ => rfl) (fun _ => rfl) (fun r11 h12 => ?_) rfl
  refine v_istore (ls' := [some (pA a0), some (pI a1), some (pI a2), some (pI (M6.1 (M6.1 a0 0) 1)), some (pI r11)]) dX10_text_41 (by decide) rfl ?_
  refine v_iload dX10_text_43 rfl ?_
  refine v_iconst dX10_text_45 (by decide) ?_
  refine v_icmp_ne (tgt := 52) dX10_text_46 (by decide) (fun c14 => ?_) (fun c14 => ?_)
  · refine v_bipush dX10_text_49 (by decide) ?_
    exact v_ireturn dX10_text_51 rfl rfl
  · refine v_aload_n dX10_text_52 rfl ?_
    refine v_get (v := pA (M9.1 a0 2)) 9 2 rfl inX10 (by decide) tw423 dX10_text_53 (by rw [e10, e7, e4]; exact h1) rfl ?_
    refine v_aload_n dX10_text_56 rfl ?_
    refine v_get (v := pA (M9.1 a0 0)) 9 0 rfl inX10 (by decide) tw421 dX10_text_57 (by rw [e10, e7, e4]; exact h1) rfl ?_
    refine v_get (v := pA (M9.1 (M9.1 a0 0) 0)) 6 0 rfl inX6 (by decide) tw205 dX10_text_60 h13 rfl ?_
    refine v_iload_n dX10_text_63 rfl ?_
    refine v_iload_n dX10_text_64 rfl ?_
    refine v_if (fun h17 => ?_)
    refine v_cV (mi := mX10_text) (c0 := 0) (c1 := 0) (As := [pA (M9.1 (M9.1 a0 0) 0), pI (M6.1 (M6.1 a0 0) 1), pI a1]) (st := []) (kX3_read d (by omega) _ _ _ _ _) rfl h17 rfl okX3_read (Or.inl tw464) tw465 tw466 rfl (Nat.le_of_ble_eq_true rfl) dX10_text_65 (fun r15 => []) (fun r15 => r15) (fun _ => rfl) (fun _ => rfl) (fun r15 h16 => ?_) rfl
    refine v_aload_n dX10_text_68 rfl ?_
    refine v_if (fun h18 => ?_)
    refine v_get (v := pA (r15.1 a0 0)) 9 0 rfl inX10 (by decide) tw421 dX10_text_69 h18 rfl ?_
    refine v_aload_n dX10_text_72 rfl ?_
    refine v_get (v := pA (r15.1 a0 2)) 9 2 rfl inX10 (by decide) tw423 dX10_text_73 h18 rfl ?_
    refine v_if (fun h19 => ?_)
    refine v_get (v := pI (r15.1 (r15.1 a0 2) 0)) 3 0 rfl inX3 (by decide) tw255 dX10_text_76 h19 rfl ?_
    refine v_if (fun h20 => ?_)
    refine v_put (x := r15.1 (r15.1 a0 2) 0) 6 2 rfl inX6 (by decide) tw209 (Or.inl rfl) rfl dX10_text_79 h20 rfl id ?_
    refine v_bM (fun M21 e22 => ?_)
    refine v_aload_n dX10_text_82 rfl ?_
    refine v_get (v := pA (M21.1 a0 0)) 9 0 rfl inX10 (by decide) tw421 dX10_text_83 (by rw [e22]; exact h18) rfl ?_
    refine v_aload_n dX10_text_86 rfl ?_
    refine v_get (v := pA (M21.1 a0 2)) 9 2 rfl inX10 (by decide) tw423 dX10_text_87 (by rw [e22]; exact h18) rfl ?_
    refine v_if (fun h23 => ?_)
    refine v_get (v := pI (M21.1 (M21.1 a0 2) 1)) 3 1 rfl inX3 (by decide) tw257 dX10_text_90 h23 rfl ?_
    refine v_if (fun h24 => ?_)
    refine v_put (x := M21.1 (M21.1 a0 2) 1) 6 3 rfl inX6 (by decide) tw211 (Or.inl rfl) rfl dX10_text_93 h24 rfl id ?_
    refine v_bM (fun M25 e26 => ?_)
    refine v_aload_n dX10_text_96 rfl ?_
    refine v_get (v := pA (M25.1 a0 2)) 9 2 rfl inX10 (by decide) tw423 dX10_text_97 (by rw [e26, e22]; exact h18) rfl ?_
    refine v_if (fun h27 => ?_)
    refine v_get (v := pI (M25.1 (M25.1 a0 2) 0)) 3 0 rfl inX3 (by decide) tw255 dX10_text_100 h27 rfl ?_
    refine v_if_eq (tgt := 108) dX10_text_103 (by decide) (fun c28 => ?_) (fun c28 => ?_)
    · refine v_aload_n dX10_text_108 rfl ?_
      refine v_get (v := pA (M25.1 a0 0)) 9 0 rfl inX10 (by decide) tw421 dX10_text_109 (by rw [e26, e22]; exact h18) rfl ?_
      refine v_aload_n dX10_text_112 rfl ?_
      refine v_get (v := pA (M25.1 a0 2)) 9 2 rfl inX10 (by decide) tw423 dX10_text_113 (by rw [e26, e22]; exact h18) rfl ?_
      refine v_iload_n dX10_text_116 rfl ?_
      refine v_iload dX10_text_117 rfl ?_
      refine v_if (fun h31 => ?_)
      refine v_cV (mi := mX10_text) (c0 := 0) (c1 := 0) (As := [pA (M25.1 a0 2), pI a1, pI r11]) (st := []) (kX6_keep d (by omega) _ _ _ _ _) rfl h31 rfl okX6_keep (Or.inl tw642) tw643 tw644 rfl (Nat.le_of_ble_eq_true rfl) dX10_text_119 (fun r29 => []) (fun r29 => r29) (fun _ => rfl) (fun _ => rfl) (fun r29 h30 => ?_) rfl
      refine v_iload dX10_text_122 rfl ?_
      exact v_ireturn dX10_text_124 rfl rfl
    · refine v_iconst dX10_text_106 (by decide) ?_
      exact v_ireturn dX10_text_107 rfl rfl
theorem chX10_fault_0 : (cX10_fault.data.toList.drop 0).take 16 = [27, 154, 0, 11, 42, 180, 0, 12, 180, 0, 68, 172, 27, 4, 160, 0] := by decide +kernel
theorem chX10_fault_1 : (cX10_fault.data.toList.drop 16).take 16 = [13, 42, 180, 0, 12, 180, 0, 71, 167, 0, 4, 2, 172] := by decide +kernel
theorem dX10_fault_0 : decode cX10_fault 0 = .ok (.iload_n 1, 1) := oq_27 (byt chX10_fault_0 0 rfl)
theorem dX10_fault_1 : decode cX10_fault 1 = .ok (.ifCond .ne 11, 3) := oq_154 (byt chX10_fault_0 1 rfl) (byt chX10_fault_0 2 rfl) (byt chX10_fault_0 3 rfl) (by decide +kernel)
theorem dX10_fault_4 : decode cX10_fault 4 = .ok (.aload_n 0, 1) := oq_42 (byt chX10_fault_0 4 rfl)
theorem dX10_fault_5 : decode cX10_fault 5 = .ok (.getfield 12, 3) := oq_180 (byt chX10_fault_0 5 rfl) (byt chX10_fault_0 6 rfl) (byt chX10_fault_0 7 rfl) rfl
theorem dX10_fault_8 : decode cX10_fault 8 = .ok (.getfield 68, 3) := oq_180 (byt chX10_fault_0 8 rfl) (byt chX10_fault_0 9 rfl) (byt chX10_fault_0 10 rfl) rfl
theorem dX10_fault_11 : decode cX10_fault 11 = .ok (.ireturn, 1) := oq_172 (byt chX10_fault_0 11 rfl)
theorem dX10_fault_12 : decode cX10_fault 12 = .ok (.iload_n 1, 1) := oq_27 (byt chX10_fault_0 12 rfl)
theorem dX10_fault_13 : decode cX10_fault 13 = .ok (.iconst 1, 1) := oq_4 (byt chX10_fault_0 13 rfl)
theorem dX10_fault_14 : decode cX10_fault 14 = .ok (.if_icmp .ne 13, 3) := oq_160 (byt chX10_fault_0 14 rfl) (byt chX10_fault_0 15 rfl) (byt chX10_fault_1 0 rfl) (by decide +kernel)
theorem dX10_fault_17 : decode cX10_fault 17 = .ok (.aload_n 0, 1) := oq_42 (byt chX10_fault_1 1 rfl)
theorem dX10_fault_18 : decode cX10_fault 18 = .ok (.getfield 12, 3) := oq_180 (byt chX10_fault_1 2 rfl) (byt chX10_fault_1 3 rfl) (byt chX10_fault_1 4 rfl) rfl
theorem dX10_fault_21 : decode cX10_fault 21 = .ok (.getfield 71, 3) := oq_180 (byt chX10_fault_1 5 rfl) (byt chX10_fault_1 6 rfl) (byt chX10_fault_1 7 rfl) rfl
theorem dX10_fault_24 : decode cX10_fault 24 = .ok (.goto 4, 3) := oq_167 (byt chX10_fault_1 8 rfl) (byt chX10_fault_1 9 rfl) (byt chX10_fault_1 10 rfl) (by decide +kernel)
theorem dX10_fault_27 : decode cX10_fault 27 = .ok (.iconst (-1), 1) := oq_2 (byt chX10_fault_1 11 rfl)
theorem dX10_fault_28 : decode cX10_fault 28 = .ok (.ireturn, 1) := oq_172 (byt chX10_fault_1 12 rfl)
abbrev mX10_fault : MI := (yX10_fault, cX10_fault, 2, (some .int), noE)
theorem okX10_fault : cok mX10_fault 1 := ⟨tw675, tw1, by decide, by decide, by decide, by decide +kernel⟩
def fX10_fault (M : Mem) (a0 a1 : Int) : Option Int :=
  if a1 = 0 then (if M.2.1 a0 = 9 then if M.2.1 (M.1 a0 0) = 6 then some (M.1 (M.1 a0 0) 2) else none else none) else (if a1 = 1 then (if M.2.1 a0 = 9 then if M.2.1 (M.1 a0 0) = 6 then some (M.1 (M.1 a0 0) 3) else none else none) else (some (-1)))
set_option maxRecDepth 100000 in
set_option maxHeartbeats 4000000 in
theorem kX10_fault (d : Nat) (hd : 0 ≤ d) (M : Mem) (a0 a1 : Int) : Ct mX10_fault d 0 0 [pA a0, pI a1] M (dI M) (fX10_fault M a0 a1) := by
  refine Ct.of 0 (fun _ _ _ => trivial) (by decide +kernel) rfl ?_
  unfold fX10_fault
  refine v_iload_n dX10_fault_0 rfl ?_
  refine v_if_ne (tgt := 12) dX10_fault_1 (by decide) (fun c1 => ?_) (fun c1 => ?_)
  · refine v_aload_n dX10_fault_4 rfl ?_
    refine v_if (fun h2 => ?_)
    refine v_get (v := pA (M.1 a0 0)) 9 0 rfl inX10 (by decide) tw421 dX10_fault_5 h2 rfl ?_
    refine v_if (fun h3 => ?_)
    refine v_get (v := pI (M.1 (M.1 a0 0) 2)) 6 2 rfl inX6 (by decide) tw209 dX10_fault_8 h3 rfl ?_
    exact v_ireturn dX10_fault_11 rfl rfl
  · refine v_iload_n dX10_fault_12 rfl ?_
    refine v_iconst dX10_fault_13 (by decide) ?_
    refine v_icmp_ne (tgt := 27) dX10_fault_14 (by decide) (fun c4 => ?_) (fun c4 => ?_)
    · refine v_aload_n dX10_fault_17 rfl ?_
      refine v_if (fun h5 => ?_)
      refine v_get (v := pA (M.1 a0 0)) 9 0 rfl inX10 (by decide) tw421 dX10_fault_18 h5 rfl ?_
      refine v_if (fun h6 => ?_)
      refine v_get (v := pI (M.1 (M.1 a0 0) 3)) 6 3 rfl inX6 (by decide) tw211 dX10_fault_21 h6 rfl ?_
      refine v_goto (tgt := 28) dX10_fault_24 (by decide) ?_
      exact v_ireturn dX10_fault_28 rfl rfl
    · refine v_iconst dX10_fault_27 (by decide) ?_
      exact v_ireturn dX10_fault_28 rfl rfl
theorem chX10_town_0 : (cX10_town.data.toList.drop 0).take 16 = [42, 180, 0, 12, 27, 182, 0, 92, 78, 45, 199, 0, 6, 16, 254, 172] := by decide +kernel
theorem chX10_town_1 : (cX10_town.data.toList.drop 16).take 16 = [28, 154, 0, 8, 45, 180, 0, 96, 172, 28, 4, 160, 0, 8, 45, 180] := by decide +kernel
theorem chX10_town_2 : (cX10_town.data.toList.drop 32).take 16 = [0, 101, 172, 28, 16, 10, 162, 0, 6, 16, 254, 172, 28, 16, 10, 112] := by decide +kernel
theorem chX10_town_3 : (cX10_town.data.toList.drop 48).take 16 = [54, 4, 28, 16, 10, 108, 170, 0, 0, 0, 0, 168, 0, 0, 0, 1] := by decide +kernel
theorem chX10_town_5 : (cX10_town.data.toList.drop 80).take 16 = [0, 0, 0, 103, 0, 0, 0, 124, 0, 0, 0, 146, 45, 21, 4, 182] := by decide +kernel
theorem chX10_town_6 : (cX10_town.data.toList.drop 96).take 16 = [0, 104, 153, 0, 13, 45, 180, 0, 108, 21, 4, 46, 167, 0, 5, 16] := by decide +kernel
theorem chX10_town_7 : (cX10_town.data.toList.drop 112).take 16 = [254, 172, 45, 21, 4, 182, 0, 104, 153, 0, 13, 45, 180, 0, 112, 21] := by decide +kernel
theorem chX10_town_8 : (cX10_town.data.toList.drop 128).take 16 = [4, 46, 167, 0, 5, 16, 254, 172, 21, 4, 184, 0, 115, 153, 0, 13] := by decide +kernel
theorem chX10_town_9 : (cX10_town.data.toList.drop 144).take 16 = [45, 180, 0, 118, 21, 4, 46, 167, 0, 5, 16, 254, 172, 21, 4, 184] := by decide +kernel
theorem chX10_town_10 : (cX10_town.data.toList.drop 160).take 16 = [0, 115, 153, 0, 13, 45, 180, 0, 121, 21, 4, 46, 167, 0, 5, 16] := by decide +kernel
theorem chX10_town_11 : (cX10_town.data.toList.drop 176).take 16 = [254, 172, 45, 21, 4, 182, 0, 124, 153, 0, 13, 45, 180, 0, 127, 21] := by decide +kernel
theorem chX10_town_12 : (cX10_town.data.toList.drop 192).take 16 = [4, 46, 167, 0, 5, 16, 254, 172, 45, 21, 4, 182, 0, 124, 153, 0] := by decide +kernel
theorem chX10_town_13 : (cX10_town.data.toList.drop 208).take 16 = [13, 45, 180, 0, 130, 21, 4, 46, 167, 0, 5, 16, 254, 172, 16, 254] := by decide +kernel
theorem chX10_town_14 : (cX10_town.data.toList.drop 224).take 16 = [172] := by decide +kernel
theorem dX10_town_0 : decode cX10_town 0 = .ok (.aload_n 0, 1) := oq_42 (byt chX10_town_0 0 rfl)
theorem dX10_town_1 : decode cX10_town 1 = .ok (.getfield 12, 3) := oq_180 (byt chX10_town_0 1 rfl) (byt chX10_town_0 2 rfl) (byt chX10_town_0 3 rfl) rfl
theorem dX10_town_4 : decode cX10_town 4 = .ok (.iload_n 1, 1) := oq_27 (byt chX10_town_0 4 rfl)
theorem dX10_town_5 : decode cX10_town 5 = .ok (.invokevirtual 92, 3) := oq_182 (byt chX10_town_0 5 rfl) (byt chX10_town_0 6 rfl) (byt chX10_town_0 7 rfl) rfl
theorem dX10_town_8 : decode cX10_town 8 = .ok (.astore_n 3, 1) := oq_78 (byt chX10_town_0 8 rfl)
theorem dX10_town_9 : decode cX10_town 9 = .ok (.aload_n 3, 1) := oq_45 (byt chX10_town_0 9 rfl)
theorem dX10_town_10 : decode cX10_town 10 = .ok (.ifnonnull 6, 3) := oq_199 (byt chX10_town_0 10 rfl) (byt chX10_town_0 11 rfl) (byt chX10_town_0 12 rfl) (by decide +kernel)
theorem dX10_town_13 : decode cX10_town 13 = .ok (.bipush (-2), 2) := oq_16 (byt chX10_town_0 13 rfl) (byt chX10_town_0 14 rfl) rfl
theorem dX10_town_15 : decode cX10_town 15 = .ok (.ireturn, 1) := oq_172 (byt chX10_town_0 15 rfl)
theorem dX10_town_16 : decode cX10_town 16 = .ok (.iload_n 2, 1) := oq_28 (byt chX10_town_1 0 rfl)
theorem dX10_town_17 : decode cX10_town 17 = .ok (.ifCond .ne 8, 3) := oq_154 (byt chX10_town_1 1 rfl) (byt chX10_town_1 2 rfl) (byt chX10_town_1 3 rfl) (by decide +kernel)
theorem dX10_town_20 : decode cX10_town 20 = .ok (.aload_n 3, 1) := oq_45 (byt chX10_town_1 4 rfl)
theorem dX10_town_21 : decode cX10_town 21 = .ok (.getfield 96, 3) := oq_180 (byt chX10_town_1 5 rfl) (byt chX10_town_1 6 rfl) (byt chX10_town_1 7 rfl) rfl
theorem dX10_town_24 : decode cX10_town 24 = .ok (.ireturn, 1) := oq_172 (byt chX10_town_1 8 rfl)
theorem dX10_town_25 : decode cX10_town 25 = .ok (.iload_n 2, 1) := oq_28 (byt chX10_town_1 9 rfl)
theorem dX10_town_26 : decode cX10_town 26 = .ok (.iconst 1, 1) := oq_4 (byt chX10_town_1 10 rfl)
theorem dX10_town_27 : decode cX10_town 27 = .ok (.if_icmp .ne 8, 3) := oq_160 (byt chX10_town_1 11 rfl) (byt chX10_town_1 12 rfl) (byt chX10_town_1 13 rfl) (by decide +kernel)
theorem dX10_town_30 : decode cX10_town 30 = .ok (.aload_n 3, 1) := oq_45 (byt chX10_town_1 14 rfl)
theorem dX10_town_31 : decode cX10_town 31 = .ok (.getfield 101, 3) := oq_180 (byt chX10_town_1 15 rfl) (byt chX10_town_2 0 rfl) (byt chX10_town_2 1 rfl) rfl
theorem dX10_town_34 : decode cX10_town 34 = .ok (.ireturn, 1) := oq_172 (byt chX10_town_2 2 rfl)
theorem dX10_town_35 : decode cX10_town 35 = .ok (.iload_n 2, 1) := oq_28 (byt chX10_town_2 3 rfl)
theorem dX10_town_36 : decode cX10_town 36 = .ok (.bipush 10, 2) := oq_16 (byt chX10_town_2 4 rfl) (byt chX10_town_2 5 rfl) rfl
theorem dX10_town_38 : decode cX10_town 38 = .ok (.if_icmp .ge 6, 3) := oq_162 (byt chX10_town_2 6 rfl) (byt chX10_town_2 7 rfl) (byt chX10_town_2 8 rfl) (by decide +kernel)
theorem dX10_town_41 : decode cX10_town 41 = .ok (.bipush (-2), 2) := oq_16 (byt chX10_town_2 9 rfl) (byt chX10_town_2 10 rfl) rfl
theorem dX10_town_43 : decode cX10_town 43 = .ok (.ireturn, 1) := oq_172 (byt chX10_town_2 11 rfl)
theorem dX10_town_44 : decode cX10_town 44 = .ok (.iload_n 2, 1) := oq_28 (byt chX10_town_2 12 rfl)
theorem dX10_town_45 : decode cX10_town 45 = .ok (.bipush 10, 2) := oq_16 (byt chX10_town_2 13 rfl) (byt chX10_town_2 14 rfl) rfl
theorem dX10_town_47 : decode cX10_town 47 = .ok (.irem, 1) := oq_112 (byt chX10_town_2 15 rfl)
theorem dX10_town_48 : decode cX10_town 48 = .ok (.istore 4, 2) := oq_54 (byt chX10_town_3 0 rfl) (byt chX10_town_3 1 rfl) rfl
theorem dX10_town_50 : decode cX10_town 50 = .ok (.iload_n 2, 1) := oq_28 (byt chX10_town_3 2 rfl)
theorem dX10_town_51 : decode cX10_town 51 = .ok (.bipush 10, 2) := oq_16 (byt chX10_town_3 3 rfl) (byt chX10_town_3 4 rfl) rfl
theorem dX10_town_53 : decode cX10_town 53 = .ok (.idiv, 1) := oq_108 (byt chX10_town_3 5 rfl)
theorem dX10_town_54 : decode cX10_town 54 = .ok (.tableswitch 168 1 6 #[38, 60, 82, 103, 124, 146], 38) := by decide +kernel
theorem dX10_town_92 : decode cX10_town 92 = .ok (.aload_n 3, 1) := oq_45 (byt chX10_town_5 12 rfl)
theorem dX10_town_93 : decode cX10_town 93 = .ok (.iload 4, 2) := oq_21 (byt chX10_town_5 13 rfl) (byt chX10_town_5 14 rfl) rfl
theorem dX10_town_95 : decode cX10_town 95 = .ok (.invokevirtual 104, 3) := oq_182 (byt chX10_town_5 15 rfl) (byt chX10_town_6 0 rfl) (byt chX10_town_6 1 rfl) rfl
theorem dX10_town_98 : decode cX10_town 98 = .ok (.ifCond .eq 13, 3) := oq_153 (byt chX10_town_6 2 rfl) (byt chX10_town_6 3 rfl) (byt chX10_town_6 4 rfl) (by decide +kernel)
theorem dX10_town_101 : decode cX10_town 101 = .ok (.aload_n 3, 1) := oq_45 (byt chX10_town_6 5 rfl)
theorem dX10_town_102 : decode cX10_town 102 = .ok (.getfield 108, 3) := oq_180 (byt chX10_town_6 6 rfl) (byt chX10_town_6 7 rfl) (byt chX10_town_6 8 rfl) rfl
theorem dX10_town_105 : decode cX10_town 105 = .ok (.iload 4, 2) := oq_21 (byt chX10_town_6 9 rfl) (byt chX10_town_6 10 rfl) rfl
theorem dX10_town_107 : decode cX10_town 107 = .ok (.iaload, 1) := oq_46 (byt chX10_town_6 11 rfl)
theorem dX10_town_108 : decode cX10_town 108 = .ok (.goto 5, 3) := oq_167 (byt chX10_town_6 12 rfl) (byt chX10_town_6 13 rfl) (byt chX10_town_6 14 rfl) (by decide +kernel)
theorem dX10_town_111 : decode cX10_town 111 = .ok (.bipush (-2), 2) := oq_16 (byt chX10_town_6 15 rfl) (byt chX10_town_7 0 rfl) rfl
theorem dX10_town_113 : decode cX10_town 113 = .ok (.ireturn, 1) := oq_172 (byt chX10_town_7 1 rfl)
theorem dX10_town_114 : decode cX10_town 114 = .ok (.aload_n 3, 1) := oq_45 (byt chX10_town_7 2 rfl)
theorem dX10_town_115 : decode cX10_town 115 = .ok (.iload 4, 2) := oq_21 (byt chX10_town_7 3 rfl) (byt chX10_town_7 4 rfl) rfl
theorem dX10_town_117 : decode cX10_town 117 = .ok (.invokevirtual 104, 3) := oq_182 (byt chX10_town_7 5 rfl) (byt chX10_town_7 6 rfl) (byt chX10_town_7 7 rfl) rfl
theorem dX10_town_120 : decode cX10_town 120 = .ok (.ifCond .eq 13, 3) := oq_153 (byt chX10_town_7 8 rfl) (byt chX10_town_7 9 rfl) (byt chX10_town_7 10 rfl) (by decide +kernel)
theorem dX10_town_123 : decode cX10_town 123 = .ok (.aload_n 3, 1) := oq_45 (byt chX10_town_7 11 rfl)
theorem dX10_town_124 : decode cX10_town 124 = .ok (.getfield 112, 3) := oq_180 (byt chX10_town_7 12 rfl) (byt chX10_town_7 13 rfl) (byt chX10_town_7 14 rfl) rfl
theorem dX10_town_127 : decode cX10_town 127 = .ok (.iload 4, 2) := oq_21 (byt chX10_town_7 15 rfl) (byt chX10_town_8 0 rfl) rfl
theorem dX10_town_129 : decode cX10_town 129 = .ok (.iaload, 1) := oq_46 (byt chX10_town_8 1 rfl)
theorem dX10_town_130 : decode cX10_town 130 = .ok (.goto 5, 3) := oq_167 (byt chX10_town_8 2 rfl) (byt chX10_town_8 3 rfl) (byt chX10_town_8 4 rfl) (by decide +kernel)
theorem dX10_town_133 : decode cX10_town 133 = .ok (.bipush (-2), 2) := oq_16 (byt chX10_town_8 5 rfl) (byt chX10_town_8 6 rfl) rfl
theorem dX10_town_135 : decode cX10_town 135 = .ok (.ireturn, 1) := oq_172 (byt chX10_town_8 7 rfl)
theorem dX10_town_136 : decode cX10_town 136 = .ok (.iload 4, 2) := oq_21 (byt chX10_town_8 8 rfl) (byt chX10_town_8 9 rfl) rfl
theorem dX10_town_138 : decode cX10_town 138 = .ok (.invokestatic 115, 3) := oq_184 (byt chX10_town_8 10 rfl) (byt chX10_town_8 11 rfl) (byt chX10_town_8 12 rfl) rfl
theorem dX10_town_141 : decode cX10_town 141 = .ok (.ifCond .eq 13, 3) := oq_153 (byt chX10_town_8 13 rfl) (byt chX10_town_8 14 rfl) (byt chX10_town_8 15 rfl) (by decide +kernel)
theorem dX10_town_144 : decode cX10_town 144 = .ok (.aload_n 3, 1) := oq_45 (byt chX10_town_9 0 rfl)
theorem dX10_town_145 : decode cX10_town 145 = .ok (.getfield 118, 3) := oq_180 (byt chX10_town_9 1 rfl) (byt chX10_town_9 2 rfl) (byt chX10_town_9 3 rfl) rfl
theorem dX10_town_148 : decode cX10_town 148 = .ok (.iload 4, 2) := oq_21 (byt chX10_town_9 4 rfl) (byt chX10_town_9 5 rfl) rfl
theorem dX10_town_150 : decode cX10_town 150 = .ok (.iaload, 1) := oq_46 (byt chX10_town_9 6 rfl)
theorem dX10_town_151 : decode cX10_town 151 = .ok (.goto 5, 3) := oq_167 (byt chX10_town_9 7 rfl) (byt chX10_town_9 8 rfl) (byt chX10_town_9 9 rfl) (by decide +kernel)
theorem dX10_town_154 : decode cX10_town 154 = .ok (.bipush (-2), 2) := oq_16 (byt chX10_town_9 10 rfl) (byt chX10_town_9 11 rfl) rfl
theorem dX10_town_156 : decode cX10_town 156 = .ok (.ireturn, 1) := oq_172 (byt chX10_town_9 12 rfl)
theorem dX10_town_157 : decode cX10_town 157 = .ok (.iload 4, 2) := oq_21 (byt chX10_town_9 13 rfl) (byt chX10_town_9 14 rfl) rfl
theorem dX10_town_159 : decode cX10_town 159 = .ok (.invokestatic 115, 3) := oq_184 (byt chX10_town_9 15 rfl) (byt chX10_town_10 0 rfl) (byt chX10_town_10 1 rfl) rfl
theorem dX10_town_162 : decode cX10_town 162 = .ok (.ifCond .eq 13, 3) := oq_153 (byt chX10_town_10 2 rfl) (byt chX10_town_10 3 rfl) (byt chX10_town_10 4 rfl) (by decide +kernel)
theorem dX10_town_165 : decode cX10_town 165 = .ok (.aload_n 3, 1) := oq_45 (byt chX10_town_10 5 rfl)
theorem dX10_town_166 : decode cX10_town 166 = .ok (.getfield 121, 3) := oq_180 (byt chX10_town_10 6 rfl) (byt chX10_town_10 7 rfl) (byt chX10_town_10 8 rfl) rfl
theorem dX10_town_169 : decode cX10_town 169 = .ok (.iload 4, 2) := oq_21 (byt chX10_town_10 9 rfl) (byt chX10_town_10 10 rfl) rfl
theorem dX10_town_171 : decode cX10_town 171 = .ok (.iaload, 1) := oq_46 (byt chX10_town_10 11 rfl)
theorem dX10_town_172 : decode cX10_town 172 = .ok (.goto 5, 3) := oq_167 (byt chX10_town_10 12 rfl) (byt chX10_town_10 13 rfl) (byt chX10_town_10 14 rfl) (by decide +kernel)
theorem dX10_town_175 : decode cX10_town 175 = .ok (.bipush (-2), 2) := oq_16 (byt chX10_town_10 15 rfl) (byt chX10_town_11 0 rfl) rfl
theorem dX10_town_177 : decode cX10_town 177 = .ok (.ireturn, 1) := oq_172 (byt chX10_town_11 1 rfl)
theorem dX10_town_178 : decode cX10_town 178 = .ok (.aload_n 3, 1) := oq_45 (byt chX10_town_11 2 rfl)
theorem dX10_town_179 : decode cX10_town 179 = .ok (.iload 4, 2) := oq_21 (byt chX10_town_11 3 rfl) (byt chX10_town_11 4 rfl) rfl
theorem dX10_town_181 : decode cX10_town 181 = .ok (.invokevirtual 124, 3) := oq_182 (byt chX10_town_11 5 rfl) (byt chX10_town_11 6 rfl) (byt chX10_town_11 7 rfl) rfl
theorem dX10_town_184 : decode cX10_town 184 = .ok (.ifCond .eq 13, 3) := oq_153 (byt chX10_town_11 8 rfl) (byt chX10_town_11 9 rfl) (byt chX10_town_11 10 rfl) (by decide +kernel)
theorem dX10_town_187 : decode cX10_town 187 = .ok (.aload_n 3, 1) := oq_45 (byt chX10_town_11 11 rfl)
theorem dX10_town_188 : decode cX10_town 188 = .ok (.getfield 127, 3) := oq_180 (byt chX10_town_11 12 rfl) (byt chX10_town_11 13 rfl) (byt chX10_town_11 14 rfl) rfl
theorem dX10_town_191 : decode cX10_town 191 = .ok (.iload 4, 2) := oq_21 (byt chX10_town_11 15 rfl) (byt chX10_town_12 0 rfl) rfl
theorem dX10_town_193 : decode cX10_town 193 = .ok (.iaload, 1) := oq_46 (byt chX10_town_12 1 rfl)
theorem dX10_town_194 : decode cX10_town 194 = .ok (.goto 5, 3) := oq_167 (byt chX10_town_12 2 rfl) (byt chX10_town_12 3 rfl) (byt chX10_town_12 4 rfl) (by decide +kernel)
theorem dX10_town_197 : decode cX10_town 197 = .ok (.bipush (-2), 2) := oq_16 (byt chX10_town_12 5 rfl) (byt chX10_town_12 6 rfl) rfl
theorem dX10_town_199 : decode cX10_town 199 = .ok (.ireturn, 1) := oq_172 (byt chX10_town_12 7 rfl)
theorem dX10_town_200 : decode cX10_town 200 = .ok (.aload_n 3, 1) := oq_45 (byt chX10_town_12 8 rfl)
theorem dX10_town_201 : decode cX10_town 201 = .ok (.iload 4, 2) := oq_21 (byt chX10_town_12 9 rfl) (byt chX10_town_12 10 rfl) rfl
theorem dX10_town_203 : decode cX10_town 203 = .ok (.invokevirtual 124, 3) := oq_182 (byt chX10_town_12 11 rfl) (byt chX10_town_12 12 rfl) (byt chX10_town_12 13 rfl) rfl
theorem dX10_town_206 : decode cX10_town 206 = .ok (.ifCond .eq 13, 3) := oq_153 (byt chX10_town_12 14 rfl) (byt chX10_town_12 15 rfl) (byt chX10_town_13 0 rfl) (by decide +kernel)
theorem dX10_town_209 : decode cX10_town 209 = .ok (.aload_n 3, 1) := oq_45 (byt chX10_town_13 1 rfl)
theorem dX10_town_210 : decode cX10_town 210 = .ok (.getfield 130, 3) := oq_180 (byt chX10_town_13 2 rfl) (byt chX10_town_13 3 rfl) (byt chX10_town_13 4 rfl) rfl
theorem dX10_town_213 : decode cX10_town 213 = .ok (.iload 4, 2) := oq_21 (byt chX10_town_13 5 rfl) (byt chX10_town_13 6 rfl) rfl
theorem dX10_town_215 : decode cX10_town 215 = .ok (.iaload, 1) := oq_46 (byt chX10_town_13 7 rfl)
theorem dX10_town_216 : decode cX10_town 216 = .ok (.goto 5, 3) := oq_167 (byt chX10_town_13 8 rfl) (byt chX10_town_13 9 rfl) (byt chX10_town_13 10 rfl) (by decide +kernel)
theorem dX10_town_219 : decode cX10_town 219 = .ok (.bipush (-2), 2) := oq_16 (byt chX10_town_13 11 rfl) (byt chX10_town_13 12 rfl) rfl
theorem dX10_town_221 : decode cX10_town 221 = .ok (.ireturn, 1) := oq_172 (byt chX10_town_13 13 rfl)
theorem dX10_town_222 : decode cX10_town 222 = .ok (.bipush (-2), 2) := oq_16 (byt chX10_town_13 14 rfl) (byt chX10_town_13 15 rfl) rfl
theorem dX10_town_224 : decode cX10_town 224 = .ok (.ireturn, 1) := oq_172 (byt chX10_town_14 0 rfl)
abbrev mX10_town : MI := (yX10_town, cX10_town, 5, (some .int), noE)
theorem okX10_town : cok mX10_town 2 := ⟨tw679, tw1, by decide, by decide, by decide, by decide +kernel⟩
def fX10_town (M : Mem) (a0 a1 a2 : Int) : Option Int :=
  if M.2.1 a0 = 9 then if M.2.1 (M.1 a0 0) = 6 then (fX6_townAt M (M.1 a0 0) a1).bind fun r2 => if r2 = -1 then (some (-2)) else (if a2 = 0 then (if M.2.1 r2 = 7 then some (M.1 r2 0) else none) else (if a2 = 1 then (if M.2.1 r2 = 7 then some (M.1 r2 1) else none) else (if a2 < 10 then (some (-2)) else (if w32 (a2.tdiv 10) = 1 then (if M.2.1 r2 = 7 then (fX7_isHouse M r2 (a2.tmod 10)).bind fun r12 => if r12 = 0 then (some (-2)) else (if M.2.1 (M.1 r2 4) = 12 ∧ (0 : Int) ≤ (a2.tmod 10) ∧ (a2.tmod 10) < M.2.2.1 (M.1 r2 4) then some (M.1 (M.1 r2 4) (a2.tmod 10)) else none) else none) else if w32 (a2.tdiv 10) = 2 then (if M.2.1 r2 = 7 then (fX7_isHouse M r2 (a2.tmod 10)).bind fun r18 => if r18 = 0 then (some (-2)) else (if M.2.1 (M.1 r2 5) = 12 ∧ (0 : Int) ≤ (a2.tmod 10) ∧ (a2.tmod 10) < M.2.2.1 (M.1 r2 5) then some (M.1 (M.1 r2 5) (a2.tmod 10)) else none) else none) else if w32 (a2.tdiv 10) = 3 then ((fX10_isGood M (a2.tmod 10)).bind fun r24 => if r24 = 0 then (some (-2)) else (if M.2.1 r2 = 7 then if M.2.1 (M.1 r2 6) = 12 ∧ (0 : Int) ≤ (a2.tmod 10) ∧ (a2.tmod 10) < M.2.2.1 (M.1 r2 6) then some (M.1 (M.1 r2 6) (a2.tmod 10)) else none else none)) else if w32 (a2.tdiv 10) = 4 then ((fX10_isGood M (a2.tmod 10)).bind fun r30 => if r30 = 0 then (some (-2)) else (if M.2.1 r2 = 7 then if M.2.1 (M.1 r2 7) = 12 ∧ (0 : Int) ≤ (a2.tmod 10) ∧ (a2.tmod 10) < M.2.2.1 (M.1 r2 7) then some (M.1 (M.1 r2 7) (a2.tmod 10)) else none else none)) else if w32 (a2.tdiv 10) = 5 then (if M.2.1 r2 = 7 then (fX7_isThief M r2 (a2.tmod 10)).bind fun r36 => if r36 = 0 then (some (-2)) else (if M.2.1 (M.1 r2 8) = 12 ∧ (0 : Int) ≤ (a2.tmod 10) ∧ (a2.tmod 10) < M.2.2.1 (M.1 r2 8) then some (M.1 (M.1 r2 8) (a2.tmod 10)) else none) else none) else if w32 (a2.tdiv 10) = 6 then (if M.2.1 r2 = 7 then (fX7_isThief M r2 (a2.tmod 10)).bind fun r42 => if r42 = 0 then (some (-2)) else (if M.2.1 (M.1 r2 9) = 12 ∧ (0 : Int) ≤ (a2.tmod 10) ∧ (a2.tmod 10) < M.2.2.1 (M.1 r2 9) then some (M.1 (M.1 r2 9) (a2.tmod 10)) else none) else none) else some (-2))))) else none else none
set_option maxRecDepth 100000 in
set_option maxHeartbeats 4000000 in
theorem kX10_town (d : Nat) (hd : 2 ≤ d) (M : Mem) (a0 a1 a2 : Int) : Ct mX10_town d 0 0 [pA a0, pI a1, pI a2] M (dI M) (fX10_town M a0 a1 a2) := by
  obtain ⟨d, rfl⟩ : ∃ k, d = k + 1 := ⟨d - 1, by omega⟩
  refine Ct.of 2 (fun _ _ _ => trivial) (by decide +kernel) rfl ?_
  unfold fX10_town
  refine v_aload_n dX10_town_0 rfl ?_
  refine v_if (fun h1 => ?_)
  refine v_get (v := pA (M.1 a0 0)) 9 0 rfl inX10 (by decide) tw421 dX10_town_1 h1 rfl ?_
  refine v_iload_n dX10_town_4 rfl ?_
  refine v_if (fun h4 => ?_)
  refine v_cV (mi := mX10_town) (c0 := 0) (c1 := 0) (As := [pI a1]) (st := []) (kX6_townAt d (by omega) _ _ _) rfl h4 rfl okX6_townAt (Or.inl tw680) tw681 tw682 rfl (Nat.le_of_ble_eq_true rfl) dX10_town_5 (fun r2 => [pA r2]) (fun r2 => M) (fun _ => rfl) (fun _ => rfl) (fun r2 h3 => ?_) rfl
  refine v_astore_n (ls' := [some (pA a0), some (pI a1), some (pI a2), some (pA r2), none]) dX10_town_8 (by decide) rfl ?_
  refine v_aload_n dX10_town_9 rfl ?_
  refine v_ifnonnull (tgt := 16) dX10_town_10 (by decide) (fun c5 => ?_) (fun c5 => ?_)
  · refine v_bipush dX10_town_13 (by decide) ?_
    exact v_ireturn dX10_town_15 rfl rfl
  · refine v_iload_n dX10_town_16 rfl ?_
    refine v_if_ne (tgt := 25) dX10_town_17 (by decide) (fun c6 => ?_) (fun c6 => ?_)
    · refine v_aload_n dX10_town_20 rfl ?_
      refine v_if (fun h7 => ?_)
      refine v_get (v := pI (M.1 r2 0)) 7 0 rfl inX7 (by decide) tw58 dX10_town_21 h7 rfl ?_
      exact v_ireturn dX10_town_24 rfl rfl
    · refine v_iload_n dX10_town_25 rfl ?_
      refine v_iconst dX10_town_26 (by decide) ?_
      refine v_icmp_ne (tgt := 35) dX10_town_27 (by decide) (fun c8 => ?_) (fun c8 => ?_)
      · refine v_aload_n dX10_town_30 rfl ?_
        refine v_if (fun h9 => ?_)
        refine v_get (v := pI (M.1 r2 1)) 7 1 rfl inX7 (by decide) tw64 dX10_town_31 h9 rfl ?_
        exact v_ireturn dX10_town_34 rfl rfl
      · refine v_iload_n dX10_town_35 rfl ?_
        refine v_bipush dX10_town_36 (by decide) ?_
        refine v_icmp_ge (tgt := 44) dX10_town_38 (by decide) (fun c10 => ?_) (fun c10 => ?_)
        · refine v_bipush dX10_town_41 (by decide) ?_
          exact v_ireturn dX10_town_43 rfl rfl
        · refine v_iload_n dX10_town_44 rfl ?_
          refine v_bipush dX10_town_45 (by decide) ?_
          refine v_irem (by decide) dX10_town_47 ?_
          refine v_istore (ls' := [some (pA a0), some (pI a1), some (pI a2), some (pA r2), some (pI (a2.tmod 10))]) dX10_town_48 (by decide) rfl ?_
          refine v_iload_n dX10_town_50 rfl ?_
          refine v_bipush dX10_town_51 (by decide) ?_
          refine v_idiv (by decide) dX10_town_53 ?_
          refine v_ite (fun h11 => ?_) (fun h11 => ?_)
          · refine v_tabIn (off := 38) (tgt := 92) dX10_town_54 h11 (by decide) ?_
            refine v_aload_n dX10_town_92 rfl ?_
            refine v_iload dX10_town_93 rfl ?_
            refine v_if (fun h14 => ?_)
            refine v_cV (mi := mX10_town) (c0 := 0) (c1 := 0) (As := [pI (a2.tmod 10)]) (st := []) (kX7_isHouse d (by omega) _ _ _) rfl h14 rfl okX7_isHouse (Or.inl tw684) tw685 tw686 rfl (Nat.le_of_ble_eq_true rfl) dX10_town_95 (fun r12 => [pI r12]) (fun r12 => M) (fun _ => rfl) (fun _ => rfl) (fun r12 h13 => ?_) rfl
            refine v_if_eq (tgt := 111) dX10_town_98 (by decide) (fun c15 => ?_) (fun c15 => ?_)
            · refine v_bipush dX10_town_111 (by decide) ?_
              exact v_ireturn dX10_town_113 rfl rfl
            · refine v_aload_n dX10_town_101 rfl ?_
              refine v_get (v := pA (M.1 r2 4)) 7 4 rfl inX7 (by decide) tw78 dX10_town_102 h14 rfl ?_
              refine v_iload dX10_town_105 rfl ?_
              refine v_if (fun h16 => ?_)
              refine v_iaload h16 dX10_town_107 ?_
              refine v_goto (tgt := 113) dX10_town_108 (by decide) ?_
              exact v_ireturn dX10_town_113 rfl rfl
          · refine v_ite (fun h17 => ?_) (fun h17 => ?_)
            · refine v_tabIn (off := 60) (tgt := 114) dX10_town_54 h17 (by decide) ?_
              refine v_aload_n dX10_town_114 rfl ?_
              refine v_iload dX10_town_115 rfl ?_
              refine v_if (fun h20 => ?_)
              refine v_cV (mi := mX10_town) (c0 := 0) (c1 := 0) (As := [pI (a2.tmod 10)]) (st := []) (kX7_isHouse d (by omega) _ _ _) rfl h20 rfl okX7_isHouse (Or.inl tw684) tw685 tw686 rfl (Nat.le_of_ble_eq_true rfl) dX10_town_117 (fun r18 => [pI r18]) (fun r18 => M) (fun _ => rfl) (fun _ => rfl) (fun r18 h19 => ?_) rfl
              refine v_if_eq (tgt := 133) dX10_town_120 (by decide) (fun c21 => ?_) (fun c21 => ?_)
              · refine v_bipush dX10_town_133 (by decide) ?_
                exact v_ireturn dX10_town_135 rfl rfl
              · refine v_aload_n dX10_town_123 rfl ?_
                refine v_get (v := pA (M.1 r2 5)) 7 5 rfl inX7 (by decide) tw82 dX10_town_124 h20 rfl ?_
                refine v_iload dX10_town_127 rfl ?_
                refine v_if (fun h22 => ?_)
                refine v_iaload h22 dX10_town_129 ?_
                refine v_goto (tgt := 135) dX10_town_130 (by decide) ?_
                exact v_ireturn dX10_town_135 rfl rfl
            · refine v_ite (fun h23 => ?_) (fun h23 => ?_)
              · refine v_tabIn (off := 82) (tgt := 136) dX10_town_54 h23 (by decide) ?_
                refine v_iload dX10_town_136 rfl ?_
                refine v_cS (mi := mX10_town) (c0 := 0) (c1 := 0) (As := [pI (a2.tmod 10)]) (st := []) (kX10_isGood d (by omega) _ _) okX10_isGood (Or.inl tw688) tw689 rfl (Nat.le_of_ble_eq_true rfl) dX10_town_138 (fun r24 => [pI r24]) (fun r24 => M) (fun _ => rfl) (fun _ => rfl) (fun r24 h25 => ?_) rfl
                refine v_if_eq (tgt := 154) dX10_town_141 (by decide) (fun c26 => ?_) (fun c26 => ?_)
                · refine v_bipush dX10_town_154 (by decide) ?_
                  exact v_ireturn dX10_town_156 rfl rfl
                · refine v_aload_n dX10_town_144 rfl ?_
                  refine v_if (fun h27 => ?_)
                  refine v_get (v := pA (M.1 r2 6)) 7 6 rfl inX7 (by decide) tw86 dX10_town_145 h27 rfl ?_
                  refine v_iload dX10_town_148 rfl ?_
                  refine v_if (fun h28 => ?_)
                  refine v_iaload h28 dX10_town_150 ?_
                  refine v_goto (tgt := 156) dX10_town_151 (by decide) ?_
                  exact v_ireturn dX10_town_156 rfl rfl
              · refine v_ite (fun h29 => ?_) (fun h29 => ?_)
                · refine v_tabIn (off := 103) (tgt := 157) dX10_town_54 h29 (by decide) ?_
                  refine v_iload dX10_town_157 rfl ?_
                  refine v_cS (mi := mX10_town) (c0 := 0) (c1 := 0) (As := [pI (a2.tmod 10)]) (st := []) (kX10_isGood d (by omega) _ _) okX10_isGood (Or.inl tw688) tw689 rfl (Nat.le_of_ble_eq_true rfl) dX10_town_159 (fun r30 => [pI r30]) (fun r30 => M) (fun _ => rfl) (fun _ => rfl) (fun r30 h31 => ?_) rfl
                  refine v_if_eq (tgt := 175) dX10_town_162 (by decide) (fun c32 => ?_) (fun c32 => ?_)
                  · refine v_bipush dX10_town_175 (by decide) ?_
                    exact v_ireturn dX10_town_177 rfl rfl
                  · refine v_aload_n dX10_town_165 rfl ?_
                    refine v_if (fun h33 => ?_)
                    refine v_get (v := pA (M.1 r2 7)) 7 7 rfl inX7 (by decide) tw91 dX10_town_166 h33 rfl ?_
                    refine v_iload dX10_town_169 rfl ?_
                    refine v_if (fun h34 => ?_)
                    refine v_iaload h34 dX10_town_171 ?_
                    refine v_goto (tgt := 177) dX10_town_172 (by decide) ?_
                    exact v_ireturn dX10_town_177 rfl rfl
                · refine v_ite (fun h35 => ?_) (fun h35 => ?_)
                  · refine v_tabIn (off := 124) (tgt := 178) dX10_town_54 h35 (by decide) ?_
                    refine v_aload_n dX10_town_178 rfl ?_
                    refine v_iload dX10_town_179 rfl ?_
                    refine v_if (fun h38 => ?_)
                    refine v_cV (mi := mX10_town) (c0 := 0) (c1 := 0) (As := [pI (a2.tmod 10)]) (st := []) (kX7_isThief d (by omega) _ _ _) rfl h38 rfl okX7_isThief (Or.inl tw691) tw692 tw693 rfl (Nat.le_of_ble_eq_true rfl) dX10_town_181 (fun r36 => [pI r36]) (fun r36 => M) (fun _ => rfl) (fun _ => rfl) (fun r36 h37 => ?_) rfl
                    refine v_if_eq (tgt := 197) dX10_town_184 (by decide) (fun c39 => ?_) (fun c39 => ?_)
                    · refine v_bipush dX10_town_197 (by decide) ?_
                      exact v_ireturn dX10_town_199 rfl rfl
                    · refine v_aload_n dX10_town_187 rfl ?_
                      refine v_get (v := pA (M.1 r2 8)) 7 8 rfl inX7 (by decide) tw94 dX10_town_188 h38 rfl ?_
                      refine v_iload dX10_town_191 rfl ?_
                      refine v_if (fun h40 => ?_)
                      refine v_iaload h40 dX10_town_193 ?_
                      refine v_goto (tgt := 199) dX10_town_194 (by decide) ?_
                      exact v_ireturn dX10_town_199 rfl rfl
                  · refine v_ite (fun h41 => ?_) (fun h41 => ?_)
                    · refine v_tabIn (off := 146) (tgt := 200) dX10_town_54 h41 (by decide) ?_
                      refine v_aload_n dX10_town_200 rfl ?_
                      refine v_iload dX10_town_201 rfl ?_
                      refine v_if (fun h44 => ?_)
                      refine v_cV (mi := mX10_town) (c0 := 0) (c1 := 0) (As := [pI (a2.tmod 10)]) (st := []) (kX7_isThief d (by omega) _ _ _) rfl h44 rfl okX7_isThief (Or.inl tw691) tw692 tw693 rfl (Nat.le_of_ble_eq_true rfl) dX10_town_203 (fun r42 => [pI r42]) (fun r42 => M) (fun _ => rfl) (fun _ => rfl) (fun r42 h43 => ?_) rfl
                      refine v_if_eq (tgt := 219) dX10_town_206 (by decide) (fun c45 => ?_) (fun c45 => ?_)
                      · refine v_bipush dX10_town_219 (by decide) ?_
                        exact v_ireturn dX10_town_221 rfl rfl
                      · refine v_aload_n dX10_town_209 rfl ?_
                        refine v_get (v := pA (M.1 r2 9)) 7 9 rfl inX7 (by decide) tw97 dX10_town_210 h44 rfl ?_
                        refine v_iload dX10_town_213 rfl ?_
                        refine v_if (fun h46 => ?_)
                        refine v_iaload h46 dX10_town_215 ?_
                        refine v_goto (tgt := 221) dX10_town_216 (by decide) ?_
                        exact v_ireturn dX10_town_221 rfl rfl
                    · refine v_tabOut (tgt := 222) dX10_town_54 (by omega) (by decide) ?_
                      refine v_bipush dX10_town_222 (by decide) ?_
                      exact v_ireturn dX10_town_224 rfl rfl
theorem chX10_house_0 : (cX10_house.data.toList.drop 0).take 16 = [42, 180, 0, 12, 27, 182, 0, 92, 58, 5, 25, 5, 198, 0, 19, 25] := by decide +kernel
theorem chX10_house_1 : (cX10_house.data.toList.drop 16).take 16 = [5, 28, 182, 0, 104, 153, 0, 10, 29, 184, 0, 115, 154, 0, 5, 2] := by decide +kernel
theorem chX10_house_2 : (cX10_house.data.toList.drop 32).take 16 = [172, 21, 4, 170, 0, 0, 0, 69, 0, 0, 0, 0, 0, 0, 0, 3] := by decide +kernel
theorem chX10_house_4 : (cX10_house.data.toList.drop 64).take 16 = [25, 5, 180, 0, 133, 28, 29, 184, 0, 136, 46, 172, 25, 5, 180, 0] := by decide +kernel
theorem chX10_house_5 : (cX10_house.data.toList.drop 80).take 16 = [139, 28, 29, 184, 0, 136, 46, 172, 25, 5, 28, 29, 182, 0, 142, 172] := by decide +kernel
theorem chX10_house_6 : (cX10_house.data.toList.drop 96).take 16 = [25, 5, 28, 29, 182, 0, 145, 172, 2, 172] := by decide +kernel
theorem dX10_house_0 : decode cX10_house 0 = .ok (.aload_n 0, 1) := oq_42 (byt chX10_house_0 0 rfl)
theorem dX10_house_1 : decode cX10_house 1 = .ok (.getfield 12, 3) := oq_180 (byt chX10_house_0 1 rfl) (byt chX10_house_0 2 rfl) (byt chX10_house_0 3 rfl) rfl
theorem dX10_house_4 : decode cX10_house 4 = .ok (.iload_n 1, 1) := oq_27 (byt chX10_house_0 4 rfl)
theorem dX10_house_5 : decode cX10_house 5 = .ok (.invokevirtual 92, 3) := oq_182 (byt chX10_house_0 5 rfl) (byt chX10_house_0 6 rfl) (byt chX10_house_0 7 rfl) rfl
theorem dX10_house_8 : decode cX10_house 8 = .ok (.astore 5, 2) := oq_58 (byt chX10_house_0 8 rfl) (byt chX10_house_0 9 rfl) rfl
theorem dX10_house_10 : decode cX10_house 10 = .ok (.aload 5, 2) := oq_25 (byt chX10_house_0 10 rfl) (byt chX10_house_0 11 rfl) rfl
theorem dX10_house_12 : decode cX10_house 12 = .ok (.ifnull 19, 3) := oq_198 (byt chX10_house_0 12 rfl) (byt chX10_house_0 13 rfl) (byt chX10_house_0 14 rfl) (by decide +kernel)
theorem dX10_house_15 : decode cX10_house 15 = .ok (.aload 5, 2) := oq_25 (byt chX10_house_0 15 rfl) (byt chX10_house_1 0 rfl) rfl
theorem dX10_house_17 : decode cX10_house 17 = .ok (.iload_n 2, 1) := oq_28 (byt chX10_house_1 1 rfl)
theorem dX10_house_18 : decode cX10_house 18 = .ok (.invokevirtual 104, 3) := oq_182 (byt chX10_house_1 2 rfl) (byt chX10_house_1 3 rfl) (byt chX10_house_1 4 rfl) rfl
theorem dX10_house_21 : decode cX10_house 21 = .ok (.ifCond .eq 10, 3) := oq_153 (byt chX10_house_1 5 rfl) (byt chX10_house_1 6 rfl) (byt chX10_house_1 7 rfl) (by decide +kernel)
theorem dX10_house_24 : decode cX10_house 24 = .ok (.iload_n 3, 1) := oq_29 (byt chX10_house_1 8 rfl)
theorem dX10_house_25 : decode cX10_house 25 = .ok (.invokestatic 115, 3) := oq_184 (byt chX10_house_1 9 rfl) (byt chX10_house_1 10 rfl) (byt chX10_house_1 11 rfl) rfl
theorem dX10_house_28 : decode cX10_house 28 = .ok (.ifCond .ne 5, 3) := oq_154 (byt chX10_house_1 12 rfl) (byt chX10_house_1 13 rfl) (byt chX10_house_1 14 rfl) (by decide +kernel)
theorem dX10_house_31 : decode cX10_house 31 = .ok (.iconst (-1), 1) := oq_2 (byt chX10_house_1 15 rfl)
theorem dX10_house_32 : decode cX10_house 32 = .ok (.ireturn, 1) := oq_172 (byt chX10_house_2 0 rfl)
theorem dX10_house_33 : decode cX10_house 33 = .ok (.iload 4, 2) := oq_21 (byt chX10_house_2 1 rfl) (byt chX10_house_2 2 rfl) rfl
theorem dX10_house_35 : decode cX10_house 35 = .ok (.tableswitch 69 0 3 #[29, 41, 53, 61], 29) := by decide +kernel
theorem dX10_house_64 : decode cX10_house 64 = .ok (.aload 5, 2) := oq_25 (byt chX10_house_4 0 rfl) (byt chX10_house_4 1 rfl) rfl
theorem dX10_house_66 : decode cX10_house 66 = .ok (.getfield 133, 3) := oq_180 (byt chX10_house_4 2 rfl) (byt chX10_house_4 3 rfl) (byt chX10_house_4 4 rfl) rfl
theorem dX10_house_69 : decode cX10_house 69 = .ok (.iload_n 2, 1) := oq_28 (byt chX10_house_4 5 rfl)
theorem dX10_house_70 : decode cX10_house 70 = .ok (.iload_n 3, 1) := oq_29 (byt chX10_house_4 6 rfl)
theorem dX10_house_71 : decode cX10_house 71 = .ok (.invokestatic 136, 3) := oq_184 (byt chX10_house_4 7 rfl) (byt chX10_house_4 8 rfl) (byt chX10_house_4 9 rfl) rfl
theorem dX10_house_74 : decode cX10_house 74 = .ok (.iaload, 1) := oq_46 (byt chX10_house_4 10 rfl)
theorem dX10_house_75 : decode cX10_house 75 = .ok (.ireturn, 1) := oq_172 (byt chX10_house_4 11 rfl)
theorem dX10_house_76 : decode cX10_house 76 = .ok (.aload 5, 2) := oq_25 (byt chX10_house_4 12 rfl) (byt chX10_house_4 13 rfl) rfl
theorem dX10_house_78 : decode cX10_house 78 = .ok (.getfield 139, 3) := oq_180 (byt chX10_house_4 14 rfl) (byt chX10_house_4 15 rfl) (byt chX10_house_5 0 rfl) rfl
theorem dX10_house_81 : decode cX10_house 81 = .ok (.iload_n 2, 1) := oq_28 (byt chX10_house_5 1 rfl)
theorem dX10_house_82 : decode cX10_house 82 = .ok (.iload_n 3, 1) := oq_29 (byt chX10_house_5 2 rfl)
theorem dX10_house_83 : decode cX10_house 83 = .ok (.invokestatic 136, 3) := oq_184 (byt chX10_house_5 3 rfl) (byt chX10_house_5 4 rfl) (byt chX10_house_5 5 rfl) rfl
theorem dX10_house_86 : decode cX10_house 86 = .ok (.iaload, 1) := oq_46 (byt chX10_house_5 6 rfl)
theorem dX10_house_87 : decode cX10_house 87 = .ok (.ireturn, 1) := oq_172 (byt chX10_house_5 7 rfl)
theorem dX10_house_88 : decode cX10_house 88 = .ok (.aload 5, 2) := oq_25 (byt chX10_house_5 8 rfl) (byt chX10_house_5 9 rfl) rfl
theorem dX10_house_90 : decode cX10_house 90 = .ok (.iload_n 2, 1) := oq_28 (byt chX10_house_5 10 rfl)
theorem dX10_house_91 : decode cX10_house 91 = .ok (.iload_n 3, 1) := oq_29 (byt chX10_house_5 11 rfl)
theorem dX10_house_92 : decode cX10_house 92 = .ok (.invokevirtual 142, 3) := oq_182 (byt chX10_house_5 12 rfl) (byt chX10_house_5 13 rfl) (byt chX10_house_5 14 rfl) rfl
theorem dX10_house_95 : decode cX10_house 95 = .ok (.ireturn, 1) := oq_172 (byt chX10_house_5 15 rfl)
theorem dX10_house_96 : decode cX10_house 96 = .ok (.aload 5, 2) := oq_25 (byt chX10_house_6 0 rfl) (byt chX10_house_6 1 rfl) rfl
theorem dX10_house_98 : decode cX10_house 98 = .ok (.iload_n 2, 1) := oq_28 (byt chX10_house_6 2 rfl)
theorem dX10_house_99 : decode cX10_house 99 = .ok (.iload_n 3, 1) := oq_29 (byt chX10_house_6 3 rfl)
theorem dX10_house_100 : decode cX10_house 100 = .ok (.invokevirtual 145, 3) := oq_182 (byt chX10_house_6 4 rfl) (byt chX10_house_6 5 rfl) (byt chX10_house_6 6 rfl) rfl
theorem dX10_house_103 : decode cX10_house 103 = .ok (.ireturn, 1) := oq_172 (byt chX10_house_6 7 rfl)
theorem dX10_house_104 : decode cX10_house 104 = .ok (.iconst (-1), 1) := oq_2 (byt chX10_house_6 8 rfl)
theorem dX10_house_105 : decode cX10_house 105 = .ok (.ireturn, 1) := oq_172 (byt chX10_house_6 9 rfl)
abbrev mX10_house : MI := (yX10_house, cX10_house, 6, (some .int), noE)
theorem okX10_house : cok mX10_house 4 := ⟨tw698, tw1, by decide, by decide, by decide, by decide +kernel⟩
def fX10_house (M : Mem) (a0 a1 a2 a3 a4 : Int) : Option Int :=
  if M.2.1 a0 = 9 then if M.2.1 (M.1 a0 0) = 6 then (fX6_townAt M (M.1 a0 0) a1).bind fun r2 => if r2 = -1 then (some (-1)) else (if M.2.1 r2 = 7 then (fX7_isHouse M r2 a2).bind fun r6 => if r6 = 0 then (some (-1)) else ((fX10_isGood M a3).bind fun r10 => if r10 = 0 then (some (-1)) else (if a4 = 0 then ((fX10_cell M a2 a3).bind fun r14 => if M.2.1 (M.1 r2 2) = 12 ∧ (0 : Int) ≤ r14 ∧ r14 < M.2.2.1 (M.1 r2 2) then some (M.1 (M.1 r2 2) r14) else none) else if a4 = 1 then ((fX10_cell M a2 a3).bind fun r18 => if M.2.1 (M.1 r2 3) = 12 ∧ (0 : Int) ≤ r18 ∧ r18 < M.2.2.1 (M.1 r2 3) then some (M.1 (M.1 r2 3) r18) else none) else if a4 = 2 then ((fX7_spareOf M r2 a2 a3).bind fun r22 => some r22) else if a4 = 3 then ((fX7_lackOf M r2 a2 a3).bind fun r25 => some r25) else some (-1))) else none) else none else none
set_option maxRecDepth 100000 in
set_option maxHeartbeats 4000000 in
theorem kX10_house (d : Nat) (hd : 2 ≤ d) (M : Mem) (a0 a1 a2 a3 a4 : Int) : Ct mX10_house d 0 0 [pA a0, pI a1, pI a2, pI a3, pI a4] M (dI M) (fX10_house M a0 a1 a2 a3 a4) := by
  obtain ⟨d, rfl⟩ : ∃ k, d = k + 1 := ⟨d - 1, by omega⟩
  refine Ct.of 1 (fun _ _ _ => trivial) (by decide +kernel) rfl ?_
  unfold fX10_house
  refine v_aload_n dX10_house_0 rfl ?_
  refine v_if (fun h1 => ?_)
  refine v_get (v := pA (M.1 a0 0)) 9 0 rfl inX10 (by decide) tw421 dX10_house_1 h1 rfl ?_
  refine v_iload_n dX10_house_4 rfl ?_
  refine v_if (fun h4 => ?_)
  refine v_cV (mi := mX10_house) (c0 := 0) (c1 := 0) (As := [pI a1]) (st := []) (kX6_townAt d (by omega) _ _ _) rfl h4 rfl okX6_townAt (Or.inl tw680) tw681 tw682 rfl (Nat.le_of_ble_eq_true rfl) dX10_house_5 (fun r2 => [pA r2]) (fun r2 => M) (fun _ => rfl) (fun _ => rfl) (fun r2 h3 => ?_) rfl
  refine v_astore (ls' := [some (pA a0), some (pI a1), some (pI a2), some (pI a3), some (pI a4), some (pA r2)]) dX10_house_8 (by decide) rfl ?_
  refine v_aload dX10_house_10 rfl ?_
  refine v_ifnull (tgt := 31) dX10_house_12 (by decide) (fun c5 => ?_) (fun c5 => ?_)
  · refine v_iconst dX10_house_31 (by decide) ?_
    exact v_ireturn dX10_house_32 rfl rfl
  · refine v_aload dX10_house_15 rfl ?_
    refine v_iload_n dX10_house_17 rfl ?_
    refine v_if (fun h8 => ?_)
    refine v_cV (mi := mX10_house) (c0 := 0) (c1 := 0) (As := [pI a2]) (st := []) (kX7_isHouse d (by omega) _ _ _) rfl h8 rfl okX7_isHouse (Or.inl tw684) tw685 tw686 rfl (Nat.le_of_ble_eq_true rfl) dX10_house_18 (fun r6 => [pI r6]) (fun r6 => M) (fun _ => rfl) (fun _ => rfl) (fun r6 h7 => ?_) rfl
    refine v_if_eq (tgt := 31) dX10_house_21 (by decide) (fun c9 => ?_) (fun c9 => ?_)
    · refine v_iconst dX10_house_31 (by decide) ?_
      exact v_ireturn dX10_house_32 rfl rfl
    · refine v_iload_n dX10_house_24 rfl ?_
      refine v_cS (mi := mX10_house) (c0 := 0) (c1 := 0) (As := [pI a3]) (st := []) (kX10_isGood d (by omega) _ _) okX10_isGood (Or.inl tw688) tw689 rfl (Nat.le_of_ble_eq_true rfl) dX10_house_25 (fun r10 => [pI r10]) (fun r10 => M) (fun _ => rfl) (fun _ => rfl) (fun r10 h11 => ?_) rfl
      refine v_if_ne (tgt := 33) dX10_house_28 (by decide) (fun c12 => ?_) (fun c12 => ?_)
      · refine v_iconst dX10_house_31 (by decide) ?_
        exact v_ireturn dX10_house_32 rfl rfl
      · refine v_iload dX10_house_33 rfl ?_
        refine v_ite (fun h13 => ?_) (fun h13 => ?_)
        · refine v_tabIn (off := 29) (tgt := 64) dX10_house_35 h13 (by decide) ?_
          refine v_aload dX10_house_64 rfl ?_
          refine v_get (v := pA (M.1 r2 2)) 7 2 rfl inX7 (by decide) tw69 dX10_house_66 h8 rfl ?_
          refine v_iload_n dX10_house_69 rfl ?_
          refine v_iload_n dX10_house_70 rfl ?_
          refine v_cS (mi := mX10_house) (c0 := 0) (c1 := 0) (As := [pI a2, pI a3]) (st := [pA (M.1 r2 2)]) (kX10_cell d (by omega) _ _ _) okX10_cell (Or.inl tw699) tw621 rfl (Nat.le_of_ble_eq_true rfl) dX10_house_71 (fun r14 => [pI r14, pA (M.1 r2 2)]) (fun r14 => M) (fun _ => rfl) (fun _ => rfl) (fun r14 h15 => ?_) rfl
          refine v_if (fun h16 => ?_)
          refine v_iaload h16 dX10_house_74 ?_
          exact v_ireturn dX10_house_75 rfl rfl
        · refine v_ite (fun h17 => ?_) (fun h17 => ?_)
          · refine v_tabIn (off := 41) (tgt := 76) dX10_house_35 h17 (by decide) ?_
            refine v_aload dX10_house_76 rfl ?_
            refine v_get (v := pA (M.1 r2 3)) 7 3 rfl inX7 (by decide) tw74 dX10_house_78 h8 rfl ?_
            refine v_iload_n dX10_house_81 rfl ?_
            refine v_iload_n dX10_house_82 rfl ?_
            refine v_cS (mi := mX10_house) (c0 := 0) (c1 := 0) (As := [pI a2, pI a3]) (st := [pA (M.1 r2 3)]) (kX10_cell d (by omega) _ _ _) okX10_cell (Or.inl tw699) tw621 rfl (Nat.le_of_ble_eq_true rfl) dX10_house_83 (fun r18 => [pI r18, pA (M.1 r2 3)]) (fun r18 => M) (fun _ => rfl) (fun _ => rfl) (fun r18 h19 => ?_) rfl
            refine v_if (fun h20 => ?_)
            refine v_iaload h20 dX10_house_86 ?_
            exact v_ireturn dX10_house_87 rfl rfl
          · refine v_ite (fun h21 => ?_) (fun h21 => ?_)
            · refine v_tabIn (off := 53) (tgt := 88) dX10_house_35 h21 (by decide) ?_
              refine v_aload dX10_house_88 rfl ?_
              refine v_iload_n dX10_house_90 rfl ?_
              refine v_iload_n dX10_house_91 rfl ?_
              refine v_cV (mi := mX10_house) (c0 := 0) (c1 := 0) (As := [pI a2, pI a3]) (st := []) (kX7_spareOf d (by omega) _ _ _ _) rfl h8 rfl okX7_spareOf (Or.inl tw700) tw701 tw702 rfl (Nat.le_of_ble_eq_true rfl) dX10_house_92 (fun r22 => [pI r22]) (fun r22 => M) (fun _ => rfl) (fun _ => rfl) (fun r22 h23 => ?_) rfl
              exact v_ireturn dX10_house_95 rfl rfl
            · refine v_ite (fun h24 => ?_) (fun h24 => ?_)
              · refine v_tabIn (off := 61) (tgt := 96) dX10_house_35 h24 (by decide) ?_
                refine v_aload dX10_house_96 rfl ?_
                refine v_iload_n dX10_house_98 rfl ?_
                refine v_iload_n dX10_house_99 rfl ?_
                refine v_cV (mi := mX10_house) (c0 := 0) (c1 := 0) (As := [pI a2, pI a3]) (st := []) (kX7_lackOf d (by omega) _ _ _ _) rfl h8 rfl okX7_lackOf (Or.inl tw706) tw707 tw708 rfl (Nat.le_of_ble_eq_true rfl) dX10_house_100 (fun r25 => [pI r25]) (fun r25 => M) (fun _ => rfl) (fun _ => rfl) (fun r25 h26 => ?_) rfl
                exact v_ireturn dX10_house_103 rfl rfl
              · refine v_tabOut (tgt := 104) dX10_house_35 (by omega) (by decide) ?_
                refine v_iconst dX10_house_104 (by decide) ?_
                exact v_ireturn dX10_house_105 rfl rfl
theorem chX10_law_0 : (cX10_law.data.toList.drop 0).take 16 = [42, 180, 0, 12, 27, 182, 0, 148, 78, 45, 199, 0, 5, 2, 172, 28] := by decide +kernel
theorem chX10_law_1 : (cX10_law.data.toList.drop 16).take 16 = [154, 0, 8, 45, 180, 0, 152, 172, 28, 4, 160, 0, 8, 45, 180, 0] := by decide +kernel
theorem chX10_law_2 : (cX10_law.data.toList.drop 32).take 16 = [157, 172, 28, 16, 10, 161, 0, 9, 28, 16, 30, 161, 0, 5, 2, 172] := by decide +kernel
theorem chX10_law_3 : (cX10_law.data.toList.drop 48).take 16 = [45, 28, 16, 10, 100, 182, 0, 160, 4, 100, 172] := by decide +kernel
theorem dX10_law_0 : decode cX10_law 0 = .ok (.aload_n 0, 1) := oq_42 (byt chX10_law_0 0 rfl)
theorem dX10_law_1 : decode cX10_law 1 = .ok (.getfield 12, 3) := oq_180 (byt chX10_law_0 1 rfl) (byt chX10_law_0 2 rfl) (byt chX10_law_0 3 rfl) rfl
theorem dX10_law_4 : decode cX10_law 4 = .ok (.iload_n 1, 1) := oq_27 (byt chX10_law_0 4 rfl)
theorem dX10_law_5 : decode cX10_law 5 = .ok (.invokevirtual 148, 3) := oq_182 (byt chX10_law_0 5 rfl) (byt chX10_law_0 6 rfl) (byt chX10_law_0 7 rfl) rfl
theorem dX10_law_8 : decode cX10_law 8 = .ok (.astore_n 3, 1) := oq_78 (byt chX10_law_0 8 rfl)
theorem dX10_law_9 : decode cX10_law 9 = .ok (.aload_n 3, 1) := oq_45 (byt chX10_law_0 9 rfl)
theorem dX10_law_10 : decode cX10_law 10 = .ok (.ifnonnull 5, 3) := oq_199 (byt chX10_law_0 10 rfl) (byt chX10_law_0 11 rfl) (byt chX10_law_0 12 rfl) (by decide +kernel)
theorem dX10_law_13 : decode cX10_law 13 = .ok (.iconst (-1), 1) := oq_2 (byt chX10_law_0 13 rfl)
theorem dX10_law_14 : decode cX10_law 14 = .ok (.ireturn, 1) := oq_172 (byt chX10_law_0 14 rfl)
theorem dX10_law_15 : decode cX10_law 15 = .ok (.iload_n 2, 1) := oq_28 (byt chX10_law_0 15 rfl)
theorem dX10_law_16 : decode cX10_law 16 = .ok (.ifCond .ne 8, 3) := oq_154 (byt chX10_law_1 0 rfl) (byt chX10_law_1 1 rfl) (byt chX10_law_1 2 rfl) (by decide +kernel)
theorem dX10_law_19 : decode cX10_law 19 = .ok (.aload_n 3, 1) := oq_45 (byt chX10_law_1 3 rfl)
theorem dX10_law_20 : decode cX10_law 20 = .ok (.getfield 152, 3) := oq_180 (byt chX10_law_1 4 rfl) (byt chX10_law_1 5 rfl) (byt chX10_law_1 6 rfl) rfl
theorem dX10_law_23 : decode cX10_law 23 = .ok (.ireturn, 1) := oq_172 (byt chX10_law_1 7 rfl)
theorem dX10_law_24 : decode cX10_law 24 = .ok (.iload_n 2, 1) := oq_28 (byt chX10_law_1 8 rfl)
theorem dX10_law_25 : decode cX10_law 25 = .ok (.iconst 1, 1) := oq_4 (byt chX10_law_1 9 rfl)
theorem dX10_law_26 : decode cX10_law 26 = .ok (.if_icmp .ne 8, 3) := oq_160 (byt chX10_law_1 10 rfl) (byt chX10_law_1 11 rfl) (byt chX10_law_1 12 rfl) (by decide +kernel)
theorem dX10_law_29 : decode cX10_law 29 = .ok (.aload_n 3, 1) := oq_45 (byt chX10_law_1 13 rfl)
theorem dX10_law_30 : decode cX10_law 30 = .ok (.getfield 157, 3) := oq_180 (byt chX10_law_1 14 rfl) (byt chX10_law_1 15 rfl) (byt chX10_law_2 0 rfl) rfl
theorem dX10_law_33 : decode cX10_law 33 = .ok (.ireturn, 1) := oq_172 (byt chX10_law_2 1 rfl)
theorem dX10_law_34 : decode cX10_law 34 = .ok (.iload_n 2, 1) := oq_28 (byt chX10_law_2 2 rfl)
theorem dX10_law_35 : decode cX10_law 35 = .ok (.bipush 10, 2) := oq_16 (byt chX10_law_2 3 rfl) (byt chX10_law_2 4 rfl) rfl
theorem dX10_law_37 : decode cX10_law 37 = .ok (.if_icmp .lt 9, 3) := oq_161 (byt chX10_law_2 5 rfl) (byt chX10_law_2 6 rfl) (byt chX10_law_2 7 rfl) (by decide +kernel)
theorem dX10_law_40 : decode cX10_law 40 = .ok (.iload_n 2, 1) := oq_28 (byt chX10_law_2 8 rfl)
theorem dX10_law_41 : decode cX10_law 41 = .ok (.bipush 30, 2) := oq_16 (byt chX10_law_2 9 rfl) (byt chX10_law_2 10 rfl) rfl
theorem dX10_law_43 : decode cX10_law 43 = .ok (.if_icmp .lt 5, 3) := oq_161 (byt chX10_law_2 11 rfl) (byt chX10_law_2 12 rfl) (byt chX10_law_2 13 rfl) (by decide +kernel)
theorem dX10_law_46 : decode cX10_law 46 = .ok (.iconst (-1), 1) := oq_2 (byt chX10_law_2 14 rfl)
theorem dX10_law_47 : decode cX10_law 47 = .ok (.ireturn, 1) := oq_172 (byt chX10_law_2 15 rfl)
theorem dX10_law_48 : decode cX10_law 48 = .ok (.aload_n 3, 1) := oq_45 (byt chX10_law_3 0 rfl)
theorem dX10_law_49 : decode cX10_law 49 = .ok (.iload_n 2, 1) := oq_28 (byt chX10_law_3 1 rfl)
theorem dX10_law_50 : decode cX10_law 50 = .ok (.bipush 10, 2) := oq_16 (byt chX10_law_3 2 rfl) (byt chX10_law_3 3 rfl) rfl
theorem dX10_law_52 : decode cX10_law 52 = .ok (.isub, 1) := oq_100 (byt chX10_law_3 4 rfl)
theorem dX10_law_53 : decode cX10_law 53 = .ok (.invokevirtual 160, 3) := oq_182 (byt chX10_law_3 5 rfl) (byt chX10_law_3 6 rfl) (byt chX10_law_3 7 rfl) rfl
theorem dX10_law_56 : decode cX10_law 56 = .ok (.iconst 1, 1) := oq_4 (byt chX10_law_3 8 rfl)
theorem dX10_law_57 : decode cX10_law 57 = .ok (.isub, 1) := oq_100 (byt chX10_law_3 9 rfl)
theorem dX10_law_58 : decode cX10_law 58 = .ok (.ireturn, 1) := oq_172 (byt chX10_law_3 10 rfl)
abbrev mX10_law : MI := (yX10_law, cX10_law, 4, (some .int), noE)
theorem okX10_law : cok mX10_law 2 := ⟨tw713, tw1, by decide, by decide, by decide, by decide +kernel⟩
def fX10_law (M : Mem) (a0 a1 a2 : Int) : Option Int :=
  if M.2.1 a0 = 9 then if M.2.1 (M.1 a0 0) = 6 then (fX6_lawAt M (M.1 a0 0) a1).bind fun r2 => if r2 = -1 then (some (-1)) else (if a2 = 0 then (if M.2.1 r2 = 0 then some (M.1 r2 0) else none) else (if a2 = 1 then (if M.2.1 r2 = 0 then some (M.1 r2 1) else none) else (if a2 < 10 then (some (-1)) else (if a2 < 30 then (if M.2.1 r2 = 0 then (fX0_counts M r2 (w32 (a2 - 10))).bind fun r12 => some (w32 (r12 - 1)) else none) else (some (-1)))))) else none else none
set_option maxRecDepth 100000 in
set_option maxHeartbeats 4000000 in
theorem kX10_law (d : Nat) (hd : 2 ≤ d) (M : Mem) (a0 a1 a2 : Int) : Ct mX10_law d 0 0 [pA a0, pI a1, pI a2] M (dI M) (fX10_law M a0 a1 a2) := by
  obtain ⟨d, rfl⟩ : ∃ k, d = k + 1 := ⟨d - 1, by omega⟩
  refine Ct.of 1 (fun _ _ _ => trivial) (by decide +kernel) rfl ?_
  unfold fX10_law
  refine v_aload_n dX10_law_0 rfl ?_
  refine v_if (fun h1 => ?_)
  refine v_get (v := pA (M.1 a0 0)) 9 0 rfl inX10 (by decide) tw421 dX10_law_1 h1 rfl ?_
  refine v_iload_n dX10_law_4 rfl ?_
  refine v_if (fun h4 => ?_)
  refine v_cV (mi := mX10_law) (c0 := 0) (c1 := 0) (As := [pI a1]) (st := []) (kX6_lawAt d (by omega) _ _ _) rfl h4 rfl okX6_lawAt (Or.inl tw714) tw715 tw716 rfl (Nat.le_of_ble_eq_true rfl) dX10_law_5 (fun r2 => [pA r2]) (fun r2 => M) (fun _ => rfl) (fun _ => rfl) (fun r2 h3 => ?_) rfl
  refine v_astore_n (ls' := [some (pA a0), some (pI a1), some (pI a2), some (pA r2)]) dX10_law_8 (by decide) rfl ?_
  refine v_aload_n dX10_law_9 rfl ?_
  refine v_ifnonnull (tgt := 15) dX10_law_10 (by decide) (fun c5 => ?_) (fun c5 => ?_)
  · refine v_iconst dX10_law_13 (by decide) ?_
    exact v_ireturn dX10_law_14 rfl rfl
  · refine v_iload_n dX10_law_15 rfl ?_
    refine v_if_ne (tgt := 24) dX10_law_16 (by decide) (fun c6 => ?_) (fun c6 => ?_)
    · refine v_aload_n dX10_law_19 rfl ?_
      refine v_if (fun h7 => ?_)
      refine v_get (v := pI (M.1 r2 0)) 0 0 rfl inX0 (by decide) tw128 dX10_law_20 h7 rfl ?_
      exact v_ireturn dX10_law_23 rfl rfl
    · refine v_iload_n dX10_law_24 rfl ?_
      refine v_iconst dX10_law_25 (by decide) ?_
      refine v_icmp_ne (tgt := 34) dX10_law_26 (by decide) (fun c8 => ?_) (fun c8 => ?_)
      · refine v_aload_n dX10_law_29 rfl ?_
        refine v_if (fun h9 => ?_)
        refine v_get (v := pI (M.1 r2 1)) 0 1 rfl inX0 (by decide) tw131 dX10_law_30 h9 rfl ?_
        exact v_ireturn dX10_law_33 rfl rfl
      · refine v_iload_n dX10_law_34 rfl ?_
        refine v_bipush dX10_law_35 (by decide) ?_
        refine v_icmp_lt (tgt := 46) dX10_law_37 (by decide) (fun c10 => ?_) (fun c10 => ?_)
        · refine v_iconst dX10_law_46 (by decide) ?_
          exact v_ireturn dX10_law_47 rfl rfl
        · refine v_iload_n dX10_law_40 rfl ?_
          refine v_bipush dX10_law_41 (by decide) ?_
          refine v_icmp_lt (tgt := 48) dX10_law_43 (by decide) (fun c11 => ?_) (fun c11 => ?_)
          · refine v_aload_n dX10_law_48 rfl ?_
            refine v_iload_n dX10_law_49 rfl ?_
            refine v_bipush dX10_law_50 (by decide) ?_
            refine v_isub dX10_law_52 ?_
            refine v_if (fun h14 => ?_)
            refine v_cV (mi := mX10_law) (c0 := 0) (c1 := 0) (As := [pI (w32 (a2 - 10))]) (st := []) (kX0_counts d (by omega) _ _ _) rfl h14 rfl okX0_counts (Or.inl tw718) tw719 tw720 rfl (Nat.le_of_ble_eq_true rfl) dX10_law_53 (fun r12 => [pI r12]) (fun r12 => M) (fun _ => rfl) (fun _ => rfl) (fun r12 h13 => ?_) rfl
            refine v_iconst dX10_law_56 (by decide) ?_
            refine v_isub dX10_law_57 ?_
            exact v_ireturn dX10_law_58 rfl rfl
          · refine v_iconst dX10_law_46 (by decide) ?_
            exact v_ireturn dX10_law_47 rfl rfl
theorem chX10_deed_0 : (cX10_deed.data.toList.drop 0).take 16 = [42, 180, 0, 12, 27, 182, 0, 164, 58, 4, 25, 4, 199, 0, 6, 16] := by decide +kernel
theorem chX10_deed_1 : (cX10_deed.data.toList.drop 16).take 16 = [254, 172, 28, 2, 160, 0, 18, 29, 154, 0, 11, 25, 4, 180, 0, 168] := by decide +kernel
theorem chX10_deed_2 : (cX10_deed.data.toList.drop 32).take 16 = [167, 0, 5, 16, 254, 172, 28, 155, 0, 12, 28, 25, 4, 180, 0, 168] := by decide +kernel
theorem chX10_deed_3 : (cX10_deed.data.toList.drop 48).take 16 = [161, 0, 6, 16, 254, 172, 29, 170, 0, 0, 0, 61, 0, 0, 0, 0] := by decide +kernel
theorem chX10_deed_5 : (cX10_deed.data.toList.drop 80).take 16 = [0, 0, 0, 53, 25, 4, 180, 0, 173, 28, 46, 172, 25, 4, 180, 0] := by decide +kernel
theorem chX10_deed_6 : (cX10_deed.data.toList.drop 96).take 16 = [176, 28, 46, 172, 25, 4, 180, 0, 179, 28, 46, 172, 25, 4, 180, 0] := by decide +kernel
theorem chX10_deed_7 : (cX10_deed.data.toList.drop 112).take 16 = [182, 28, 46, 172, 16, 254, 172] := by decide +kernel
theorem dX10_deed_0 : decode cX10_deed 0 = .ok (.aload_n 0, 1) := oq_42 (byt chX10_deed_0 0 rfl)
theorem dX10_deed_1 : decode cX10_deed 1 = .ok (.getfield 12, 3) := oq_180 (byt chX10_deed_0 1 rfl) (byt chX10_deed_0 2 rfl) (byt chX10_deed_0 3 rfl) rfl
theorem dX10_deed_4 : decode cX10_deed 4 = .ok (.iload_n 1, 1) := oq_27 (byt chX10_deed_0 4 rfl)
theorem dX10_deed_5 : decode cX10_deed 5 = .ok (.invokevirtual 164, 3) := oq_182 (byt chX10_deed_0 5 rfl) (byt chX10_deed_0 6 rfl) (byt chX10_deed_0 7 rfl) rfl
theorem dX10_deed_8 : decode cX10_deed 8 = .ok (.astore 4, 2) := oq_58 (byt chX10_deed_0 8 rfl) (byt chX10_deed_0 9 rfl) rfl
theorem dX10_deed_10 : decode cX10_deed 10 = .ok (.aload 4, 2) := oq_25 (byt chX10_deed_0 10 rfl) (byt chX10_deed_0 11 rfl) rfl
theorem dX10_deed_12 : decode cX10_deed 12 = .ok (.ifnonnull 6, 3) := oq_199 (byt chX10_deed_0 12 rfl) (byt chX10_deed_0 13 rfl) (byt chX10_deed_0 14 rfl) (by decide +kernel)
theorem dX10_deed_15 : decode cX10_deed 15 = .ok (.bipush (-2), 2) := oq_16 (byt chX10_deed_0 15 rfl) (byt chX10_deed_1 0 rfl) rfl
theorem dX10_deed_17 : decode cX10_deed 17 = .ok (.ireturn, 1) := oq_172 (byt chX10_deed_1 1 rfl)
theorem dX10_deed_18 : decode cX10_deed 18 = .ok (.iload_n 2, 1) := oq_28 (byt chX10_deed_1 2 rfl)
theorem dX10_deed_19 : decode cX10_deed 19 = .ok (.iconst (-1), 1) := oq_2 (byt chX10_deed_1 3 rfl)
theorem dX10_deed_20 : decode cX10_deed 20 = .ok (.if_icmp .ne 18, 3) := oq_160 (byt chX10_deed_1 4 rfl) (byt chX10_deed_1 5 rfl) (byt chX10_deed_1 6 rfl) (by decide +kernel)
theorem dX10_deed_23 : decode cX10_deed 23 = .ok (.iload_n 3, 1) := oq_29 (byt chX10_deed_1 7 rfl)
theorem dX10_deed_24 : decode cX10_deed 24 = .ok (.ifCond .ne 11, 3) := oq_154 (byt chX10_deed_1 8 rfl) (byt chX10_deed_1 9 rfl) (byt chX10_deed_1 10 rfl) (by decide +kernel)
theorem dX10_deed_27 : decode cX10_deed 27 = .ok (.aload 4, 2) := oq_25 (byt chX10_deed_1 11 rfl) (byt chX10_deed_1 12 rfl) rfl
theorem dX10_deed_29 : decode cX10_deed 29 = .ok (.getfield 168, 3) := oq_180 (byt chX10_deed_1 13 rfl) (byt chX10_deed_1 14 rfl) (byt chX10_deed_1 15 rfl) rfl
theorem dX10_deed_32 : decode cX10_deed 32 = .ok (.goto 5, 3) := oq_167 (byt chX10_deed_2 0 rfl) (byt chX10_deed_2 1 rfl) (byt chX10_deed_2 2 rfl) (by decide +kernel)
theorem dX10_deed_35 : decode cX10_deed 35 = .ok (.bipush (-2), 2) := oq_16 (byt chX10_deed_2 3 rfl) (byt chX10_deed_2 4 rfl) rfl
theorem dX10_deed_37 : decode cX10_deed 37 = .ok (.ireturn, 1) := oq_172 (byt chX10_deed_2 5 rfl)
theorem dX10_deed_38 : decode cX10_deed 38 = .ok (.iload_n 2, 1) := oq_28 (byt chX10_deed_2 6 rfl)
theorem dX10_deed_39 : decode cX10_deed 39 = .ok (.ifCond .lt 12, 3) := oq_155 (byt chX10_deed_2 7 rfl) (byt chX10_deed_2 8 rfl) (byt chX10_deed_2 9 rfl) (by decide +kernel)
theorem dX10_deed_42 : decode cX10_deed 42 = .ok (.iload_n 2, 1) := oq_28 (byt chX10_deed_2 10 rfl)
theorem dX10_deed_43 : decode cX10_deed 43 = .ok (.aload 4, 2) := oq_25 (byt chX10_deed_2 11 rfl) (byt chX10_deed_2 12 rfl) rfl
theorem dX10_deed_45 : decode cX10_deed 45 = .ok (.getfield 168, 3) := oq_180 (byt chX10_deed_2 13 rfl) (byt chX10_deed_2 14 rfl) (byt chX10_deed_2 15 rfl) rfl
theorem dX10_deed_48 : decode cX10_deed 48 = .ok (.if_icmp .lt 6, 3) := oq_161 (byt chX10_deed_3 0 rfl) (byt chX10_deed_3 1 rfl) (byt chX10_deed_3 2 rfl) (by decide +kernel)
theorem dX10_deed_51 : decode cX10_deed 51 = .ok (.bipush (-2), 2) := oq_16 (byt chX10_deed_3 3 rfl) (byt chX10_deed_3 4 rfl) rfl
theorem dX10_deed_53 : decode cX10_deed 53 = .ok (.ireturn, 1) := oq_172 (byt chX10_deed_3 5 rfl)
theorem dX10_deed_54 : decode cX10_deed 54 = .ok (.iload_n 3, 1) := oq_29 (byt chX10_deed_3 6 rfl)
theorem dX10_deed_55 : decode cX10_deed 55 = .ok (.tableswitch 61 0 3 #[29, 37, 45, 53], 29) := by decide +kernel
theorem dX10_deed_84 : decode cX10_deed 84 = .ok (.aload 4, 2) := oq_25 (byt chX10_deed_5 4 rfl) (byt chX10_deed_5 5 rfl) rfl
theorem dX10_deed_86 : decode cX10_deed 86 = .ok (.getfield 173, 3) := oq_180 (byt chX10_deed_5 6 rfl) (byt chX10_deed_5 7 rfl) (byt chX10_deed_5 8 rfl) rfl
theorem dX10_deed_89 : decode cX10_deed 89 = .ok (.iload_n 2, 1) := oq_28 (byt chX10_deed_5 9 rfl)
theorem dX10_deed_90 : decode cX10_deed 90 = .ok (.iaload, 1) := oq_46 (byt chX10_deed_5 10 rfl)
theorem dX10_deed_91 : decode cX10_deed 91 = .ok (.ireturn, 1) := oq_172 (byt chX10_deed_5 11 rfl)
theorem dX10_deed_92 : decode cX10_deed 92 = .ok (.aload 4, 2) := oq_25 (byt chX10_deed_5 12 rfl) (byt chX10_deed_5 13 rfl) rfl
theorem dX10_deed_94 : decode cX10_deed 94 = .ok (.getfield 176, 3) := oq_180 (byt chX10_deed_5 14 rfl) (byt chX10_deed_5 15 rfl) (byt chX10_deed_6 0 rfl) rfl
theorem dX10_deed_97 : decode cX10_deed 97 = .ok (.iload_n 2, 1) := oq_28 (byt chX10_deed_6 1 rfl)
theorem dX10_deed_98 : decode cX10_deed 98 = .ok (.iaload, 1) := oq_46 (byt chX10_deed_6 2 rfl)
theorem dX10_deed_99 : decode cX10_deed 99 = .ok (.ireturn, 1) := oq_172 (byt chX10_deed_6 3 rfl)
theorem dX10_deed_100 : decode cX10_deed 100 = .ok (.aload 4, 2) := oq_25 (byt chX10_deed_6 4 rfl) (byt chX10_deed_6 5 rfl) rfl
theorem dX10_deed_102 : decode cX10_deed 102 = .ok (.getfield 179, 3) := oq_180 (byt chX10_deed_6 6 rfl) (byt chX10_deed_6 7 rfl) (byt chX10_deed_6 8 rfl) rfl
theorem dX10_deed_105 : decode cX10_deed 105 = .ok (.iload_n 2, 1) := oq_28 (byt chX10_deed_6 9 rfl)
theorem dX10_deed_106 : decode cX10_deed 106 = .ok (.iaload, 1) := oq_46 (byt chX10_deed_6 10 rfl)
theorem dX10_deed_107 : decode cX10_deed 107 = .ok (.ireturn, 1) := oq_172 (byt chX10_deed_6 11 rfl)
theorem dX10_deed_108 : decode cX10_deed 108 = .ok (.aload 4, 2) := oq_25 (byt chX10_deed_6 12 rfl) (byt chX10_deed_6 13 rfl) rfl
theorem dX10_deed_110 : decode cX10_deed 110 = .ok (.getfield 182, 3) := oq_180 (byt chX10_deed_6 14 rfl) (byt chX10_deed_6 15 rfl) (byt chX10_deed_7 0 rfl) rfl
theorem dX10_deed_113 : decode cX10_deed 113 = .ok (.iload_n 2, 1) := oq_28 (byt chX10_deed_7 1 rfl)
theorem dX10_deed_114 : decode cX10_deed 114 = .ok (.iaload, 1) := oq_46 (byt chX10_deed_7 2 rfl)
theorem dX10_deed_115 : decode cX10_deed 115 = .ok (.ireturn, 1) := oq_172 (byt chX10_deed_7 3 rfl)
theorem dX10_deed_116 : decode cX10_deed 116 = .ok (.bipush (-2), 2) := oq_16 (byt chX10_deed_7 4 rfl) (byt chX10_deed_7 5 rfl) rfl
theorem dX10_deed_118 : decode cX10_deed 118 = .ok (.ireturn, 1) := oq_172 (byt chX10_deed_7 6 rfl)
abbrev mX10_deed : MI := (yX10_deed, cX10_deed, 5, (some .int), noE)
theorem okX10_deed : cok mX10_deed 3 := ⟨tw725, tw1, by decide, by decide, by decide, by decide +kernel⟩
def fX10_deed (M : Mem) (a0 a1 a2 a3 : Int) : Option Int :=
  if M.2.1 a0 = 9 then if M.2.1 (M.1 a0 0) = 6 then (fX6_nightsAt M (M.1 a0 0) a1).bind fun r2 => if r2 = -1 then (some (-2)) else (if a2 = (-1) then (if a3 = 0 then (if M.2.1 r2 = 1 then some (M.1 r2 0) else none) else (some (-2))) else (if a2 < 0 then (some (-2)) else (if M.2.1 r2 = 1 then if a2 < M.1 r2 0 then (if a3 = 0 then (if M.2.1 (M.1 r2 1) = 12 ∧ (0 : Int) ≤ a2 ∧ a2 < M.2.2.1 (M.1 r2 1) then some (M.1 (M.1 r2 1) a2) else none) else if a3 = 1 then (if M.2.1 (M.1 r2 2) = 12 ∧ (0 : Int) ≤ a2 ∧ a2 < M.2.2.1 (M.1 r2 2) then some (M.1 (M.1 r2 2) a2) else none) else if a3 = 2 then (if M.2.1 (M.1 r2 3) = 12 ∧ (0 : Int) ≤ a2 ∧ a2 < M.2.2.1 (M.1 r2 3) then some (M.1 (M.1 r2 3) a2) else none) else if a3 = 3 then (if M.2.1 (M.1 r2 4) = 12 ∧ (0 : Int) ≤ a2 ∧ a2 < M.2.2.1 (M.1 r2 4) then some (M.1 (M.1 r2 4) a2) else none) else some (-2)) else (some (-2)) else none))) else none else none
set_option maxRecDepth 100000 in
set_option maxHeartbeats 4000000 in
theorem kX10_deed (d : Nat) (hd : 2 ≤ d) (M : Mem) (a0 a1 a2 a3 : Int) : Ct mX10_deed d 0 0 [pA a0, pI a1, pI a2, pI a3] M (dI M) (fX10_deed M a0 a1 a2 a3) := by
  obtain ⟨d, rfl⟩ : ∃ k, d = k + 1 := ⟨d - 1, by omega⟩
  refine Ct.of 1 (fun _ _ _ => trivial) (by decide +kernel) rfl ?_
  unfold fX10_deed
  refine v_aload_n dX10_deed_0 rfl ?_
  refine v_if (fun h1 => ?_)
  refine v_get (v := pA (M.1 a0 0)) 9 0 rfl inX10 (by decide) tw421 dX10_deed_1 h1 rfl ?_
  refine v_iload_n dX10_deed_4 rfl ?_
  refine v_if (fun h4 => ?_)
  refine v_cV (mi := mX10_deed) (c0 := 0) (c1 := 0) (As := [pI a1]) (st := []) (kX6_nightsAt d (by omega) _ _ _) rfl h4 rfl okX6_nightsAt (Or.inl tw726) tw727 tw728 rfl (Nat.le_of_ble_eq_true rfl) dX10_deed_5 (fun r2 => [pA r2]) (fun r2 => M) (fun _ => rfl) (fun _ => rfl) (fun r2 h3 => ?_) rfl
  refine v_astore (ls' := [some (pA a0), some (pI a1), some (pI a2), some (pI a3), some (pA r2)]) dX10_deed_8 (by decide) rfl ?_
  refine v_aload dX10_deed_10 rfl ?_
  refine v_ifnonnull (tgt := 18) dX10_deed_12 (by decide) (fun c5 => ?_) (fun c5 => ?_)
  · refine v_bipush dX10_deed_15 (by decide) ?_
    exact v_ireturn dX10_deed_17 rfl rfl
  · refine v_iload_n dX10_deed_18 rfl ?_
    refine v_iconst dX10_deed_19 (by decide) ?_
    refine v_icmp_ne (tgt := 38) dX10_deed_20 (by decide) (fun c6 => ?_) (fun c6 => ?_)
    · refine v_iload_n dX10_deed_23 rfl ?_
      refine v_if_ne (tgt := 35) dX10_deed_24 (by decide) (fun c7 => ?_) (fun c7 => ?_)
      · refine v_aload dX10_deed_27 rfl ?_
        refine v_if (fun h8 => ?_)
        refine v_get (v := pI (M.1 r2 0)) 1 0 rfl inX1 (by decide) tw151 dX10_deed_29 h8 rfl ?_
        refine v_goto (tgt := 37) dX10_deed_32 (by decide) ?_
        exact v_ireturn dX10_deed_37 rfl rfl
      · refine v_bipush dX10_deed_35 (by decide) ?_
        exact v_ireturn dX10_deed_37 rfl rfl
    · refine v_iload_n dX10_deed_38 rfl ?_
      refine v_if_lt (tgt := 51) dX10_deed_39 (by decide) (fun c9 => ?_) (fun c9 => ?_)
      · refine v_bipush dX10_deed_51 (by decide) ?_
        exact v_ireturn dX10_deed_53 rfl rfl
      · refine v_iload_n dX10_deed_42 rfl ?_
        refine v_aload dX10_deed_43 rfl ?_
        refine v_if (fun h10 => ?_)
        refine v_get (v := pI (M.1 r2 0)) 1 0 rfl inX1 (by decide) tw151 dX10_deed_45 h10 rfl ?_
        refine v_icmp_lt (tgt := 54) dX10_deed_48 (by decide) (fun c11 => ?_) (fun c11 => ?_)
        · refine v_iload_n dX10_deed_54 rfl ?_
          refine v_ite (fun h12 => ?_) (fun h12 => ?_)
          · refine v_tabIn (off := 29) (tgt := 84) dX10_deed_55 h12 (by decide) ?_
            refine v_aload dX10_deed_84 rfl ?_
            refine v_get (v := pA (M.1 r2 1)) 1 1 rfl inX1 (by decide) tw154 dX10_deed_86 h10 rfl ?_
            refine v_iload_n dX10_deed_89 rfl ?_
            refine v_if (fun h13 => ?_)
            refine v_iaload h13 dX10_deed_90 ?_
            exact v_ireturn dX10_deed_91 rfl rfl
          · refine v_ite (fun h14 => ?_) (fun h14 => ?_)
            · refine v_tabIn (off := 37) (tgt := 92) dX10_deed_55 h14 (by decide) ?_
              refine v_aload dX10_deed_92 rfl ?_
              refine v_get (v := pA (M.1 r2 2)) 1 2 rfl inX1 (by decide) tw157 dX10_deed_94 h10 rfl ?_
              refine v_iload_n dX10_deed_97 rfl ?_
              refine v_if (fun h15 => ?_)
              refine v_iaload h15 dX10_deed_98 ?_
              exact v_ireturn dX10_deed_99 rfl rfl
            · refine v_ite (fun h16 => ?_) (fun h16 => ?_)
              · refine v_tabIn (off := 45) (tgt := 100) dX10_deed_55 h16 (by decide) ?_
                refine v_aload dX10_deed_100 rfl ?_
                refine v_get (v := pA (M.1 r2 3)) 1 3 rfl inX1 (by decide) tw160 dX10_deed_102 h10 rfl ?_
                refine v_iload_n dX10_deed_105 rfl ?_
                refine v_if (fun h17 => ?_)
                refine v_iaload h17 dX10_deed_106 ?_
                exact v_ireturn dX10_deed_107 rfl rfl
              · refine v_ite (fun h18 => ?_) (fun h18 => ?_)
                · refine v_tabIn (off := 53) (tgt := 108) dX10_deed_55 h18 (by decide) ?_
                  refine v_aload dX10_deed_108 rfl ?_
                  refine v_get (v := pA (M.1 r2 4)) 1 4 rfl inX1 (by decide) tw163 dX10_deed_110 h10 rfl ?_
                  refine v_iload_n dX10_deed_113 rfl ?_
                  refine v_if (fun h19 => ?_)
                  refine v_iaload h19 dX10_deed_114 ?_
                  exact v_ireturn dX10_deed_115 rfl rfl
                · refine v_tabOut (tgt := 116) dX10_deed_55 (by omega) (by decide) ?_
                  refine v_bipush dX10_deed_116 (by decide) ?_
                  exact v_ireturn dX10_deed_118 rfl rfl
        · refine v_bipush dX10_deed_51 (by decide) ?_
          exact v_ireturn dX10_deed_53 rfl rfl
theorem chX10_walkTo_0 : (cX10_walkTo.data.toList.drop 0).take 16 = [42, 180, 0, 12, 27, 182, 0, 92, 58, 5, 42, 180, 0, 12, 28, 182] := by decide +kernel
theorem chX10_walkTo_1 : (cX10_walkTo.data.toList.drop 16).take 16 = [0, 148, 58, 6, 42, 180, 0, 12, 29, 182, 0, 164, 58, 7, 25, 5] := by decide +kernel
theorem chX10_walkTo_2 : (cX10_walkTo.data.toList.drop 32).take 16 = [198, 0, 13, 25, 6, 198, 0, 8, 25, 7, 199, 0, 5, 3, 172, 42] := by decide +kernel
theorem chX10_walkTo_3 : (cX10_walkTo.data.toList.drop 48).take 16 = [180, 0, 40, 25, 5, 25, 6, 182, 1, 45, 42, 180, 0, 40, 25, 7] := by decide +kernel
theorem chX10_walkTo_4 : (cX10_walkTo.data.toList.drop 64).take 16 = [21, 4, 182, 1, 82, 4, 172] := by decide +kernel
theorem dX10_walkTo_0 : decode cX10_walkTo 0 = .ok (.aload_n 0, 1) := oq_42 (byt chX10_walkTo_0 0 rfl)
theorem dX10_walkTo_1 : decode cX10_walkTo 1 = .ok (.getfield 12, 3) := oq_180 (byt chX10_walkTo_0 1 rfl) (byt chX10_walkTo_0 2 rfl) (byt chX10_walkTo_0 3 rfl) rfl
theorem dX10_walkTo_4 : decode cX10_walkTo 4 = .ok (.iload_n 1, 1) := oq_27 (byt chX10_walkTo_0 4 rfl)
theorem dX10_walkTo_5 : decode cX10_walkTo 5 = .ok (.invokevirtual 92, 3) := oq_182 (byt chX10_walkTo_0 5 rfl) (byt chX10_walkTo_0 6 rfl) (byt chX10_walkTo_0 7 rfl) rfl
theorem dX10_walkTo_8 : decode cX10_walkTo 8 = .ok (.astore 5, 2) := oq_58 (byt chX10_walkTo_0 8 rfl) (byt chX10_walkTo_0 9 rfl) rfl
theorem dX10_walkTo_10 : decode cX10_walkTo 10 = .ok (.aload_n 0, 1) := oq_42 (byt chX10_walkTo_0 10 rfl)
theorem dX10_walkTo_11 : decode cX10_walkTo 11 = .ok (.getfield 12, 3) := oq_180 (byt chX10_walkTo_0 11 rfl) (byt chX10_walkTo_0 12 rfl) (byt chX10_walkTo_0 13 rfl) rfl
theorem dX10_walkTo_14 : decode cX10_walkTo 14 = .ok (.iload_n 2, 1) := oq_28 (byt chX10_walkTo_0 14 rfl)
theorem dX10_walkTo_15 : decode cX10_walkTo 15 = .ok (.invokevirtual 148, 3) := oq_182 (byt chX10_walkTo_0 15 rfl) (byt chX10_walkTo_1 0 rfl) (byt chX10_walkTo_1 1 rfl) rfl
theorem dX10_walkTo_18 : decode cX10_walkTo 18 = .ok (.astore 6, 2) := oq_58 (byt chX10_walkTo_1 2 rfl) (byt chX10_walkTo_1 3 rfl) rfl
theorem dX10_walkTo_20 : decode cX10_walkTo 20 = .ok (.aload_n 0, 1) := oq_42 (byt chX10_walkTo_1 4 rfl)
theorem dX10_walkTo_21 : decode cX10_walkTo 21 = .ok (.getfield 12, 3) := oq_180 (byt chX10_walkTo_1 5 rfl) (byt chX10_walkTo_1 6 rfl) (byt chX10_walkTo_1 7 rfl) rfl
theorem dX10_walkTo_24 : decode cX10_walkTo 24 = .ok (.iload_n 3, 1) := oq_29 (byt chX10_walkTo_1 8 rfl)
theorem dX10_walkTo_25 : decode cX10_walkTo 25 = .ok (.invokevirtual 164, 3) := oq_182 (byt chX10_walkTo_1 9 rfl) (byt chX10_walkTo_1 10 rfl) (byt chX10_walkTo_1 11 rfl) rfl
theorem dX10_walkTo_28 : decode cX10_walkTo 28 = .ok (.astore 7, 2) := oq_58 (byt chX10_walkTo_1 12 rfl) (byt chX10_walkTo_1 13 rfl) rfl
theorem dX10_walkTo_30 : decode cX10_walkTo 30 = .ok (.aload 5, 2) := oq_25 (byt chX10_walkTo_1 14 rfl) (byt chX10_walkTo_1 15 rfl) rfl
theorem dX10_walkTo_32 : decode cX10_walkTo 32 = .ok (.ifnull 13, 3) := oq_198 (byt chX10_walkTo_2 0 rfl) (byt chX10_walkTo_2 1 rfl) (byt chX10_walkTo_2 2 rfl) (by decide +kernel)
theorem dX10_walkTo_35 : decode cX10_walkTo 35 = .ok (.aload 6, 2) := oq_25 (byt chX10_walkTo_2 3 rfl) (byt chX10_walkTo_2 4 rfl) rfl
theorem dX10_walkTo_37 : decode cX10_walkTo 37 = .ok (.ifnull 8, 3) := oq_198 (byt chX10_walkTo_2 5 rfl) (byt chX10_walkTo_2 6 rfl) (byt chX10_walkTo_2 7 rfl) (by decide +kernel)
theorem dX10_walkTo_40 : decode cX10_walkTo 40 = .ok (.aload 7, 2) := oq_25 (byt chX10_walkTo_2 8 rfl) (byt chX10_walkTo_2 9 rfl) rfl
theorem dX10_walkTo_42 : decode cX10_walkTo 42 = .ok (.ifnonnull 5, 3) := oq_199 (byt chX10_walkTo_2 10 rfl) (byt chX10_walkTo_2 11 rfl) (byt chX10_walkTo_2 12 rfl) (by decide +kernel)
theorem dX10_walkTo_45 : decode cX10_walkTo 45 = .ok (.iconst 0, 1) := oq_3 (byt chX10_walkTo_2 13 rfl)
theorem dX10_walkTo_46 : decode cX10_walkTo 46 = .ok (.ireturn, 1) := oq_172 (byt chX10_walkTo_2 14 rfl)
theorem dX10_walkTo_47 : decode cX10_walkTo 47 = .ok (.aload_n 0, 1) := oq_42 (byt chX10_walkTo_2 15 rfl)
theorem dX10_walkTo_48 : decode cX10_walkTo 48 = .ok (.getfield 40, 3) := oq_180 (byt chX10_walkTo_3 0 rfl) (byt chX10_walkTo_3 1 rfl) (byt chX10_walkTo_3 2 rfl) rfl
theorem dX10_walkTo_51 : decode cX10_walkTo 51 = .ok (.aload 5, 2) := oq_25 (byt chX10_walkTo_3 3 rfl) (byt chX10_walkTo_3 4 rfl) rfl
theorem dX10_walkTo_53 : decode cX10_walkTo 53 = .ok (.aload 6, 2) := oq_25 (byt chX10_walkTo_3 5 rfl) (byt chX10_walkTo_3 6 rfl) rfl
theorem dX10_walkTo_55 : decode cX10_walkTo 55 = .ok (.invokevirtual 301, 3) := oq_182 (byt chX10_walkTo_3 7 rfl) (byt chX10_walkTo_3 8 rfl) (byt chX10_walkTo_3 9 rfl) rfl
theorem dX10_walkTo_58 : decode cX10_walkTo 58 = .ok (.aload_n 0, 1) := oq_42 (byt chX10_walkTo_3 10 rfl)
theorem dX10_walkTo_59 : decode cX10_walkTo 59 = .ok (.getfield 40, 3) := oq_180 (byt chX10_walkTo_3 11 rfl) (byt chX10_walkTo_3 12 rfl) (byt chX10_walkTo_3 13 rfl) rfl
theorem dX10_walkTo_62 : decode cX10_walkTo 62 = .ok (.aload 7, 2) := oq_25 (byt chX10_walkTo_3 14 rfl) (byt chX10_walkTo_3 15 rfl) rfl
theorem dX10_walkTo_64 : decode cX10_walkTo 64 = .ok (.iload 4, 2) := oq_21 (byt chX10_walkTo_4 0 rfl) (byt chX10_walkTo_4 1 rfl) rfl
theorem dX10_walkTo_66 : decode cX10_walkTo 66 = .ok (.invokevirtual 338, 3) := oq_182 (byt chX10_walkTo_4 2 rfl) (byt chX10_walkTo_4 3 rfl) (byt chX10_walkTo_4 4 rfl) rfl
theorem dX10_walkTo_69 : decode cX10_walkTo 69 = .ok (.iconst 1, 1) := oq_4 (byt chX10_walkTo_4 5 rfl)
theorem dX10_walkTo_70 : decode cX10_walkTo 70 = .ok (.ireturn, 1) := oq_172 (byt chX10_walkTo_4 6 rfl)
abbrev mX10_walkTo : MI := (yX10_walkTo, cX10_walkTo, 8, (some .boolean), noE)
theorem okX10_walkTo : cok mX10_walkTo 4 := ⟨tw737, tw1, by decide, by decide, by decide, by decide +kernel⟩
def fX10_walkTo (M : Mem) (a0 a1 a2 a3 a4 : Int) : Option (Int × Mem) :=
  if M.2.1 a0 = 9 then if M.2.1 (M.1 a0 0) = 6 then (fX6_townAt M (M.1 a0 0) a1).bind fun r2 => (fX6_lawAt M (M.1 a0 0) a2).bind fun r5 => (fX6_nightsAt M (M.1 a0 0) a3).bind fun r7 => if r2 = -1 then (some (0, M)) else (if r5 = -1 then (some (0, M)) else (if r7 = -1 then (some (0, M)) else (if M.2.1 (M.1 a0 3) = 8 then (fX9_begin M (M.1 a0 3) r2 r5).bind fun r12 => if r12.2.1 a0 = 9 then if r12.2.1 (r12.1 a0 3) = 8 then (fX9_follow r12 (r12.1 a0 3) r7 a4).bind fun r16 => some (1, r16) else none else none else none))) else none else none
set_option maxRecDepth 100000 in
set_option maxHeartbeats 4000000 in
theorem kX10_walkTo (d : Nat) (hd : 5 ≤ d) (M : Mem) (a0 a1 a2 a3 a4 : Int) : Ct mX10_walkTo d 0 0 [pA a0, pI a1, pI a2, pI a3, pI a4] M dIM (fX10_walkTo M a0 a1 a2 a3 a4) := by
  obtain ⟨d, rfl⟩ : ∃ k, d = k + 1 := ⟨d - 1, by omega⟩
  refine Ct.of 3 (fun _ _ _ => trivial) (by decide +kernel) rfl ?_
  unfold fX10_walkTo
  refine v_aload_n dX10_walkTo_0 rfl ?_
  refine v_if (fun h1 => ?_)
  refine v_get (v := pA (M.1 a0 0)) 9 0 rfl inX10 (by decide) tw421 dX10_walkTo_1 h1 rfl ?_
  refine v_iload_n dX10_walkTo_4 rfl ?_
  refine v_if (fun h4 => ?_)
  refine v_cV (mi := mX10_walkTo) (c0 := 0) (c1 := 0) (As := [pI a1]) (st := []) (kX6_townAt d (by omega) _ _ _) rfl h4 rfl okX6_townAt (Or.inl tw680) tw681 tw682 rfl (Nat.le_of_ble_eq_true rfl) dX10_walkTo_5 (fun r2 => [pA r2]) (fun r2 => M) (fun _ => rfl) (fun _ => rfl) (fun r2 h3 => ?_) rfl
  refine v_astore (ls' := [some (pA a0), some (pI a1), some (pI a2), some (pI a3), some (pI a4), some (pA r2), none, none]) dX10_walkTo_8 (by decide) rfl ?_
  refine v_aload_n dX10_walkTo_10 rfl ?_
  refine v_get (v := pA (M.1 a0 0)) 9 0 rfl inX10 (by decide) tw421 dX10_walkTo_11 h1 rfl ?_
  refine v_iload_n dX10_walkTo_14 rfl ?_
  refine v_cV (mi := mX10_walkTo) (c0 := 0) (c1 := 0) (As := [pI a2]) (st := []) (kX6_lawAt d (by omega) _ _ _) rfl h4 rfl okX6_lawAt (Or.inl tw714) tw715 tw716 rfl (Nat.le_of_ble_eq_true rfl) dX10_walkTo_15 (fun r5 => [pA r5]) (fun r5 => M) (fun _ => rfl) (fun _ => rfl) (fun r5 h6 => ?_) rfl
  refine v_astore (ls' := [some (pA a0), some (pI a1), some (pI a2), some (pI a3), some (pI a4), some (pA r2), some (pA r5), none]) dX10_walkTo_18 (by decide) rfl ?_
  refine v_aload_n dX10_walkTo_20 rfl ?_
  refine v_get (v := pA (M.1 a0 0)) 9 0 rfl inX10 (by decide) tw421 dX10_walkTo_21 h1 rfl ?_
  refine v_iload_n dX10_walkTo_24 rfl ?_
  refine v_cV (mi := mX10_walkTo) (c0 := 0) (c1 := 0) (As := [pI a3]) (st := []) (kX6_nightsAt d (by omega) _ _ _) rfl h4 rfl okX6_nightsAt (Or.inl tw726) tw727 tw728 rfl (Nat.le_of_ble_eq_true rfl) dX10_walkTo_25 (fun r7 => [pA r7]) (fun r7 => M) (fun _ => rfl) (fun _ => rfl) (fun r7 h8 => ?_) rfl
  refine v_astore (ls' := [some (pA a0), some (pI a1), some (pI a2), some (pI a3), some (pI a4), some (pA r2), some (pA r5), some (pA r7)]) dX10_walkTo_28 (by decide) rfl ?_
  refine v_aload dX10_walkTo_30 rfl ?_
  refine v_ifnull (tgt := 45) dX10_walkTo_32 (by decide) (fun c9 => ?_) (fun c9 => ?_)
  · refine v_iconst dX10_walkTo_45 (by decide) ?_
    exact v_breturn dX10_walkTo_46 rfl (by decide) rfl
  · refine v_aload dX10_walkTo_35 rfl ?_
    refine v_ifnull (tgt := 45) dX10_walkTo_37 (by decide) (fun c10 => ?_) (fun c10 => ?_)
    · refine v_iconst dX10_walkTo_45 (by decide) ?_
      exact v_breturn dX10_walkTo_46 rfl (by decide) rfl
    · refine v_aload dX10_walkTo_40 rfl ?_
      refine v_ifnonnull (tgt := 47) dX10_walkTo_42 (by decide) (fun c11 => ?_) (fun c11 => ?_)
      · refine v_iconst dX10_walkTo_45 (by decide) ?_
        exact v_breturn dX10_walkTo_46 rfl (by decide) rfl
      · refine v_aload_n dX10_walkTo_47 rfl ?_
        refine v_get (v := pA (M.1 a0 3)) 9 3 rfl inX10 (by decide) tw424 dX10_walkTo_48 h1 rfl ?_
        refine v_aload dX10_walkTo_51 rfl ?_
        refine v_aload dX10_walkTo_53 rfl ?_
        refine v_if (fun h14 => ?_)
        refine v_cV (mi := mX10_walkTo) (c0 := 0) (c1 := 0) (As := [pA r2, pA r5]) (st := []) (kX9_begin d (by omega) _ _ _ _) rfl h14 rfl okX9_begin (Or.inl tw738) tw739 tw740 rfl (Nat.le_of_ble_eq_true rfl) dX10_walkTo_55 (fun r12 => []) (fun r12 => r12) (fun _ => rfl) (fun _ => rfl) (fun r12 h13 => ?_) rfl
        refine v_aload_n dX10_walkTo_58 rfl ?_
        refine v_if (fun h15 => ?_)
        refine v_get (v := pA (r12.1 a0 3)) 9 3 rfl inX10 (by decide) tw424 dX10_walkTo_59 h15 rfl ?_
        refine v_aload dX10_walkTo_62 rfl ?_
        refine v_iload dX10_walkTo_64 rfl ?_
        refine v_if (fun h18 => ?_)
        refine v_cV (mi := mX10_walkTo) (c0 := 0) (c1 := 0) (As := [pA r7, pI a4]) (st := []) (kX9_follow d (by omega) _ _ _ _) rfl h18 rfl okX9_follow (Or.inl tw744) tw745 tw746 rfl (Nat.le_of_ble_eq_true rfl) dX10_walkTo_66 (fun r16 => []) (fun r16 => r16) (fun _ => rfl) (fun _ => rfl) (fun r16 h17 => ?_) rfl
        refine v_iconst dX10_walkTo_69 (by decide) ?_
        exact v_breturn dX10_walkTo_70 rfl (by decide) rfl
theorem chX10_stop_0 : (cX10_stop.data.toList.drop 0).take 16 = [42, 27, 28, 29, 16, 40, 182, 0, 185, 153, 0, 13, 42, 180, 0, 40] := by decide +kernel
theorem chX10_stop_1 : (cX10_stop.data.toList.drop 16).take 16 = [180, 0, 189, 167, 0, 4, 2, 172] := by decide +kernel
theorem dX10_stop_0 : decode cX10_stop 0 = .ok (.aload_n 0, 1) := oq_42 (byt chX10_stop_0 0 rfl)
theorem dX10_stop_1 : decode cX10_stop 1 = .ok (.iload_n 1, 1) := oq_27 (byt chX10_stop_0 1 rfl)
theorem dX10_stop_2 : decode cX10_stop 2 = .ok (.iload_n 2, 1) := oq_28 (byt chX10_stop_0 2 rfl)
theorem dX10_stop_3 : decode cX10_stop 3 = .ok (.iload_n 3, 1) := oq_29 (byt chX10_stop_0 3 rfl)
theorem dX10_stop_4 : decode cX10_stop 4 = .ok (.bipush 40, 2) := oq_16 (byt chX10_stop_0 4 rfl) (byt chX10_stop_0 5 rfl) rfl
theorem dX10_stop_6 : decode cX10_stop 6 = .ok (.invokevirtual 185, 3) := oq_182 (byt chX10_stop_0 6 rfl) (byt chX10_stop_0 7 rfl) (byt chX10_stop_0 8 rfl) rfl
theorem dX10_stop_9 : decode cX10_stop 9 = .ok (.ifCond .eq 13, 3) := oq_153 (byt chX10_stop_0 9 rfl) (byt chX10_stop_0 10 rfl) (byt chX10_stop_0 11 rfl) (by decide +kernel)
theorem dX10_stop_12 : decode cX10_stop 12 = .ok (.aload_n 0, 1) := oq_42 (byt chX10_stop_0 12 rfl)
theorem dX10_stop_13 : decode cX10_stop 13 = .ok (.getfield 40, 3) := oq_180 (byt chX10_stop_0 13 rfl) (byt chX10_stop_0 14 rfl) (byt chX10_stop_0 15 rfl) rfl
theorem dX10_stop_16 : decode cX10_stop 16 = .ok (.getfield 189, 3) := oq_180 (byt chX10_stop_1 0 rfl) (byt chX10_stop_1 1 rfl) (byt chX10_stop_1 2 rfl) rfl
theorem dX10_stop_19 : decode cX10_stop 19 = .ok (.goto 4, 3) := oq_167 (byt chX10_stop_1 3 rfl) (byt chX10_stop_1 4 rfl) (byt chX10_stop_1 5 rfl) (by decide +kernel)
theorem dX10_stop_22 : decode cX10_stop 22 = .ok (.iconst (-1), 1) := oq_2 (byt chX10_stop_1 6 rfl)
theorem dX10_stop_23 : decode cX10_stop 23 = .ok (.ireturn, 1) := oq_172 (byt chX10_stop_1 7 rfl)
abbrev mX10_stop : MI := (yX10_stop, cX10_stop, 4, (some .int), noE)
theorem okX10_stop : cok mX10_stop 3 := ⟨tw733, tw1, by decide, by decide, by decide, by decide +kernel⟩
def fX10_stop (M : Mem) (a0 a1 a2 a3 : Int) : Option (Int × Mem) :=
  if M.2.1 a0 = 9 then (fX10_walkTo M a0 a1 a2 a3 40).bind fun r1 => if r1.1 = 0 then (some ((-1), r1.2)) else (if r1.2.2.1 a0 = 9 then if r1.2.2.1 (r1.2.1 a0 3) = 8 then some (r1.2.1 (r1.2.1 a0 3) 15, r1.2) else none else none) else none
set_option maxRecDepth 100000 in
set_option maxHeartbeats 4000000 in
theorem kX10_stop (d : Nat) (hd : 6 ≤ d) (M : Mem) (a0 a1 a2 a3 : Int) : Ct mX10_stop d 0 0 [pA a0, pI a1, pI a2, pI a3] M dIM (fX10_stop M a0 a1 a2 a3) := by
  obtain ⟨d, rfl⟩ : ∃ k, d = k + 1 := ⟨d - 1, by omega⟩
  refine Ct.of 0 (fun _ _ _ => trivial) (by decide +kernel) rfl ?_
  unfold fX10_stop
  refine v_aload_n dX10_stop_0 rfl ?_
  refine v_iload_n dX10_stop_1 rfl ?_
  refine v_iload_n dX10_stop_2 rfl ?_
  refine v_iload_n dX10_stop_3 rfl ?_
  refine v_bipush dX10_stop_4 (by decide) ?_
  refine v_if (fun h3 => ?_)
  refine v_cV (mi := mX10_stop) (c0 := 0) (c1 := 0) (As := [pI a1, pI a2, pI a3, pI 40]) (st := []) (kX10_walkTo d (by omega) _ _ _ _ _ _) rfl h3 rfl okX10_walkTo (Or.inl tw734) tw736 tp14 rfl (Nat.le_of_ble_eq_true rfl) dX10_stop_6 (fun r1 => [pI r1.1]) (fun r1 => r1.2) (fun _ => rfl) (fun _ => rfl) (fun r1 h2 => ?_) rfl
  refine v_if_eq (tgt := 22) dX10_stop_9 (by decide) (fun c4 => ?_) (fun c4 => ?_)
  · refine v_iconst dX10_stop_22 (by decide) ?_
    exact v_ireturn dX10_stop_23 rfl rfl
  · refine v_aload_n dX10_stop_12 rfl ?_
    refine v_if (fun h5 => ?_)
    refine v_get (v := pA (r1.2.1 a0 3)) 9 3 rfl inX10 (by decide) tw424 dX10_stop_13 h5 rfl ?_
    refine v_if (fun h6 => ?_)
    refine v_get (v := pI (r1.2.1 (r1.2.1 a0 3) 15)) 8 15 rfl inX9 (by decide) tw347 dX10_stop_16 h6 rfl ?_
    refine v_goto (tgt := 23) dX10_stop_19 (by decide) ?_
    exact v_ireturn dX10_stop_23 rfl rfl
theorem chX10_walkJust_0 : (cX10_walkJust.data.toList.drop 0).take 16 = [21, 4, 155, 0, 38, 21, 4, 16, 40, 163, 0, 31, 42, 27, 28, 29] := by decide +kernel
theorem chX10_walkJust_1 : (cX10_walkJust.data.toList.drop 16).take 16 = [21, 4, 182, 0, 185, 153, 0, 19, 42, 180, 0, 40, 180, 0, 189, 21] := by decide +kernel
theorem chX10_walkJust_2 : (cX10_walkJust.data.toList.drop 32).take 16 = [4, 160, 0, 7, 4, 167, 0, 4, 3, 172] := by decide +kernel
theorem dX10_walkJust_0 : decode cX10_walkJust 0 = .ok (.iload 4, 2) := oq_21 (byt chX10_walkJust_0 0 rfl) (byt chX10_walkJust_0 1 rfl) rfl
theorem dX10_walkJust_2 : decode cX10_walkJust 2 = .ok (.ifCond .lt 38, 3) := oq_155 (byt chX10_walkJust_0 2 rfl) (byt chX10_walkJust_0 3 rfl) (byt chX10_walkJust_0 4 rfl) (by decide +kernel)
theorem dX10_walkJust_5 : decode cX10_walkJust 5 = .ok (.iload 4, 2) := oq_21 (byt chX10_walkJust_0 5 rfl) (byt chX10_walkJust_0 6 rfl) rfl
theorem dX10_walkJust_7 : decode cX10_walkJust 7 = .ok (.bipush 40, 2) := oq_16 (byt chX10_walkJust_0 7 rfl) (byt chX10_walkJust_0 8 rfl) rfl
theorem dX10_walkJust_9 : decode cX10_walkJust 9 = .ok (.if_icmp .gt 31, 3) := oq_163 (byt chX10_walkJust_0 9 rfl) (byt chX10_walkJust_0 10 rfl) (byt chX10_walkJust_0 11 rfl) (by decide +kernel)
theorem dX10_walkJust_12 : decode cX10_walkJust 12 = .ok (.aload_n 0, 1) := oq_42 (byt chX10_walkJust_0 12 rfl)
theorem dX10_walkJust_13 : decode cX10_walkJust 13 = .ok (.iload_n 1, 1) := oq_27 (byt chX10_walkJust_0 13 rfl)
theorem dX10_walkJust_14 : decode cX10_walkJust 14 = .ok (.iload_n 2, 1) := oq_28 (byt chX10_walkJust_0 14 rfl)
theorem dX10_walkJust_15 : decode cX10_walkJust 15 = .ok (.iload_n 3, 1) := oq_29 (byt chX10_walkJust_0 15 rfl)
theorem dX10_walkJust_16 : decode cX10_walkJust 16 = .ok (.iload 4, 2) := oq_21 (byt chX10_walkJust_1 0 rfl) (byt chX10_walkJust_1 1 rfl) rfl
theorem dX10_walkJust_18 : decode cX10_walkJust 18 = .ok (.invokevirtual 185, 3) := oq_182 (byt chX10_walkJust_1 2 rfl) (byt chX10_walkJust_1 3 rfl) (byt chX10_walkJust_1 4 rfl) rfl
theorem dX10_walkJust_21 : decode cX10_walkJust 21 = .ok (.ifCond .eq 19, 3) := oq_153 (byt chX10_walkJust_1 5 rfl) (byt chX10_walkJust_1 6 rfl) (byt chX10_walkJust_1 7 rfl) (by decide +kernel)
theorem dX10_walkJust_24 : decode cX10_walkJust 24 = .ok (.aload_n 0, 1) := oq_42 (byt chX10_walkJust_1 8 rfl)
theorem dX10_walkJust_25 : decode cX10_walkJust 25 = .ok (.getfield 40, 3) := oq_180 (byt chX10_walkJust_1 9 rfl) (byt chX10_walkJust_1 10 rfl) (byt chX10_walkJust_1 11 rfl) rfl
theorem dX10_walkJust_28 : decode cX10_walkJust 28 = .ok (.getfield 189, 3) := oq_180 (byt chX10_walkJust_1 12 rfl) (byt chX10_walkJust_1 13 rfl) (byt chX10_walkJust_1 14 rfl) rfl
theorem dX10_walkJust_31 : decode cX10_walkJust 31 = .ok (.iload 4, 2) := oq_21 (byt chX10_walkJust_1 15 rfl) (byt chX10_walkJust_2 0 rfl) rfl
theorem dX10_walkJust_33 : decode cX10_walkJust 33 = .ok (.if_icmp .ne 7, 3) := oq_160 (byt chX10_walkJust_2 1 rfl) (byt chX10_walkJust_2 2 rfl) (byt chX10_walkJust_2 3 rfl) (by decide +kernel)
theorem dX10_walkJust_36 : decode cX10_walkJust 36 = .ok (.iconst 1, 1) := oq_4 (byt chX10_walkJust_2 4 rfl)
theorem dX10_walkJust_37 : decode cX10_walkJust 37 = .ok (.goto 4, 3) := oq_167 (byt chX10_walkJust_2 5 rfl) (byt chX10_walkJust_2 6 rfl) (byt chX10_walkJust_2 7 rfl) (by decide +kernel)
theorem dX10_walkJust_40 : decode cX10_walkJust 40 = .ok (.iconst 0, 1) := oq_3 (byt chX10_walkJust_2 8 rfl)
theorem dX10_walkJust_41 : decode cX10_walkJust 41 = .ok (.ireturn, 1) := oq_172 (byt chX10_walkJust_2 9 rfl)
abbrev mX10_walkJust : MI := (yX10_walkJust, cX10_walkJust, 5, (some .boolean), noE)
theorem okX10_walkJust : cok mX10_walkJust 4 := ⟨tw804, tw1, by decide, by decide, by decide, by decide +kernel⟩
def fX10_walkJust (M : Mem) (a0 a1 a2 a3 a4 : Int) : Option (Int × Mem) :=
  if a4 < 0 then (some (0, M)) else (if 40 < a4 then (some (0, M)) else (if M.2.1 a0 = 9 then (fX10_walkTo M a0 a1 a2 a3 a4).bind fun r3 => if r3.1 = 0 then (some (0, r3.2)) else (if r3.2.2.1 a0 = 9 then if r3.2.2.1 (r3.2.1 a0 3) = 8 then if r3.2.1 (r3.2.1 a0 3) 15 = a4 then (some (1, r3.2)) else (some (0, r3.2)) else none else none) else none))
set_option maxRecDepth 100000 in
set_option maxHeartbeats 4000000 in
theorem kX10_walkJust (d : Nat) (hd : 6 ≤ d) (M : Mem) (a0 a1 a2 a3 a4 : Int) : Ct mX10_walkJust d 0 0 [pA a0, pI a1, pI a2, pI a3, pI a4] M dIM (fX10_walkJust M a0 a1 a2 a3 a4) := by
  obtain ⟨d, rfl⟩ : ∃ k, d = k + 1 := ⟨d - 1, by omega⟩
  refine Ct.of 0 (fun _ _ _ => trivial) (by decide +kernel) rfl ?_
  unfold fX10_walkJust
  refine v_iload dX10_walkJust_0 rfl ?_
  refine v_if_lt (tgt := 40) dX10_walkJust_2 (by decide) (fun c1 => ?_) (fun c1 => ?_)
  · refine v_iconst dX10_walkJust_40 (by decide) ?_
    exact v_breturn dX10_walkJust_41 rfl (by decide) rfl
  · refine v_iload dX10_walkJust_5 rfl ?_
    refine v_bipush dX10_walkJust_7 (by decide) ?_
    refine v_icmp_gt (tgt := 40) dX10_walkJust_9 (by decide) (fun c2 => ?_) (fun c2 => ?_)
    · refine v_iconst dX10_walkJust_40 (by decide) ?_
      exact v_breturn dX10_walkJust_41 rfl (by decide) rfl
    · refine v_aload_n dX10_walkJust_12 rfl ?_
      refine v_iload_n dX10_walkJust_13 rfl ?_
      refine v_iload_n dX10_walkJust_14 rfl ?_
      refine v_iload_n dX10_walkJust_15 rfl ?_
      refine v_iload dX10_walkJust_16 rfl ?_
      refine v_if (fun h5 => ?_)
      refine v_cV (mi := mX10_walkJust) (c0 := 0) (c1 := 0) (As := [pI a1, pI a2, pI a3, pI a4]) (st := []) (kX10_walkTo d (by omega) _ _ _ _ _ _) rfl h5 rfl okX10_walkTo (Or.inl tw734) tw736 tp14 rfl (Nat.le_of_ble_eq_true rfl) dX10_walkJust_18 (fun r3 => [pI r3.1]) (fun r3 => r3.2) (fun _ => rfl) (fun _ => rfl) (fun r3 h4 => ?_) rfl
      refine v_if_eq (tgt := 40) dX10_walkJust_21 (by decide) (fun c6 => ?_) (fun c6 => ?_)
      · refine v_iconst dX10_walkJust_40 (by decide) ?_
        exact v_breturn dX10_walkJust_41 rfl (by decide) rfl
      · refine v_aload_n dX10_walkJust_24 rfl ?_
        refine v_if (fun h7 => ?_)
        refine v_get (v := pA (r3.2.1 a0 3)) 9 3 rfl inX10 (by decide) tw424 dX10_walkJust_25 h7 rfl ?_
        refine v_if (fun h8 => ?_)
        refine v_get (v := pI (r3.2.1 (r3.2.1 a0 3) 15)) 8 15 rfl inX9 (by decide) tw347 dX10_walkJust_28 h8 rfl ?_
        refine v_iload dX10_walkJust_31 rfl ?_
        refine v_icmp_ne (tgt := 40) dX10_walkJust_33 (by decide) (fun c9 => ?_) (fun c9 => ?_)
        · refine v_iconst dX10_walkJust_36 (by decide) ?_
          refine v_goto (tgt := 41) dX10_walkJust_37 (by decide) ?_
          exact v_breturn dX10_walkJust_41 rfl (by decide) rfl
        · refine v_iconst dX10_walkJust_40 (by decide) ?_
          exact v_breturn dX10_walkJust_41 rfl (by decide) rfl
theorem chX10_state_0 : (cX10_state.data.toList.drop 0).take 16 = [42, 27, 28, 29, 21, 4, 182, 0, 192, 154, 0, 7, 17, 252, 24, 172] := by decide +kernel
theorem chX10_state_1 : (cX10_state.data.toList.drop 16).take 16 = [21, 5, 154, 0, 11, 42, 180, 0, 40, 180, 0, 195, 172, 21, 5, 16] := by decide +kernel
theorem chX10_state_2 : (cX10_state.data.toList.drop 32).take 16 = [10, 161, 0, 23, 21, 5, 16, 20, 162, 0, 16, 42, 180, 0, 40, 21] := by decide +kernel
theorem chX10_state_3 : (cX10_state.data.toList.drop 48).take 16 = [5, 16, 10, 100, 184, 0, 198, 172, 42, 180, 0, 40, 21, 5, 184, 0] := by decide +kernel
theorem chX10_state_4 : (cX10_state.data.toList.drop 64).take 16 = [204, 172] := by decide +kernel
theorem dX10_state_0 : decode cX10_state 0 = .ok (.aload_n 0, 1) := oq_42 (byt chX10_state_0 0 rfl)
theorem dX10_state_1 : decode cX10_state 1 = .ok (.iload_n 1, 1) := oq_27 (byt chX10_state_0 1 rfl)
theorem dX10_state_2 : decode cX10_state 2 = .ok (.iload_n 2, 1) := oq_28 (byt chX10_state_0 2 rfl)
theorem dX10_state_3 : decode cX10_state 3 = .ok (.iload_n 3, 1) := oq_29 (byt chX10_state_0 3 rfl)
theorem dX10_state_4 : decode cX10_state 4 = .ok (.iload 4, 2) := oq_21 (byt chX10_state_0 4 rfl) (byt chX10_state_0 5 rfl) rfl
theorem dX10_state_6 : decode cX10_state 6 = .ok (.invokevirtual 192, 3) := oq_182 (byt chX10_state_0 6 rfl) (byt chX10_state_0 7 rfl) (byt chX10_state_0 8 rfl) rfl
theorem dX10_state_9 : decode cX10_state 9 = .ok (.ifCond .ne 7, 3) := oq_154 (byt chX10_state_0 9 rfl) (byt chX10_state_0 10 rfl) (byt chX10_state_0 11 rfl) (by decide +kernel)
theorem dX10_state_12 : decode cX10_state 12 = .ok (.sipush (-1000), 3) := oq_17 (byt chX10_state_0 12 rfl) (byt chX10_state_0 13 rfl) (byt chX10_state_0 14 rfl) (by decide +kernel)
theorem dX10_state_15 : decode cX10_state 15 = .ok (.ireturn, 1) := oq_172 (byt chX10_state_0 15 rfl)
theorem dX10_state_16 : decode cX10_state 16 = .ok (.iload 5, 2) := oq_21 (byt chX10_state_1 0 rfl) (byt chX10_state_1 1 rfl) rfl
theorem dX10_state_18 : decode cX10_state 18 = .ok (.ifCond .ne 11, 3) := oq_154 (byt chX10_state_1 2 rfl) (byt chX10_state_1 3 rfl) (byt chX10_state_1 4 rfl) (by decide +kernel)
theorem dX10_state_21 : decode cX10_state 21 = .ok (.aload_n 0, 1) := oq_42 (byt chX10_state_1 5 rfl)
theorem dX10_state_22 : decode cX10_state 22 = .ok (.getfield 40, 3) := oq_180 (byt chX10_state_1 6 rfl) (byt chX10_state_1 7 rfl) (byt chX10_state_1 8 rfl) rfl
theorem dX10_state_25 : decode cX10_state 25 = .ok (.getfield 195, 3) := oq_180 (byt chX10_state_1 9 rfl) (byt chX10_state_1 10 rfl) (byt chX10_state_1 11 rfl) rfl
theorem dX10_state_28 : decode cX10_state 28 = .ok (.ireturn, 1) := oq_172 (byt chX10_state_1 12 rfl)
theorem dX10_state_29 : decode cX10_state 29 = .ok (.iload 5, 2) := oq_21 (byt chX10_state_1 13 rfl) (byt chX10_state_1 14 rfl) rfl
theorem dX10_state_31 : decode cX10_state 31 = .ok (.bipush 10, 2) := oq_16 (byt chX10_state_1 15 rfl) (byt chX10_state_2 0 rfl) rfl
theorem dX10_state_33 : decode cX10_state 33 = .ok (.if_icmp .lt 23, 3) := oq_161 (byt chX10_state_2 1 rfl) (byt chX10_state_2 2 rfl) (byt chX10_state_2 3 rfl) (by decide +kernel)
theorem dX10_state_36 : decode cX10_state 36 = .ok (.iload 5, 2) := oq_21 (byt chX10_state_2 4 rfl) (byt chX10_state_2 5 rfl) rfl
theorem dX10_state_38 : decode cX10_state 38 = .ok (.bipush 20, 2) := oq_16 (byt chX10_state_2 6 rfl) (byt chX10_state_2 7 rfl) rfl
theorem dX10_state_40 : decode cX10_state 40 = .ok (.if_icmp .ge 16, 3) := oq_162 (byt chX10_state_2 8 rfl) (byt chX10_state_2 9 rfl) (byt chX10_state_2 10 rfl) (by decide +kernel)
theorem dX10_state_43 : decode cX10_state 43 = .ok (.aload_n 0, 1) := oq_42 (byt chX10_state_2 11 rfl)
theorem dX10_state_44 : decode cX10_state 44 = .ok (.getfield 40, 3) := oq_180 (byt chX10_state_2 12 rfl) (byt chX10_state_2 13 rfl) (byt chX10_state_2 14 rfl) rfl
theorem dX10_state_47 : decode cX10_state 47 = .ok (.iload 5, 2) := oq_21 (byt chX10_state_2 15 rfl) (byt chX10_state_3 0 rfl) rfl
theorem dX10_state_49 : decode cX10_state 49 = .ok (.bipush 10, 2) := oq_16 (byt chX10_state_3 1 rfl) (byt chX10_state_3 2 rfl) rfl
theorem dX10_state_51 : decode cX10_state 51 = .ok (.isub, 1) := oq_100 (byt chX10_state_3 3 rfl)
theorem dX10_state_52 : decode cX10_state 52 = .ok (.invokestatic 198, 3) := oq_184 (byt chX10_state_3 4 rfl) (byt chX10_state_3 5 rfl) (byt chX10_state_3 6 rfl) rfl
theorem dX10_state_55 : decode cX10_state 55 = .ok (.ireturn, 1) := oq_172 (byt chX10_state_3 7 rfl)
theorem dX10_state_56 : decode cX10_state 56 = .ok (.aload_n 0, 1) := oq_42 (byt chX10_state_3 8 rfl)
theorem dX10_state_57 : decode cX10_state 57 = .ok (.getfield 40, 3) := oq_180 (byt chX10_state_3 9 rfl) (byt chX10_state_3 10 rfl) (byt chX10_state_3 11 rfl) rfl
theorem dX10_state_60 : decode cX10_state 60 = .ok (.iload 5, 2) := oq_21 (byt chX10_state_3 12 rfl) (byt chX10_state_3 13 rfl) rfl
theorem dX10_state_62 : decode cX10_state 62 = .ok (.invokestatic 204, 3) := oq_184 (byt chX10_state_3 14 rfl) (byt chX10_state_3 15 rfl) (byt chX10_state_4 0 rfl) rfl
theorem dX10_state_65 : decode cX10_state 65 = .ok (.ireturn, 1) := oq_172 (byt chX10_state_4 1 rfl)
abbrev mX10_state : MI := (yX10_state, cX10_state, 6, (some .int), noE)
theorem okX10_state : cok mX10_state 5 := ⟨tw800, tw1, by decide, by decide, by decide, by decide +kernel⟩
def fX10_state (M : Mem) (a0 a1 a2 a3 a4 a5 : Int) : Option (Int × Mem) :=
  if M.2.1 a0 = 9 then (fX10_walkJust M a0 a1 a2 a3 a4).bind fun r1 => if r1.1 = 0 then (some ((-1000), r1.2)) else (if a5 = 0 then (if r1.2.2.1 a0 = 9 then if r1.2.2.1 (r1.2.1 a0 3) = 8 then some (r1.2.1 (r1.2.1 a0 3) 14, r1.2) else none else none) else (jn (fun (t9 : Unit) => if r1.2.2.1 a0 = 9 then (fX8_seen r1.2 (r1.2.1 a0 3) a5).bind fun r11 => some (r11, r1.2) else none) (fun (j8 : Unit → Option (Int × Mem)) => if a5 < 10 then (j8 ()) else (if a5 < 20 then (if r1.2.2.1 a0 = 9 then (fX8_queued r1.2 (r1.2.1 a0 3) (w32 (a5 - 10))).bind fun r16 => some (r16, r1.2) else none) else (j8 ()))))) else none
set_option maxRecDepth 100000 in
set_option maxHeartbeats 4000000 in
theorem kX10_state (d : Nat) (hd : 7 ≤ d) (M : Mem) (a0 a1 a2 a3 a4 a5 : Int) : Ct mX10_state d 0 0 [pA a0, pI a1, pI a2, pI a3, pI a4, pI a5] M dIM (fX10_state M a0 a1 a2 a3 a4 a5) := by
  obtain ⟨d, rfl⟩ : ∃ k, d = k + 1 := ⟨d - 1, by omega⟩
  refine Ct.of 0 (fun _ _ _ => trivial) (by decide +kernel) rfl ?_
  unfold fX10_state
  refine v_aload_n dX10_state_0 rfl ?_
  refine v_iload_n dX10_state_1 rfl ?_
  refine v_iload_n dX10_state_2 rfl ?_
  refine v_iload_n dX10_state_3 rfl ?_
  refine v_iload dX10_state_4 rfl ?_
  refine v_if (fun h3 => ?_)
  refine v_cV (mi := mX10_state) (c0 := 0) (c1 := 0) (As := [pI a1, pI a2, pI a3, pI a4]) (st := []) (kX10_walkJust d (by omega) _ _ _ _ _ _) rfl h3 rfl okX10_walkJust (Or.inl tw801) tw803 tp16 rfl (Nat.le_of_ble_eq_true rfl) dX10_state_6 (fun r1 => [pI r1.1]) (fun r1 => r1.2) (fun _ => rfl) (fun _ => rfl) (fun r1 h2 => ?_) rfl
  refine v_if_ne (tgt := 16) dX10_state_9 (by decide) (fun c4 => ?_) (fun c4 => ?_)
  · refine v_sipush dX10_state_12 (by decide) ?_
    exact v_ireturn dX10_state_15 rfl rfl
  · refine v_iload dX10_state_16 rfl ?_
    refine v_if_ne (tgt := 29) dX10_state_18 (by decide) (fun c5 => ?_) (fun c5 => ?_)
    · refine v_aload_n dX10_state_21 rfl ?_
      refine v_if (fun h6 => ?_)
      refine v_get (v := pA (r1.2.1 a0 3)) 9 3 rfl inX10 (by decide) tw424 dX10_state_22 h6 rfl ?_
      refine v_if (fun h7 => ?_)
      refine v_get (v := pI (r1.2.1 (r1.2.1 a0 3) 14)) 8 14 rfl inX9 (by decide) tw345 dX10_state_25 h7 rfl ?_
      exact v_ireturn dX10_state_28 rfl rfl
    · refine v_iload dX10_state_29 rfl ?_
      refine v_bipush dX10_state_31 (by decide) ?_
      refine v_join (fun (t9 : Unit) => [some (pA a0), none, none, none, none, some (pI a5)]) (fun (t9 : Unit) => []) (fun (t9 : Unit) => r1.2) 56 (fun t9 => ?_) (fun j8 hj8 => ?_)
      · refine v_aload_n dX10_state_56 rfl ?_
        refine v_if (fun h10 => ?_)
        refine v_get (v := pA (r1.2.1 a0 3)) 9 3 rfl inX10 (by decide) tw424 dX10_state_57 h10 rfl ?_
        refine v_iload dX10_state_60 rfl ?_
        refine v_cS (mi := mX10_state) (c0 := 0) (c1 := 0) (As := [pA (r1.2.1 a0 3), pI a5]) (st := []) (kX8_seen d (by omega) _ _ _) okX8_seen (Or.inl tw818) tw819 rfl (Nat.le_of_ble_eq_true rfl) dX10_state_62 (fun r11 => [pI r11]) (fun r11 => r1.2) (fun _ => rfl) (fun _ => rfl) (fun r11 h12 => ?_) rfl
        exact v_ireturn dX10_state_65 rfl rfl
      · refine v_icmp_lt (tgt := 56) dX10_state_33 (by decide) (fun c13 => ?_) (fun c13 => ?_)
        · exact v_drop [some (pA a0), none, none, none, none, some (pI a5)] (ls_s (ls_n (ls_n (ls_n (ls_n (ls_s ls_e)))))) (hj8 ())
        · refine v_iload dX10_state_36 rfl ?_
          refine v_bipush dX10_state_38 (by decide) ?_
          refine v_icmp_ge (tgt := 56) dX10_state_40 (by decide) (fun c14 => ?_) (fun c14 => ?_)
          · refine v_aload_n dX10_state_43 rfl ?_
            refine v_if (fun h15 => ?_)
            refine v_get (v := pA (r1.2.1 a0 3)) 9 3 rfl inX10 (by decide) tw424 dX10_state_44 h15 rfl ?_
            refine v_iload dX10_state_47 rfl ?_
            refine v_bipush dX10_state_49 (by decide) ?_
            refine v_isub dX10_state_51 ?_
            refine v_cS (mi := mX10_state) (c0 := 0) (c1 := 0) (As := [pA (r1.2.1 a0 3), pI (w32 (a5 - 10))]) (st := []) (kX8_queued d (by omega) _ _ _) okX8_queued (Or.inl tw805) tw806 rfl (Nat.le_of_ble_eq_true rfl) dX10_state_52 (fun r16 => [pI r16]) (fun r16 => r1.2) (fun _ => rfl) (fun _ => rfl) (fun r16 h17 => ?_) rfl
            exact v_ireturn dX10_state_55 rfl rfl
          · exact v_drop [some (pA a0), none, none, none, none, some (pI a5)] (ls_s (ls_n (ls_n (ls_n (ls_n (ls_s ls_e)))))) (hj8 ())
theorem chX10_goods_0 : (cX10_goods.data.toList.drop 0).take 16 = [21, 7, 184, 0, 115, 153, 0, 15, 42, 27, 28, 29, 21, 4, 182, 0] := by decide +kernel
theorem chX10_goods_1 : (cX10_goods.data.toList.drop 16).take 16 = [192, 154, 0, 5, 2, 172, 42, 180, 0, 40, 180, 0, 207, 21, 5, 182] := by decide +kernel
theorem chX10_goods_2 : (cX10_goods.data.toList.drop 32).take 16 = [0, 124, 54, 8, 42, 180, 0, 40, 180, 0, 207, 21, 6, 182, 0, 104] := by decide +kernel
theorem chX10_goods_3 : (cX10_goods.data.toList.drop 48).take 16 = [54, 9, 21, 5, 2, 160, 0, 28, 21, 9, 153, 0, 21, 42, 180, 0] := by decide +kernel
theorem chX10_goods_4 : (cX10_goods.data.toList.drop 64).take 16 = [40, 180, 0, 211, 21, 6, 21, 7, 184, 0, 136, 46, 167, 0, 4, 2] := by decide +kernel
theorem chX10_goods_5 : (cX10_goods.data.toList.drop 80).take 16 = [172, 21, 6, 2, 160, 0, 28, 21, 8, 153, 0, 21, 42, 180, 0, 40] := by decide +kernel
theorem chX10_goods_6 : (cX10_goods.data.toList.drop 96).take 16 = [180, 0, 212, 8, 21, 5, 104, 21, 7, 96, 46, 167, 0, 4, 2, 172] := by decide +kernel
theorem chX10_goods_7 : (cX10_goods.data.toList.drop 112).take 16 = [21, 8, 153, 0, 28, 21, 9, 153, 0, 23, 42, 180, 0, 40, 180, 0] := by decide +kernel
theorem chX10_goods_8 : (cX10_goods.data.toList.drop 128).take 16 = [215, 21, 5, 21, 6, 21, 7, 184, 0, 218, 46, 167, 0, 4, 2, 172] := by decide +kernel
theorem dX10_goods_0 : decode cX10_goods 0 = .ok (.iload 7, 2) := oq_21 (byt chX10_goods_0 0 rfl) (byt chX10_goods_0 1 rfl) rfl
theorem dX10_goods_2 : decode cX10_goods 2 = .ok (.invokestatic 115, 3) := oq_184 (byt chX10_goods_0 2 rfl) (byt chX10_goods_0 3 rfl) (byt chX10_goods_0 4 rfl) rfl
theorem dX10_goods_5 : decode cX10_goods 5 = .ok (.ifCond .eq 15, 3) := oq_153 (byt chX10_goods_0 5 rfl) (byt chX10_goods_0 6 rfl) (byt chX10_goods_0 7 rfl) (by decide +kernel)
theorem dX10_goods_8 : decode cX10_goods 8 = .ok (.aload_n 0, 1) := oq_42 (byt chX10_goods_0 8 rfl)
theorem dX10_goods_9 : decode cX10_goods 9 = .ok (.iload_n 1, 1) := oq_27 (byt chX10_goods_0 9 rfl)
theorem dX10_goods_10 : decode cX10_goods 10 = .ok (.iload_n 2, 1) := oq_28 (byt chX10_goods_0 10 rfl)
theorem dX10_goods_11 : decode cX10_goods 11 = .ok (.iload_n 3, 1) := oq_29 (byt chX10_goods_0 11 rfl)
theorem dX10_goods_12 : decode cX10_goods 12 = .ok (.iload 4, 2) := oq_21 (byt chX10_goods_0 12 rfl) (byt chX10_goods_0 13 rfl) rfl
theorem dX10_goods_14 : decode cX10_goods 14 = .ok (.invokevirtual 192, 3) := oq_182 (byt chX10_goods_0 14 rfl) (byt chX10_goods_0 15 rfl) (byt chX10_goods_1 0 rfl) rfl
theorem dX10_goods_17 : decode cX10_goods 17 = .ok (.ifCond .ne 5, 3) := oq_154 (byt chX10_goods_1 1 rfl) (byt chX10_goods_1 2 rfl) (byt chX10_goods_1 3 rfl) (by decide +kernel)
theorem dX10_goods_20 : decode cX10_goods 20 = .ok (.iconst (-1), 1) := oq_2 (byt chX10_goods_1 4 rfl)
theorem dX10_goods_21 : decode cX10_goods 21 = .ok (.ireturn, 1) := oq_172 (byt chX10_goods_1 5 rfl)
theorem dX10_goods_22 : decode cX10_goods 22 = .ok (.aload_n 0, 1) := oq_42 (byt chX10_goods_1 6 rfl)
theorem dX10_goods_23 : decode cX10_goods 23 = .ok (.getfield 40, 3) := oq_180 (byt chX10_goods_1 7 rfl) (byt chX10_goods_1 8 rfl) (byt chX10_goods_1 9 rfl) rfl
theorem dX10_goods_26 : decode cX10_goods 26 = .ok (.getfield 207, 3) := oq_180 (byt chX10_goods_1 10 rfl) (byt chX10_goods_1 11 rfl) (byt chX10_goods_1 12 rfl) rfl
theorem dX10_goods_29 : decode cX10_goods 29 = .ok (.iload 5, 2) := oq_21 (byt chX10_goods_1 13 rfl) (byt chX10_goods_1 14 rfl) rfl
theorem dX10_goods_31 : decode cX10_goods 31 = .ok (.invokevirtual 124, 3) := oq_182 (byt chX10_goods_1 15 rfl) (byt chX10_goods_2 0 rfl) (byt chX10_goods_2 1 rfl) rfl
theorem dX10_goods_34 : decode cX10_goods 34 = .ok (.istore 8, 2) := oq_54 (byt chX10_goods_2 2 rfl) (byt chX10_goods_2 3 rfl) rfl
theorem dX10_goods_36 : decode cX10_goods 36 = .ok (.aload_n 0, 1) := oq_42 (byt chX10_goods_2 4 rfl)
theorem dX10_goods_37 : decode cX10_goods 37 = .ok (.getfield 40, 3) := oq_180 (byt chX10_goods_2 5 rfl) (byt chX10_goods_2 6 rfl) (byt chX10_goods_2 7 rfl) rfl
theorem dX10_goods_40 : decode cX10_goods 40 = .ok (.getfield 207, 3) := oq_180 (byt chX10_goods_2 8 rfl) (byt chX10_goods_2 9 rfl) (byt chX10_goods_2 10 rfl) rfl
theorem dX10_goods_43 : decode cX10_goods 43 = .ok (.iload 6, 2) := oq_21 (byt chX10_goods_2 11 rfl) (byt chX10_goods_2 12 rfl) rfl
theorem dX10_goods_45 : decode cX10_goods 45 = .ok (.invokevirtual 104, 3) := oq_182 (byt chX10_goods_2 13 rfl) (byt chX10_goods_2 14 rfl) (byt chX10_goods_2 15 rfl) rfl
theorem dX10_goods_48 : decode cX10_goods 48 = .ok (.istore 9, 2) := oq_54 (byt chX10_goods_3 0 rfl) (byt chX10_goods_3 1 rfl) rfl
theorem dX10_goods_50 : decode cX10_goods 50 = .ok (.iload 5, 2) := oq_21 (byt chX10_goods_3 2 rfl) (byt chX10_goods_3 3 rfl) rfl
theorem dX10_goods_52 : decode cX10_goods 52 = .ok (.iconst (-1), 1) := oq_2 (byt chX10_goods_3 4 rfl)
theorem dX10_goods_53 : decode cX10_goods 53 = .ok (.if_icmp .ne 28, 3) := oq_160 (byt chX10_goods_3 5 rfl) (byt chX10_goods_3 6 rfl) (byt chX10_goods_3 7 rfl) (by decide +kernel)
theorem dX10_goods_56 : decode cX10_goods 56 = .ok (.iload 9, 2) := oq_21 (byt chX10_goods_3 8 rfl) (byt chX10_goods_3 9 rfl) rfl
theorem dX10_goods_58 : decode cX10_goods 58 = .ok (.ifCond .eq 21, 3) := oq_153 (byt chX10_goods_3 10 rfl) (byt chX10_goods_3 11 rfl) (byt chX10_goods_3 12 rfl) (by decide +kernel)
theorem dX10_goods_61 : decode cX10_goods 61 = .ok (.aload_n 0, 1) := oq_42 (byt chX10_goods_3 13 rfl)
theorem dX10_goods_62 : decode cX10_goods 62 = .ok (.getfield 40, 3) := oq_180 (byt chX10_goods_3 14 rfl) (byt chX10_goods_3 15 rfl) (byt chX10_goods_4 0 rfl) rfl
theorem dX10_goods_65 : decode cX10_goods 65 = .ok (.getfield 211, 3) := oq_180 (byt chX10_goods_4 1 rfl) (byt chX10_goods_4 2 rfl) (byt chX10_goods_4 3 rfl) rfl
theorem dX10_goods_68 : decode cX10_goods 68 = .ok (.iload 6, 2) := oq_21 (byt chX10_goods_4 4 rfl) (byt chX10_goods_4 5 rfl) rfl
theorem dX10_goods_70 : decode cX10_goods 70 = .ok (.iload 7, 2) := oq_21 (byt chX10_goods_4 6 rfl) (byt chX10_goods_4 7 rfl) rfl
theorem dX10_goods_72 : decode cX10_goods 72 = .ok (.invokestatic 136, 3) := oq_184 (byt chX10_goods_4 8 rfl) (byt chX10_goods_4 9 rfl) (byt chX10_goods_4 10 rfl) rfl
theorem dX10_goods_75 : decode cX10_goods 75 = .ok (.iaload, 1) := oq_46 (byt chX10_goods_4 11 rfl)
theorem dX10_goods_76 : decode cX10_goods 76 = .ok (.goto 4, 3) := oq_167 (byt chX10_goods_4 12 rfl) (byt chX10_goods_4 13 rfl) (byt chX10_goods_4 14 rfl) (by decide +kernel)
theorem dX10_goods_79 : decode cX10_goods 79 = .ok (.iconst (-1), 1) := oq_2 (byt chX10_goods_4 15 rfl)
theorem dX10_goods_80 : decode cX10_goods 80 = .ok (.ireturn, 1) := oq_172 (byt chX10_goods_5 0 rfl)
theorem dX10_goods_81 : decode cX10_goods 81 = .ok (.iload 6, 2) := oq_21 (byt chX10_goods_5 1 rfl) (byt chX10_goods_5 2 rfl) rfl
theorem dX10_goods_83 : decode cX10_goods 83 = .ok (.iconst (-1), 1) := oq_2 (byt chX10_goods_5 3 rfl)
theorem dX10_goods_84 : decode cX10_goods 84 = .ok (.if_icmp .ne 28, 3) := oq_160 (byt chX10_goods_5 4 rfl) (byt chX10_goods_5 5 rfl) (byt chX10_goods_5 6 rfl) (by decide +kernel)
theorem dX10_goods_87 : decode cX10_goods 87 = .ok (.iload 8, 2) := oq_21 (byt chX10_goods_5 7 rfl) (byt chX10_goods_5 8 rfl) rfl
theorem dX10_goods_89 : decode cX10_goods 89 = .ok (.ifCond .eq 21, 3) := oq_153 (byt chX10_goods_5 9 rfl) (byt chX10_goods_5 10 rfl) (byt chX10_goods_5 11 rfl) (by decide +kernel)
theorem dX10_goods_92 : decode cX10_goods 92 = .ok (.aload_n 0, 1) := oq_42 (byt chX10_goods_5 12 rfl)
theorem dX10_goods_93 : decode cX10_goods 93 = .ok (.getfield 40, 3) := oq_180 (byt chX10_goods_5 13 rfl) (byt chX10_goods_5 14 rfl) (byt chX10_goods_5 15 rfl) rfl
theorem dX10_goods_96 : decode cX10_goods 96 = .ok (.getfield 212, 3) := oq_180 (byt chX10_goods_6 0 rfl) (byt chX10_goods_6 1 rfl) (byt chX10_goods_6 2 rfl) rfl
theorem dX10_goods_99 : decode cX10_goods 99 = .ok (.iconst 5, 1) := oq_8 (byt chX10_goods_6 3 rfl)
theorem dX10_goods_100 : decode cX10_goods 100 = .ok (.iload 5, 2) := oq_21 (byt chX10_goods_6 4 rfl) (byt chX10_goods_6 5 rfl) rfl
theorem dX10_goods_102 : decode cX10_goods 102 = .ok (.imul, 1) := oq_104 (byt chX10_goods_6 6 rfl)
theorem dX10_goods_103 : decode cX10_goods 103 = .ok (.iload 7, 2) := oq_21 (byt chX10_goods_6 7 rfl) (byt chX10_goods_6 8 rfl) rfl
theorem dX10_goods_105 : decode cX10_goods 105 = .ok (.iadd, 1) := oq_96 (byt chX10_goods_6 9 rfl)
theorem dX10_goods_106 : decode cX10_goods 106 = .ok (.iaload, 1) := oq_46 (byt chX10_goods_6 10 rfl)
theorem dX10_goods_107 : decode cX10_goods 107 = .ok (.goto 4, 3) := oq_167 (byt chX10_goods_6 11 rfl) (byt chX10_goods_6 12 rfl) (byt chX10_goods_6 13 rfl) (by decide +kernel)
theorem dX10_goods_110 : decode cX10_goods 110 = .ok (.iconst (-1), 1) := oq_2 (byt chX10_goods_6 14 rfl)
theorem dX10_goods_111 : decode cX10_goods 111 = .ok (.ireturn, 1) := oq_172 (byt chX10_goods_6 15 rfl)
theorem dX10_goods_112 : decode cX10_goods 112 = .ok (.iload 8, 2) := oq_21 (byt chX10_goods_7 0 rfl) (byt chX10_goods_7 1 rfl) rfl
theorem dX10_goods_114 : decode cX10_goods 114 = .ok (.ifCond .eq 28, 3) := oq_153 (byt chX10_goods_7 2 rfl) (byt chX10_goods_7 3 rfl) (byt chX10_goods_7 4 rfl) (by decide +kernel)
theorem dX10_goods_117 : decode cX10_goods 117 = .ok (.iload 9, 2) := oq_21 (byt chX10_goods_7 5 rfl) (byt chX10_goods_7 6 rfl) rfl
theorem dX10_goods_119 : decode cX10_goods 119 = .ok (.ifCond .eq 23, 3) := oq_153 (byt chX10_goods_7 7 rfl) (byt chX10_goods_7 8 rfl) (byt chX10_goods_7 9 rfl) (by decide +kernel)
theorem dX10_goods_122 : decode cX10_goods 122 = .ok (.aload_n 0, 1) := oq_42 (byt chX10_goods_7 10 rfl)
theorem dX10_goods_123 : decode cX10_goods 123 = .ok (.getfield 40, 3) := oq_180 (byt chX10_goods_7 11 rfl) (byt chX10_goods_7 12 rfl) (byt chX10_goods_7 13 rfl) rfl
theorem dX10_goods_126 : decode cX10_goods 126 = .ok (.getfield 215, 3) := oq_180 (byt chX10_goods_7 14 rfl) (byt chX10_goods_7 15 rfl) (byt chX10_goods_8 0 rfl) rfl
theorem dX10_goods_129 : decode cX10_goods 129 = .ok (.iload 5, 2) := oq_21 (byt chX10_goods_8 1 rfl) (byt chX10_goods_8 2 rfl) rfl
theorem dX10_goods_131 : decode cX10_goods 131 = .ok (.iload 6, 2) := oq_21 (byt chX10_goods_8 3 rfl) (byt chX10_goods_8 4 rfl) rfl
theorem dX10_goods_133 : decode cX10_goods 133 = .ok (.iload 7, 2) := oq_21 (byt chX10_goods_8 5 rfl) (byt chX10_goods_8 6 rfl) rfl
theorem dX10_goods_135 : decode cX10_goods 135 = .ok (.invokestatic 218, 3) := oq_184 (byt chX10_goods_8 7 rfl) (byt chX10_goods_8 8 rfl) (byt chX10_goods_8 9 rfl) rfl
theorem dX10_goods_138 : decode cX10_goods 138 = .ok (.iaload, 1) := oq_46 (byt chX10_goods_8 10 rfl)
theorem dX10_goods_139 : decode cX10_goods 139 = .ok (.goto 4, 3) := oq_167 (byt chX10_goods_8 11 rfl) (byt chX10_goods_8 12 rfl) (byt chX10_goods_8 13 rfl) (by decide +kernel)
theorem dX10_goods_142 : decode cX10_goods 142 = .ok (.iconst (-1), 1) := oq_2 (byt chX10_goods_8 14 rfl)
theorem dX10_goods_143 : decode cX10_goods 143 = .ok (.ireturn, 1) := oq_172 (byt chX10_goods_8 15 rfl)
abbrev mX10_goods : MI := (yX10_goods, cX10_goods, 10, (some .int), noE)
theorem okX10_goods : cok mX10_goods 7 := ⟨tw848, tw1, by decide, by decide, by decide, by decide +kernel⟩
def fX10_goods (M : Mem) (a0 a1 a2 a3 a4 a5 a6 a7 : Int) : Option (Int × Mem) :=
  (fX10_isGood M a7).bind fun r1 => if r1 = 0 then (some ((-1), M)) else (if M.2.1 a0 = 9 then (fX10_walkJust M a0 a1 a2 a3 a4).bind fun r4 => if r4.1 = 0 then (some ((-1), r4.2)) else (if r4.2.2.1 a0 = 9 then if r4.2.2.1 (r4.2.1 a0 3) = 8 then if r4.2.2.1 (r4.2.1 (r4.2.1 a0 3) 0) = 7 then (fX7_isThief r4.2 (r4.2.1 (r4.2.1 a0 3) 0) a5).bind fun r10 => (fX7_isHouse r4.2 (r4.2.1 (r4.2.1 a0 3) 0) a6).bind fun r13 => if a5 = (-1) then (if r13 = 0 then (some ((-1), r4.2)) else ((fX10_cell r4.2 a6 a7).bind fun r17 => if r4.2.2.1 (r4.2.1 (r4.2.1 a0 3) 2) = 12 ∧ (0 : Int) ≤ r17 ∧ r17 < r4.2.2.2.1 (r4.2.1 (r4.2.1 a0 3) 2) then some (r4.2.1 (r4.2.1 (r4.2.1 a0 3) 2) r17, r4.2) else none)) else (if a6 = (-1) then (if r10 = 0 then (some ((-1), r4.2)) else (if r4.2.2.1 (r4.2.1 (r4.2.1 a0 3) 3) = 12 ∧ (0 : Int) ≤ (w32 ((w32 (5 * a5)) + a7)) ∧ (w32 ((w32 (5 * a5)) + a7)) < r4.2.2.2.1 (r4.2.1 (r4.2.1 a0 3) 3) then some (r4.2.1 (r4.2.1 (r4.2.1 a0 3) 3) (w32 ((w32 (5 * a5)) + a7)), r4.2) else none)) else (if r10 = 0 then (some ((-1), r4.2)) else (if r13 = 0 then (some ((-1), r4.2)) else ((fX10_cell_ r4.2 a5 a6 a7).bind fun r25 => if r4.2.2.1 (r4.2.1 (r4.2.1 a0 3) 4) = 12 ∧ (0 : Int) ≤ r25 ∧ r25 < r4.2.2.2.1 (r4.2.1 (r4.2.1 a0 3) 4) then some (r4.2.1 (r4.2.1 (r4.2.1 a0 3) 4) r25, r4.2) else none)))) else none else none else none) else none)
set_option maxRecDepth 100000 in
set_option maxHeartbeats 4000000 in
theorem kX10_goods (d : Nat) (hd : 7 ≤ d) (M : Mem) (a0 a1 a2 a3 a4 a5 a6 a7 : Int) : Ct mX10_goods d 0 0 [pA a0, pI a1, pI a2, pI a3, pI a4, pI a5, pI a6, pI a7] M dIM (fX10_goods M a0 a1 a2 a3 a4 a5 a6 a7) := by
  obtain ⟨d, rfl⟩ : ∃ k, d = k + 1 := ⟨d - 1, by omega⟩
  refine Ct.of 2 (fun _ _ _ => trivial) (by decide +kernel) rfl ?_
  unfold fX10_goods
  refine v_iload dX10_goods_0 rfl ?_
  refine v_cS (mi := mX10_goods) (c0 := 0) (c1 := 0) (As := [pI a7]) (st := []) (kX10_isGood d (by omega) _ _) okX10_isGood (Or.inl tw688) tw689 rfl (Nat.le_of_ble_eq_true rfl) dX10_goods_2 (fun r1 => [pI r1]) (fun r1 => M) (fun _ => rfl) (fun _ => rfl) (fun r1 h2 => ?_) rfl
  refine v_if_eq (tgt := 20) dX10_goods_5 (by decide) (fun c3 => ?_) (fun c3 => ?_)
  · refine v_iconst dX10_goods_20 (by decide) ?_
    exact v_ireturn dX10_goods_21 rfl rfl
  · refine v_aload_n dX10_goods_8 rfl ?_
    refine v_iload_n dX10_goods_9 rfl ?_
    refine v_iload_n dX10_goods_10 rfl ?_
    refine v_iload_n dX10_goods_11 rfl ?_
    refine v_iload dX10_goods_12 rfl ?_
    refine v_if (fun h6 => ?_)
    refine v_cV (mi := mX10_goods) (c0 := 0) (c1 := 0) (As := [pI a1, pI a2, pI a3, pI a4]) (st := []) (kX10_walkJust d (by omega) _ _ _ _ _ _) rfl h6 rfl okX10_walkJust (Or.inl tw801) tw803 tp16 rfl (Nat.le_of_ble_eq_true rfl) dX10_goods_14 (fun r4 => [pI r4.1]) (fun r4 => r4.2) (fun _ => rfl) (fun _ => rfl) (fun r4 h5 => ?_) rfl
    refine v_if_ne (tgt := 22) dX10_goods_17 (by decide) (fun c7 => ?_) (fun c7 => ?_)
    · refine v_iconst dX10_goods_20 (by decide) ?_
      exact v_ireturn dX10_goods_21 rfl rfl
    · refine v_aload_n dX10_goods_22 rfl ?_
      refine v_if (fun h8 => ?_)
      refine v_get (v := pA (r4.2.1 a0 3)) 9 3 rfl inX10 (by decide) tw424 dX10_goods_23 h8 rfl ?_
      refine v_if (fun h9 => ?_)
      refine v_get (v := pA (r4.2.1 (r4.2.1 a0 3) 0)) 8 0 rfl inX9 (by decide) tw317 dX10_goods_26 h9 rfl ?_
      refine v_iload dX10_goods_29 rfl ?_
      refine v_if (fun h12 => ?_)
      refine v_cV (mi := mX10_goods) (c0 := 0) (c1 := 0) (As := [pI a5]) (st := []) (kX7_isThief d (by omega) _ _ _) rfl h12 rfl okX7_isThief (Or.inl tw691) tw692 tw693 rfl (Nat.le_of_ble_eq_true rfl) dX10_goods_31 (fun r10 => [pI r10]) (fun r10 => r4.2) (fun _ => rfl) (fun _ => rfl) (fun r10 h11 => ?_) rfl
      refine v_istore (ls' := [some (pA a0), some (pI a1), some (pI a2), some (pI a3), some (pI a4), some (pI a5), some (pI a6), some (pI a7), some (pI r10), none]) dX10_goods_34 (by decide) rfl ?_
      refine v_aload_n dX10_goods_36 rfl ?_
      refine v_get (v := pA (r4.2.1 a0 3)) 9 3 rfl inX10 (by decide) tw424 dX10_goods_37 h8 rfl ?_
      refine v_get (v := pA (r4.2.1 (r4.2.1 a0 3) 0)) 8 0 rfl inX9 (by decide) tw317 dX10_goods_40 h9 rfl ?_
      refine v_iload dX10_goods_43 rfl ?_
      refine v_cV (mi := mX10_goods) (c0 := 0) (c1 := 0) (As := [pI a6]) (st := []) (kX7_isHouse d (by omega) _ _ _) rfl h12 rfl okX7_isHouse (Or.inl tw684) tw685 tw686 rfl (Nat.le_of_ble_eq_true rfl) dX10_goods_45 (fun r13 => [pI r13]) (fun r13 => r4.2) (fun _ => rfl) (fun _ => rfl) (fun r13 h14 => ?_) rfl
      refine v_istore (ls' := [some (pA a0), some (pI a1), some (pI a2), some (pI a3), some (pI a4), some (pI a5), some (pI a6), some (pI a7), some (pI r10), some (pI r13)]) dX10_goods_48 (by decide) rfl ?_
      refine v_iload dX10_goods_50 rfl ?_
      refine v_iconst dX10_goods_52 (by decide) ?_
      refine v_icmp_ne (tgt := 81) dX10_goods_53 (by decide) (fun c15 => ?_) (fun c15 => ?_)
      · refine v_iload dX10_goods_56 rfl ?_
        refine v_if_eq (tgt := 79) dX10_goods_58 (by decide) (fun c16 => ?_) (fun c16 => ?_)
        · refine v_iconst dX10_goods_79 (by decide) ?_
          exact v_ireturn dX10_goods_80 rfl rfl
        · refine v_aload_n dX10_goods_61 rfl ?_
          refine v_get (v := pA (r4.2.1 a0 3)) 9 3 rfl inX10 (by decide) tw424 dX10_goods_62 h8 rfl ?_
          refine v_get (v := pA (r4.2.1 (r4.2.1 a0 3) 2)) 8 2 rfl inX9 (by decide) tw321 dX10_goods_65 h9 rfl ?_
          refine v_iload dX10_goods_68 rfl ?_
          refine v_iload dX10_goods_70 rfl ?_
          refine v_cS (mi := mX10_goods) (c0 := 0) (c1 := 0) (As := [pI a6, pI a7]) (st := [pA (r4.2.1 (r4.2.1 a0 3) 2)]) (kX10_cell d (by omega) _ _ _) okX10_cell (Or.inl tw699) tw621 rfl (Nat.le_of_ble_eq_true rfl) dX10_goods_72 (fun r17 => [pI r17, pA (r4.2.1 (r4.2.1 a0 3) 2)]) (fun r17 => r4.2) (fun _ => rfl) (fun _ => rfl) (fun r17 h18 => ?_) rfl
          refine v_if (fun h19 => ?_)
          refine v_iaload h19 dX10_goods_75 ?_
          refine v_goto (tgt := 80) dX10_goods_76 (by decide) ?_
          exact v_ireturn dX10_goods_80 rfl rfl
      · refine v_iload dX10_goods_81 rfl ?_
        refine v_iconst dX10_goods_83 (by decide) ?_
        refine v_icmp_ne (tgt := 112) dX10_goods_84 (by decide) (fun c20 => ?_) (fun c20 => ?_)
        · refine v_iload dX10_goods_87 rfl ?_
          refine v_if_eq (tgt := 110) dX10_goods_89 (by decide) (fun c21 => ?_) (fun c21 => ?_)
          · refine v_iconst dX10_goods_110 (by decide) ?_
            exact v_ireturn dX10_goods_111 rfl rfl
          · refine v_aload_n dX10_goods_92 rfl ?_
            refine v_get (v := pA (r4.2.1 a0 3)) 9 3 rfl inX10 (by decide) tw424 dX10_goods_93 h8 rfl ?_
            refine v_get (v := pA (r4.2.1 (r4.2.1 a0 3) 3)) 8 3 rfl inX9 (by decide) tw324 dX10_goods_96 h9 rfl ?_
            refine v_iconst dX10_goods_99 (by decide) ?_
            refine v_iload dX10_goods_100 rfl ?_
            refine v_imul dX10_goods_102 ?_
            refine v_iload dX10_goods_103 rfl ?_
            refine v_iadd dX10_goods_105 ?_
            refine v_if (fun h22 => ?_)
            refine v_iaload h22 dX10_goods_106 ?_
            refine v_goto (tgt := 111) dX10_goods_107 (by decide) ?_
            exact v_ireturn dX10_goods_111 rfl rfl
        · refine v_iload dX10_goods_112 rfl ?_
          refine v_if_eq (tgt := 142) dX10_goods_114 (by decide) (fun c23 => ?_) (fun c23 => ?_)
          · refine v_iconst dX10_goods_142 (by decide) ?_
            exact v_ireturn dX10_goods_143 rfl rfl
          · refine v_iload dX10_goods_117 rfl ?_
            refine v_if_eq (tgt := 142) dX10_goods_119 (by decide) (fun c24 => ?_) (fun c24 => ?_)
            · refine v_iconst dX10_goods_142 (by decide) ?_
              exact v_ireturn dX10_goods_143 rfl rfl
            · refine v_aload_n dX10_goods_122 rfl ?_
              refine v_get (v := pA (r4.2.1 a0 3)) 9 3 rfl inX10 (by decide) tw424 dX10_goods_123 h8 rfl ?_
              refine v_get (v := pA (r4.2.1 (r4.2.1 a0 3) 4)) 8 4 rfl inX9 (by decide) tw328 dX10_goods_126 h9 rfl ?_
              refine v_iload dX10_goods_129 rfl ?_
              refine v_iload dX10_goods_131 rfl ?_
              refine v_iload dX10_goods_133 rfl ?_
              refine v_cS (mi := mX10_goods) (c0 := 0) (c1 := 0) (As := [pI a5, pI a6, pI a7]) (st := [pA (r4.2.1 (r4.2.1 a0 3) 4)]) (kX10_cell_ d (by omega) _ _ _ _) okX10_cell_ (Or.inl tw849) tw766 rfl (Nat.le_of_ble_eq_true rfl) dX10_goods_135 (fun r25 => [pI r25, pA (r4.2.1 (r4.2.1 a0 3) 4)]) (fun r25 => r4.2) (fun _ => rfl) (fun _ => rfl) (fun r25 h26 => ?_) rfl
              refine v_if (fun h27 => ?_)
              refine v_iaload h27 dX10_goods_138 ?_
              refine v_goto (tgt := 143) dX10_goods_139 (by decide) ?_
              exact v_ireturn dX10_goods_143 rfl rfl
theorem chX10_aid_0 : (cX10_aid.data.toList.drop 0).take 16 = [42, 180, 0, 12, 27, 182, 0, 92, 78, 45, 198, 0, 11, 45, 28, 184] := by decide +kernel
theorem chX10_aid_1 : (cX10_aid.data.toList.drop 16).take 16 = [0, 221, 154, 0, 6, 16, 254, 172, 45, 184, 0, 225, 153, 0, 11, 45] := by decide +kernel
theorem chX10_aid_2 : (cX10_aid.data.toList.drop 32).take 16 = [28, 184, 0, 229, 167, 0, 4, 2, 172] := by decide +kernel
theorem dX10_aid_0 : decode cX10_aid 0 = .ok (.aload_n 0, 1) := oq_42 (byt chX10_aid_0 0 rfl)
theorem dX10_aid_1 : decode cX10_aid 1 = .ok (.getfield 12, 3) := oq_180 (byt chX10_aid_0 1 rfl) (byt chX10_aid_0 2 rfl) (byt chX10_aid_0 3 rfl) rfl
theorem dX10_aid_4 : decode cX10_aid 4 = .ok (.iload_n 1, 1) := oq_27 (byt chX10_aid_0 4 rfl)
theorem dX10_aid_5 : decode cX10_aid 5 = .ok (.invokevirtual 92, 3) := oq_182 (byt chX10_aid_0 5 rfl) (byt chX10_aid_0 6 rfl) (byt chX10_aid_0 7 rfl) rfl
theorem dX10_aid_8 : decode cX10_aid 8 = .ok (.astore_n 3, 1) := oq_78 (byt chX10_aid_0 8 rfl)
theorem dX10_aid_9 : decode cX10_aid 9 = .ok (.aload_n 3, 1) := oq_45 (byt chX10_aid_0 9 rfl)
theorem dX10_aid_10 : decode cX10_aid 10 = .ok (.ifnull 11, 3) := oq_198 (byt chX10_aid_0 10 rfl) (byt chX10_aid_0 11 rfl) (byt chX10_aid_0 12 rfl) (by decide +kernel)
theorem dX10_aid_13 : decode cX10_aid 13 = .ok (.aload_n 3, 1) := oq_45 (byt chX10_aid_0 13 rfl)
theorem dX10_aid_14 : decode cX10_aid 14 = .ok (.iload_n 2, 1) := oq_28 (byt chX10_aid_0 14 rfl)
theorem dX10_aid_15 : decode cX10_aid 15 = .ok (.invokestatic 221, 3) := oq_184 (byt chX10_aid_0 15 rfl) (byt chX10_aid_1 0 rfl) (byt chX10_aid_1 1 rfl) rfl
theorem dX10_aid_18 : decode cX10_aid 18 = .ok (.ifCond .ne 6, 3) := oq_154 (byt chX10_aid_1 2 rfl) (byt chX10_aid_1 3 rfl) (byt chX10_aid_1 4 rfl) (by decide +kernel)
theorem dX10_aid_21 : decode cX10_aid 21 = .ok (.bipush (-2), 2) := oq_16 (byt chX10_aid_1 5 rfl) (byt chX10_aid_1 6 rfl) rfl
theorem dX10_aid_23 : decode cX10_aid 23 = .ok (.ireturn, 1) := oq_172 (byt chX10_aid_1 7 rfl)
theorem dX10_aid_24 : decode cX10_aid 24 = .ok (.aload_n 3, 1) := oq_45 (byt chX10_aid_1 8 rfl)
theorem dX10_aid_25 : decode cX10_aid 25 = .ok (.invokestatic 225, 3) := oq_184 (byt chX10_aid_1 9 rfl) (byt chX10_aid_1 10 rfl) (byt chX10_aid_1 11 rfl) rfl
theorem dX10_aid_28 : decode cX10_aid 28 = .ok (.ifCond .eq 11, 3) := oq_153 (byt chX10_aid_1 12 rfl) (byt chX10_aid_1 13 rfl) (byt chX10_aid_1 14 rfl) (by decide +kernel)
theorem dX10_aid_31 : decode cX10_aid 31 = .ok (.aload_n 3, 1) := oq_45 (byt chX10_aid_1 15 rfl)
theorem dX10_aid_32 : decode cX10_aid 32 = .ok (.iload_n 2, 1) := oq_28 (byt chX10_aid_2 0 rfl)
theorem dX10_aid_33 : decode cX10_aid 33 = .ok (.invokestatic 229, 3) := oq_184 (byt chX10_aid_2 1 rfl) (byt chX10_aid_2 2 rfl) (byt chX10_aid_2 3 rfl) rfl
theorem dX10_aid_36 : decode cX10_aid 36 = .ok (.goto 4, 3) := oq_167 (byt chX10_aid_2 4 rfl) (byt chX10_aid_2 5 rfl) (byt chX10_aid_2 6 rfl) (by decide +kernel)
theorem dX10_aid_39 : decode cX10_aid 39 = .ok (.iconst (-1), 1) := oq_2 (byt chX10_aid_2 7 rfl)
theorem dX10_aid_40 : decode cX10_aid 40 = .ok (.ireturn, 1) := oq_172 (byt chX10_aid_2 8 rfl)
abbrev mX10_aid : MI := (yX10_aid, cX10_aid, 4, (some .int), noE)
theorem okX10_aid : cok mX10_aid 2 := ⟨tw853, tw1, by decide, by decide, by decide, by decide +kernel⟩
def fX10_aid (M : Mem) (a0 a1 a2 : Int) : Option Int :=
  if M.2.1 a0 = 9 then if M.2.1 (M.1 a0 0) = 6 then (fX6_townAt M (M.1 a0 0) a1).bind fun r2 => if r2 = -1 then (some (-2)) else ((fX5_isAsked M r2 a2).bind fun r6 => if r6 = 0 then (some (-2)) else ((fX5_isEnough M r2).bind fun r9 => if r9 = 0 then (some (-1)) else ((fX5_answer M r2 a2).bind fun r12 => some r12))) else none else none
set_option maxRecDepth 100000 in
set_option maxHeartbeats 4000000 in
theorem kX10_aid (d : Nat) (hd : 5 ≤ d) (M : Mem) (a0 a1 a2 : Int) : Ct mX10_aid d 0 0 [pA a0, pI a1, pI a2] M (dI M) (fX10_aid M a0 a1 a2) := by
  obtain ⟨d, rfl⟩ : ∃ k, d = k + 1 := ⟨d - 1, by omega⟩
  refine Ct.of 1 (fun _ _ _ => trivial) (by decide +kernel) rfl ?_
  unfold fX10_aid
  refine v_aload_n dX10_aid_0 rfl ?_
  refine v_if (fun h1 => ?_)
  refine v_get (v := pA (M.1 a0 0)) 9 0 rfl inX10 (by decide) tw421 dX10_aid_1 h1 rfl ?_
  refine v_iload_n dX10_aid_4 rfl ?_
  refine v_if (fun h4 => ?_)
  refine v_cV (mi := mX10_aid) (c0 := 0) (c1 := 0) (As := [pI a1]) (st := []) (kX6_townAt d (by omega) _ _ _) rfl h4 rfl okX6_townAt (Or.inl tw680) tw681 tw682 rfl (Nat.le_of_ble_eq_true rfl) dX10_aid_5 (fun r2 => [pA r2]) (fun r2 => M) (fun _ => rfl) (fun _ => rfl) (fun r2 h3 => ?_) rfl
  refine v_astore_n (ls' := [some (pA a0), some (pI a1), some (pI a2), some (pA r2)]) dX10_aid_8 (by decide) rfl ?_
  refine v_aload_n dX10_aid_9 rfl ?_
  refine v_ifnull (tgt := 21) dX10_aid_10 (by decide) (fun c5 => ?_) (fun c5 => ?_)
  · refine v_bipush dX10_aid_21 (by decide) ?_
    exact v_ireturn dX10_aid_23 rfl rfl
  · refine v_aload_n dX10_aid_13 rfl ?_
    refine v_iload_n dX10_aid_14 rfl ?_
    refine v_cS (mi := mX10_aid) (c0 := 0) (c1 := 0) (As := [pA r2, pI a2]) (st := []) (kX5_isAsked d (by omega) _ _ _) okX5_isAsked (Or.inl tw854) tw855 rfl (Nat.le_of_ble_eq_true rfl) dX10_aid_15 (fun r6 => [pI r6]) (fun r6 => M) (fun _ => rfl) (fun _ => rfl) (fun r6 h7 => ?_) rfl
    refine v_if_ne (tgt := 24) dX10_aid_18 (by decide) (fun c8 => ?_) (fun c8 => ?_)
    · refine v_bipush dX10_aid_21 (by decide) ?_
      exact v_ireturn dX10_aid_23 rfl rfl
    · refine v_aload_n dX10_aid_24 rfl ?_
      refine v_cS (mi := mX10_aid) (c0 := 0) (c1 := 0) (As := [pA r2]) (st := []) (kX5_isEnough d (by omega) _ _) okX5_isEnough (Or.inl tw857) tw858 rfl (Nat.le_of_ble_eq_true rfl) dX10_aid_25 (fun r9 => [pI r9]) (fun r9 => M) (fun _ => rfl) (fun _ => rfl) (fun r9 h10 => ?_) rfl
      refine v_if_eq (tgt := 39) dX10_aid_28 (by decide) (fun c11 => ?_) (fun c11 => ?_)
      · refine v_iconst dX10_aid_39 (by decide) ?_
        exact v_ireturn dX10_aid_40 rfl rfl
      · refine v_aload_n dX10_aid_31 rfl ?_
        refine v_iload_n dX10_aid_32 rfl ?_
        refine v_cS (mi := mX10_aid) (c0 := 0) (c1 := 0) (As := [pA r2, pI a2]) (st := []) (kX5_answer d (by omega) _ _ _) okX5_answer (Or.inl tw870) tw871 rfl (Nat.le_of_ble_eq_true rfl) dX10_aid_33 (fun r12 => [pI r12]) (fun r12 => M) (fun _ => rfl) (fun _ => rfl) (fun r12 h13 => ?_) rfl
        refine v_goto (tgt := 40) dX10_aid_36 (by decide) ?_
        exact v_ireturn dX10_aid_40 rfl rfl
theorem chX10_carry_0 : (cX10_carry.data.toList.drop 0).take 16 = [42, 180, 0, 12, 27, 182, 0, 92, 77, 44, 199, 0, 7, 2, 167, 0] := by decide +kernel
theorem chX10_carry_1 : (cX10_carry.data.toList.drop 16).take 16 = [11, 42, 180, 0, 47, 44, 182, 0, 233, 172] := by decide +kernel
theorem dX10_carry_0 : decode cX10_carry 0 = .ok (.aload_n 0, 1) := oq_42 (byt chX10_carry_0 0 rfl)
theorem dX10_carry_1 : decode cX10_carry 1 = .ok (.getfield 12, 3) := oq_180 (byt chX10_carry_0 1 rfl) (byt chX10_carry_0 2 rfl) (byt chX10_carry_0 3 rfl) rfl
theorem dX10_carry_4 : decode cX10_carry 4 = .ok (.iload_n 1, 1) := oq_27 (byt chX10_carry_0 4 rfl)
theorem dX10_carry_5 : decode cX10_carry 5 = .ok (.invokevirtual 92, 3) := oq_182 (byt chX10_carry_0 5 rfl) (byt chX10_carry_0 6 rfl) (byt chX10_carry_0 7 rfl) rfl
theorem dX10_carry_8 : decode cX10_carry 8 = .ok (.astore_n 2, 1) := oq_77 (byt chX10_carry_0 8 rfl)
theorem dX10_carry_9 : decode cX10_carry 9 = .ok (.aload_n 2, 1) := oq_44 (byt chX10_carry_0 9 rfl)
theorem dX10_carry_10 : decode cX10_carry 10 = .ok (.ifnonnull 7, 3) := oq_199 (byt chX10_carry_0 10 rfl) (byt chX10_carry_0 11 rfl) (byt chX10_carry_0 12 rfl) (by decide +kernel)
theorem dX10_carry_13 : decode cX10_carry 13 = .ok (.iconst (-1), 1) := oq_2 (byt chX10_carry_0 13 rfl)
theorem dX10_carry_14 : decode cX10_carry 14 = .ok (.goto 11, 3) := oq_167 (byt chX10_carry_0 14 rfl) (byt chX10_carry_0 15 rfl) (byt chX10_carry_1 0 rfl) (by decide +kernel)
theorem dX10_carry_17 : decode cX10_carry 17 = .ok (.aload_n 0, 1) := oq_42 (byt chX10_carry_1 1 rfl)
theorem dX10_carry_18 : decode cX10_carry 18 = .ok (.getfield 47, 3) := oq_180 (byt chX10_carry_1 2 rfl) (byt chX10_carry_1 3 rfl) (byt chX10_carry_1 4 rfl) rfl
theorem dX10_carry_21 : decode cX10_carry 21 = .ok (.aload_n 2, 1) := oq_44 (byt chX10_carry_1 5 rfl)
theorem dX10_carry_22 : decode cX10_carry 22 = .ok (.invokevirtual 233, 3) := oq_182 (byt chX10_carry_1 6 rfl) (byt chX10_carry_1 7 rfl) (byt chX10_carry_1 8 rfl) rfl
theorem dX10_carry_25 : decode cX10_carry 25 = .ok (.ireturn, 1) := oq_172 (byt chX10_carry_1 9 rfl)
abbrev mX10_carry : MI := (yX10_carry, cX10_carry, 3, (some .int), noE)
theorem okX10_carry : cok mX10_carry 1 := ⟨tw889, tw1, by decide, by decide, by decide, by decide +kernel⟩
def fX10_carry (M : Mem) (a0 a1 : Int) : Option (Int × Mem) :=
  if M.2.1 a0 = 9 then if M.2.1 (M.1 a0 0) = 6 then (fX6_townAt M (M.1 a0 0) a1).bind fun r2 => if r2 = -1 then (some ((-1), M)) else (if M.2.1 (M.1 a0 4) = 5 then (fX5_carryAll M (M.1 a0 4) r2).bind fun r6 => some (r6.1, r6.2) else none) else none else none
set_option maxRecDepth 100000 in
set_option maxHeartbeats 4000000 in
theorem kX10_carry (d : Nat) (hd : 5 ≤ d) (M : Mem) (a0 a1 : Int) : Ct mX10_carry d 0 0 [pA a0, pI a1] M dIM (fX10_carry M a0 a1) := by
  obtain ⟨d, rfl⟩ : ∃ k, d = k + 1 := ⟨d - 1, by omega⟩
  refine Ct.of 1 (fun _ _ _ => trivial) (by decide +kernel) rfl ?_
  unfold fX10_carry
  refine v_aload_n dX10_carry_0 rfl ?_
  refine v_if (fun h1 => ?_)
  refine v_get (v := pA (M.1 a0 0)) 9 0 rfl inX10 (by decide) tw421 dX10_carry_1 h1 rfl ?_
  refine v_iload_n dX10_carry_4 rfl ?_
  refine v_if (fun h4 => ?_)
  refine v_cV (mi := mX10_carry) (c0 := 0) (c1 := 0) (As := [pI a1]) (st := []) (kX6_townAt d (by omega) _ _ _) rfl h4 rfl okX6_townAt (Or.inl tw680) tw681 tw682 rfl (Nat.le_of_ble_eq_true rfl) dX10_carry_5 (fun r2 => [pA r2]) (fun r2 => M) (fun _ => rfl) (fun _ => rfl) (fun r2 h3 => ?_) rfl
  refine v_astore_n (ls' := [some (pA a0), some (pI a1), some (pA r2)]) dX10_carry_8 (by decide) rfl ?_
  refine v_aload_n dX10_carry_9 rfl ?_
  refine v_ifnonnull (tgt := 17) dX10_carry_10 (by decide) (fun c5 => ?_) (fun c5 => ?_)
  · refine v_iconst dX10_carry_13 (by decide) ?_
    refine v_goto (tgt := 25) dX10_carry_14 (by decide) ?_
    exact v_ireturn dX10_carry_25 rfl rfl
  · refine v_aload_n dX10_carry_17 rfl ?_
    refine v_get (v := pA (M.1 a0 4)) 9 4 rfl inX10 (by decide) tw425 dX10_carry_18 h1 rfl ?_
    refine v_aload_n dX10_carry_21 rfl ?_
    refine v_if (fun h8 => ?_)
    refine v_cV (mi := mX10_carry) (c0 := 0) (c1 := 0) (As := [pA r2]) (st := []) (kX5_carryAll d (by omega) _ _ _) rfl h8 rfl okX5_carryAll (Or.inl tw890) tw891 tw892 rfl (Nat.le_of_ble_eq_true rfl) dX10_carry_22 (fun r6 => [pI r6.1]) (fun r6 => r6.2) (fun _ => rfl) (fun _ => rfl) (fun r6 h7 => ?_) rfl
    exact v_ireturn dX10_carry_25 rfl rfl
theorem chX10_round_0 : (cX10_round.data.toList.drop 0).take 16 = [42, 180, 0, 12, 27, 182, 0, 92, 78, 45, 199, 0, 5, 2, 172, 28] := by decide +kernel
theorem chX10_round_1 : (cX10_round.data.toList.drop 16).take 16 = [2, 160, 0, 8, 45, 182, 0, 237, 172, 45, 28, 182, 0, 104, 153, 0] := by decide +kernel
theorem chX10_round_2 : (cX10_round.data.toList.drop 32).take 16 = [11, 45, 28, 182, 0, 241, 167, 0, 4, 2, 172] := by decide +kernel
theorem dX10_round_0 : decode cX10_round 0 = .ok (.aload_n 0, 1) := oq_42 (byt chX10_round_0 0 rfl)
theorem dX10_round_1 : decode cX10_round 1 = .ok (.getfield 12, 3) := oq_180 (byt chX10_round_0 1 rfl) (byt chX10_round_0 2 rfl) (byt chX10_round_0 3 rfl) rfl
theorem dX10_round_4 : decode cX10_round 4 = .ok (.iload_n 1, 1) := oq_27 (byt chX10_round_0 4 rfl)
theorem dX10_round_5 : decode cX10_round 5 = .ok (.invokevirtual 92, 3) := oq_182 (byt chX10_round_0 5 rfl) (byt chX10_round_0 6 rfl) (byt chX10_round_0 7 rfl) rfl
theorem dX10_round_8 : decode cX10_round 8 = .ok (.astore_n 3, 1) := oq_78 (byt chX10_round_0 8 rfl)
theorem dX10_round_9 : decode cX10_round 9 = .ok (.aload_n 3, 1) := oq_45 (byt chX10_round_0 9 rfl)
theorem dX10_round_10 : decode cX10_round 10 = .ok (.ifnonnull 5, 3) := oq_199 (byt chX10_round_0 10 rfl) (byt chX10_round_0 11 rfl) (byt chX10_round_0 12 rfl) (by decide +kernel)
theorem dX10_round_13 : decode cX10_round 13 = .ok (.iconst (-1), 1) := oq_2 (byt chX10_round_0 13 rfl)
theorem dX10_round_14 : decode cX10_round 14 = .ok (.ireturn, 1) := oq_172 (byt chX10_round_0 14 rfl)
theorem dX10_round_15 : decode cX10_round 15 = .ok (.iload_n 2, 1) := oq_28 (byt chX10_round_0 15 rfl)
theorem dX10_round_16 : decode cX10_round 16 = .ok (.iconst (-1), 1) := oq_2 (byt chX10_round_1 0 rfl)
theorem dX10_round_17 : decode cX10_round 17 = .ok (.if_icmp .ne 8, 3) := oq_160 (byt chX10_round_1 1 rfl) (byt chX10_round_1 2 rfl) (byt chX10_round_1 3 rfl) (by decide +kernel)
theorem dX10_round_20 : decode cX10_round 20 = .ok (.aload_n 3, 1) := oq_45 (byt chX10_round_1 4 rfl)
theorem dX10_round_21 : decode cX10_round 21 = .ok (.invokevirtual 237, 3) := oq_182 (byt chX10_round_1 5 rfl) (byt chX10_round_1 6 rfl) (byt chX10_round_1 7 rfl) rfl
theorem dX10_round_24 : decode cX10_round 24 = .ok (.ireturn, 1) := oq_172 (byt chX10_round_1 8 rfl)
theorem dX10_round_25 : decode cX10_round 25 = .ok (.aload_n 3, 1) := oq_45 (byt chX10_round_1 9 rfl)
theorem dX10_round_26 : decode cX10_round 26 = .ok (.iload_n 2, 1) := oq_28 (byt chX10_round_1 10 rfl)
theorem dX10_round_27 : decode cX10_round 27 = .ok (.invokevirtual 104, 3) := oq_182 (byt chX10_round_1 11 rfl) (byt chX10_round_1 12 rfl) (byt chX10_round_1 13 rfl) rfl
theorem dX10_round_30 : decode cX10_round 30 = .ok (.ifCond .eq 11, 3) := oq_153 (byt chX10_round_1 14 rfl) (byt chX10_round_1 15 rfl) (byt chX10_round_2 0 rfl) (by decide +kernel)
theorem dX10_round_33 : decode cX10_round 33 = .ok (.aload_n 3, 1) := oq_45 (byt chX10_round_2 1 rfl)
theorem dX10_round_34 : decode cX10_round 34 = .ok (.iload_n 2, 1) := oq_28 (byt chX10_round_2 2 rfl)
theorem dX10_round_35 : decode cX10_round 35 = .ok (.invokevirtual 241, 3) := oq_182 (byt chX10_round_2 3 rfl) (byt chX10_round_2 4 rfl) (byt chX10_round_2 5 rfl) rfl
theorem dX10_round_38 : decode cX10_round 38 = .ok (.goto 4, 3) := oq_167 (byt chX10_round_2 6 rfl) (byt chX10_round_2 7 rfl) (byt chX10_round_2 8 rfl) (by decide +kernel)
theorem dX10_round_41 : decode cX10_round 41 = .ok (.iconst (-1), 1) := oq_2 (byt chX10_round_2 9 rfl)
theorem dX10_round_42 : decode cX10_round 42 = .ok (.ireturn, 1) := oq_172 (byt chX10_round_2 10 rfl)
abbrev mX10_round : MI := (yX10_round, cX10_round, 4, (some .int), noE)
theorem okX10_round : cok mX10_round 2 := ⟨tw912, tw1, by decide, by decide, by decide, by decide +kernel⟩
def fX10_round (M : Mem) (a0 a1 a2 : Int) : Option Int :=
  if M.2.1 a0 = 9 then if M.2.1 (M.1 a0 0) = 6 then (fX6_townAt M (M.1 a0 0) a1).bind fun r2 => if r2 = -1 then (some (-1)) else (if a2 = (-1) then (if M.2.1 r2 = 7 then (fX7_allHome M r2).bind fun r7 => some r7 else none) else (if M.2.1 r2 = 7 then (fX7_isHouse M r2 a2).bind fun r10 => if r10 = 0 then (some (-1)) else ((fX7_homeAgain M r2 a2).bind fun r14 => some r14) else none)) else none else none
set_option maxRecDepth 100000 in
set_option maxHeartbeats 4000000 in
theorem kX10_round (d : Nat) (hd : 2 ≤ d) (M : Mem) (a0 a1 a2 : Int) : Ct mX10_round d 0 0 [pA a0, pI a1, pI a2] M (dI M) (fX10_round M a0 a1 a2) := by
  obtain ⟨d, rfl⟩ : ∃ k, d = k + 1 := ⟨d - 1, by omega⟩
  refine Ct.of 1 (fun _ _ _ => trivial) (by decide +kernel) rfl ?_
  unfold fX10_round
  refine v_aload_n dX10_round_0 rfl ?_
  refine v_if (fun h1 => ?_)
  refine v_get (v := pA (M.1 a0 0)) 9 0 rfl inX10 (by decide) tw421 dX10_round_1 h1 rfl ?_
  refine v_iload_n dX10_round_4 rfl ?_
  refine v_if (fun h4 => ?_)
  refine v_cV (mi := mX10_round) (c0 := 0) (c1 := 0) (As := [pI a1]) (st := []) (kX6_townAt d (by omega) _ _ _) rfl h4 rfl okX6_townAt (Or.inl tw680) tw681 tw682 rfl (Nat.le_of_ble_eq_true rfl) dX10_round_5 (fun r2 => [pA r2]) (fun r2 => M) (fun _ => rfl) (fun _ => rfl) (fun r2 h3 => ?_) rfl
  refine v_astore_n (ls' := [some (pA a0), some (pI a1), some (pI a2), some (pA r2)]) dX10_round_8 (by decide) rfl ?_
  refine v_aload_n dX10_round_9 rfl ?_
  refine v_ifnonnull (tgt := 15) dX10_round_10 (by decide) (fun c5 => ?_) (fun c5 => ?_)
  · refine v_iconst dX10_round_13 (by decide) ?_
    exact v_ireturn dX10_round_14 rfl rfl
  · refine v_iload_n dX10_round_15 rfl ?_
    refine v_iconst dX10_round_16 (by decide) ?_
    refine v_icmp_ne (tgt := 25) dX10_round_17 (by decide) (fun c6 => ?_) (fun c6 => ?_)
    · refine v_aload_n dX10_round_20 rfl ?_
      refine v_if (fun h9 => ?_)
      refine v_cV (mi := mX10_round) (c0 := 0) (c1 := 0) (As := []) (st := []) (kX7_allHome d (by omega) _ _) rfl h9 rfl okX7_allHome (Or.inl tw913) tw914 tw915 rfl (Nat.le_of_ble_eq_true rfl) dX10_round_21 (fun r7 => [pI r7]) (fun r7 => M) (fun _ => rfl) (fun _ => rfl) (fun r7 h8 => ?_) rfl
      exact v_ireturn dX10_round_24 rfl rfl
    · refine v_aload_n dX10_round_25 rfl ?_
      refine v_iload_n dX10_round_26 rfl ?_
      refine v_if (fun h12 => ?_)
      refine v_cV (mi := mX10_round) (c0 := 0) (c1 := 0) (As := [pI a2]) (st := []) (kX7_isHouse d (by omega) _ _ _) rfl h12 rfl okX7_isHouse (Or.inl tw684) tw685 tw686 rfl (Nat.le_of_ble_eq_true rfl) dX10_round_27 (fun r10 => [pI r10]) (fun r10 => M) (fun _ => rfl) (fun _ => rfl) (fun r10 h11 => ?_) rfl
      refine v_if_eq (tgt := 41) dX10_round_30 (by decide) (fun c13 => ?_) (fun c13 => ?_)
      · refine v_iconst dX10_round_41 (by decide) ?_
        exact v_ireturn dX10_round_42 rfl rfl
      · refine v_aload_n dX10_round_33 rfl ?_
        refine v_iload_n dX10_round_34 rfl ?_
        refine v_cV (mi := mX10_round) (c0 := 0) (c1 := 0) (As := [pI a2]) (st := []) (kX7_homeAgain d (by omega) _ _ _) rfl h12 rfl okX7_homeAgain (Or.inl tw924) tw918 tw919 rfl (Nat.le_of_ble_eq_true rfl) dX10_round_35 (fun r14 => [pI r14]) (fun r14 => M) (fun _ => rfl) (fun _ => rfl) (fun r14 h15 => ?_) rfl
        refine v_goto (tgt := 42) dX10_round_38 (by decide) ?_
        exact v_ireturn dX10_round_42 rfl rfl
theorem chX10_meets_0 : (cX10_meets.data.toList.drop 0).take 16 = [42, 180, 0, 12, 27, 182, 0, 92, 58, 4, 25, 4, 198, 0, 21, 25] := by decide +kernel
theorem chX10_meets_1 : (cX10_meets.data.toList.drop 16).take 16 = [4, 28, 182, 0, 104, 153, 0, 12, 25, 4, 29, 182, 0, 104, 154, 0] := by decide +kernel
theorem chX10_meets_2 : (cX10_meets.data.toList.drop 32).take 16 = [5, 2, 172, 25, 4, 28, 29, 182, 0, 244, 172] := by decide +kernel
theorem dX10_meets_0 : decode cX10_meets 0 = .ok (.aload_n 0, 1) := oq_42 (byt chX10_meets_0 0 rfl)
theorem dX10_meets_1 : decode cX10_meets 1 = .ok (.getfield 12, 3) := oq_180 (byt chX10_meets_0 1 rfl) (byt chX10_meets_0 2 rfl) (byt chX10_meets_0 3 rfl) rfl
theorem dX10_meets_4 : decode cX10_meets 4 = .ok (.iload_n 1, 1) := oq_27 (byt chX10_meets_0 4 rfl)
theorem dX10_meets_5 : decode cX10_meets 5 = .ok (.invokevirtual 92, 3) := oq_182 (byt chX10_meets_0 5 rfl) (byt chX10_meets_0 6 rfl) (byt chX10_meets_0 7 rfl) rfl
theorem dX10_meets_8 : decode cX10_meets 8 = .ok (.astore 4, 2) := oq_58 (byt chX10_meets_0 8 rfl) (byt chX10_meets_0 9 rfl) rfl
theorem dX10_meets_10 : decode cX10_meets 10 = .ok (.aload 4, 2) := oq_25 (byt chX10_meets_0 10 rfl) (byt chX10_meets_0 11 rfl) rfl
theorem dX10_meets_12 : decode cX10_meets 12 = .ok (.ifnull 21, 3) := oq_198 (byt chX10_meets_0 12 rfl) (byt chX10_meets_0 13 rfl) (byt chX10_meets_0 14 rfl) (by decide +kernel)
theorem dX10_meets_15 : decode cX10_meets 15 = .ok (.aload 4, 2) := oq_25 (byt chX10_meets_0 15 rfl) (byt chX10_meets_1 0 rfl) rfl
theorem dX10_meets_17 : decode cX10_meets 17 = .ok (.iload_n 2, 1) := oq_28 (byt chX10_meets_1 1 rfl)
theorem dX10_meets_18 : decode cX10_meets 18 = .ok (.invokevirtual 104, 3) := oq_182 (byt chX10_meets_1 2 rfl) (byt chX10_meets_1 3 rfl) (byt chX10_meets_1 4 rfl) rfl
theorem dX10_meets_21 : decode cX10_meets 21 = .ok (.ifCond .eq 12, 3) := oq_153 (byt chX10_meets_1 5 rfl) (byt chX10_meets_1 6 rfl) (byt chX10_meets_1 7 rfl) (by decide +kernel)
theorem dX10_meets_24 : decode cX10_meets 24 = .ok (.aload 4, 2) := oq_25 (byt chX10_meets_1 8 rfl) (byt chX10_meets_1 9 rfl) rfl
theorem dX10_meets_26 : decode cX10_meets 26 = .ok (.iload_n 3, 1) := oq_29 (byt chX10_meets_1 10 rfl)
theorem dX10_meets_27 : decode cX10_meets 27 = .ok (.invokevirtual 104, 3) := oq_182 (byt chX10_meets_1 11 rfl) (byt chX10_meets_1 12 rfl) (byt chX10_meets_1 13 rfl) rfl
theorem dX10_meets_30 : decode cX10_meets 30 = .ok (.ifCond .ne 5, 3) := oq_154 (byt chX10_meets_1 14 rfl) (byt chX10_meets_1 15 rfl) (byt chX10_meets_2 0 rfl) (by decide +kernel)
theorem dX10_meets_33 : decode cX10_meets 33 = .ok (.iconst (-1), 1) := oq_2 (byt chX10_meets_2 1 rfl)
theorem dX10_meets_34 : decode cX10_meets 34 = .ok (.ireturn, 1) := oq_172 (byt chX10_meets_2 2 rfl)
theorem dX10_meets_35 : decode cX10_meets 35 = .ok (.aload 4, 2) := oq_25 (byt chX10_meets_2 3 rfl) (byt chX10_meets_2 4 rfl) rfl
theorem dX10_meets_37 : decode cX10_meets 37 = .ok (.iload_n 2, 1) := oq_28 (byt chX10_meets_2 5 rfl)
theorem dX10_meets_38 : decode cX10_meets 38 = .ok (.iload_n 3, 1) := oq_29 (byt chX10_meets_2 6 rfl)
theorem dX10_meets_39 : decode cX10_meets 39 = .ok (.invokevirtual 244, 3) := oq_182 (byt chX10_meets_2 7 rfl) (byt chX10_meets_2 8 rfl) (byt chX10_meets_2 9 rfl) rfl
theorem dX10_meets_42 : decode cX10_meets 42 = .ok (.ireturn, 1) := oq_172 (byt chX10_meets_2 10 rfl)
abbrev mX10_meets : MI := (yX10_meets, cX10_meets, 5, (some .int), noE)
theorem okX10_meets : cok mX10_meets 3 := ⟨tw928, tw1, by decide, by decide, by decide, by decide +kernel⟩
def fX10_meets (M : Mem) (a0 a1 a2 a3 : Int) : Option Int :=
  if M.2.1 a0 = 9 then if M.2.1 (M.1 a0 0) = 6 then (fX6_townAt M (M.1 a0 0) a1).bind fun r2 => if r2 = -1 then (some (-1)) else (if M.2.1 r2 = 7 then (fX7_isHouse M r2 a2).bind fun r6 => if r6 = 0 then (some (-1)) else ((fX7_isHouse M r2 a3).bind fun r10 => if r10 = 0 then (some (-1)) else ((fX7_meeting M r2 a2 a3).bind fun r13 => some r13)) else none) else none else none
set_option maxRecDepth 100000 in
set_option maxHeartbeats 4000000 in
theorem kX10_meets (d : Nat) (hd : 2 ≤ d) (M : Mem) (a0 a1 a2 a3 : Int) : Ct mX10_meets d 0 0 [pA a0, pI a1, pI a2, pI a3] M (dI M) (fX10_meets M a0 a1 a2 a3) := by
  obtain ⟨d, rfl⟩ : ∃ k, d = k + 1 := ⟨d - 1, by omega⟩
  refine Ct.of 1 (fun _ _ _ => trivial) (by decide +kernel) rfl ?_
  unfold fX10_meets
  refine v_aload_n dX10_meets_0 rfl ?_
  refine v_if (fun h1 => ?_)
  refine v_get (v := pA (M.1 a0 0)) 9 0 rfl inX10 (by decide) tw421 dX10_meets_1 h1 rfl ?_
  refine v_iload_n dX10_meets_4 rfl ?_
  refine v_if (fun h4 => ?_)
  refine v_cV (mi := mX10_meets) (c0 := 0) (c1 := 0) (As := [pI a1]) (st := []) (kX6_townAt d (by omega) _ _ _) rfl h4 rfl okX6_townAt (Or.inl tw680) tw681 tw682 rfl (Nat.le_of_ble_eq_true rfl) dX10_meets_5 (fun r2 => [pA r2]) (fun r2 => M) (fun _ => rfl) (fun _ => rfl) (fun r2 h3 => ?_) rfl
  refine v_astore (ls' := [some (pA a0), some (pI a1), some (pI a2), some (pI a3), some (pA r2)]) dX10_meets_8 (by decide) rfl ?_
  refine v_aload dX10_meets_10 rfl ?_
  refine v_ifnull (tgt := 33) dX10_meets_12 (by decide) (fun c5 => ?_) (fun c5 => ?_)
  · refine v_iconst dX10_meets_33 (by decide) ?_
    exact v_ireturn dX10_meets_34 rfl rfl
  · refine v_aload dX10_meets_15 rfl ?_
    refine v_iload_n dX10_meets_17 rfl ?_
    refine v_if (fun h8 => ?_)
    refine v_cV (mi := mX10_meets) (c0 := 0) (c1 := 0) (As := [pI a2]) (st := []) (kX7_isHouse d (by omega) _ _ _) rfl h8 rfl okX7_isHouse (Or.inl tw684) tw685 tw686 rfl (Nat.le_of_ble_eq_true rfl) dX10_meets_18 (fun r6 => [pI r6]) (fun r6 => M) (fun _ => rfl) (fun _ => rfl) (fun r6 h7 => ?_) rfl
    refine v_if_eq (tgt := 33) dX10_meets_21 (by decide) (fun c9 => ?_) (fun c9 => ?_)
    · refine v_iconst dX10_meets_33 (by decide) ?_
      exact v_ireturn dX10_meets_34 rfl rfl
    · refine v_aload dX10_meets_24 rfl ?_
      refine v_iload_n dX10_meets_26 rfl ?_
      refine v_cV (mi := mX10_meets) (c0 := 0) (c1 := 0) (As := [pI a3]) (st := []) (kX7_isHouse d (by omega) _ _ _) rfl h8 rfl okX7_isHouse (Or.inl tw684) tw685 tw686 rfl (Nat.le_of_ble_eq_true rfl) dX10_meets_27 (fun r10 => [pI r10]) (fun r10 => M) (fun _ => rfl) (fun _ => rfl) (fun r10 h11 => ?_) rfl
      refine v_if_ne (tgt := 35) dX10_meets_30 (by decide) (fun c12 => ?_) (fun c12 => ?_)
      · refine v_iconst dX10_meets_33 (by decide) ?_
        exact v_ireturn dX10_meets_34 rfl rfl
      · refine v_aload dX10_meets_35 rfl ?_
        refine v_iload_n dX10_meets_37 rfl ?_
        refine v_iload_n dX10_meets_38 rfl ?_
        refine v_cV (mi := mX10_meets) (c0 := 0) (c1 := 0) (As := [pI a2, pI a3]) (st := []) (kX7_meeting d (by omega) _ _ _ _) rfl h8 rfl okX7_meeting (Or.inl tw929) tw930 tw931 rfl (Nat.le_of_ble_eq_true rfl) dX10_meets_39 (fun r13 => [pI r13]) (fun r13 => M) (fun _ => rfl) (fun _ => rfl) (fun r13 h14 => ?_) rfl
        exact v_ireturn dX10_meets_42 rfl rfl
theorem chX10_sight_0 : (cX10_sight.data.toList.drop 0).take 16 = [42, 180, 0, 12, 27, 182, 0, 247, 78, 45, 199, 0, 6, 16, 254, 172] := by decide +kernel
theorem chX10_sight_1 : (cX10_sight.data.toList.drop 16).take 16 = [28, 154, 0, 8, 45, 180, 0, 251, 172, 28, 16, 10, 161, 0, 24, 28] := by decide +kernel
theorem chX10_sight_2 : (cX10_sight.data.toList.drop 32).take 16 = [16, 10, 45, 180, 0, 251, 96, 162, 0, 13, 45, 180, 0, 254, 28, 16] := by decide +kernel
theorem chX10_sight_3 : (cX10_sight.data.toList.drop 48).take 16 = [10, 100, 46, 172, 28, 16, 20, 161, 0, 24, 28, 16, 20, 45, 180, 0] := by decide +kernel
theorem chX10_sight_4 : (cX10_sight.data.toList.drop 64).take 16 = [251, 96, 162, 0, 13, 45, 180, 1, 1, 28, 16, 20, 100, 46, 172, 28] := by decide +kernel
theorem chX10_sight_5 : (cX10_sight.data.toList.drop 80).take 16 = [16, 30, 161, 0, 19, 28, 16, 60, 162, 0, 13, 45, 180, 1, 4, 28] := by decide +kernel
theorem chX10_sight_6 : (cX10_sight.data.toList.drop 96).take 16 = [16, 30, 100, 46, 172, 16, 254, 172] := by decide +kernel
theorem dX10_sight_0 : decode cX10_sight 0 = .ok (.aload_n 0, 1) := oq_42 (byt chX10_sight_0 0 rfl)
theorem dX10_sight_1 : decode cX10_sight 1 = .ok (.getfield 12, 3) := oq_180 (byt chX10_sight_0 1 rfl) (byt chX10_sight_0 2 rfl) (byt chX10_sight_0 3 rfl) rfl
theorem dX10_sight_4 : decode cX10_sight 4 = .ok (.iload_n 1, 1) := oq_27 (byt chX10_sight_0 4 rfl)
theorem dX10_sight_5 : decode cX10_sight 5 = .ok (.invokevirtual 247, 3) := oq_182 (byt chX10_sight_0 5 rfl) (byt chX10_sight_0 6 rfl) (byt chX10_sight_0 7 rfl) rfl
theorem dX10_sight_8 : decode cX10_sight 8 = .ok (.astore_n 3, 1) := oq_78 (byt chX10_sight_0 8 rfl)
theorem dX10_sight_9 : decode cX10_sight 9 = .ok (.aload_n 3, 1) := oq_45 (byt chX10_sight_0 9 rfl)
theorem dX10_sight_10 : decode cX10_sight 10 = .ok (.ifnonnull 6, 3) := oq_199 (byt chX10_sight_0 10 rfl) (byt chX10_sight_0 11 rfl) (byt chX10_sight_0 12 rfl) (by decide +kernel)
theorem dX10_sight_13 : decode cX10_sight 13 = .ok (.bipush (-2), 2) := oq_16 (byt chX10_sight_0 13 rfl) (byt chX10_sight_0 14 rfl) rfl
theorem dX10_sight_15 : decode cX10_sight 15 = .ok (.ireturn, 1) := oq_172 (byt chX10_sight_0 15 rfl)
theorem dX10_sight_16 : decode cX10_sight 16 = .ok (.iload_n 2, 1) := oq_28 (byt chX10_sight_1 0 rfl)
theorem dX10_sight_17 : decode cX10_sight 17 = .ok (.ifCond .ne 8, 3) := oq_154 (byt chX10_sight_1 1 rfl) (byt chX10_sight_1 2 rfl) (byt chX10_sight_1 3 rfl) (by decide +kernel)
theorem dX10_sight_20 : decode cX10_sight 20 = .ok (.aload_n 3, 1) := oq_45 (byt chX10_sight_1 4 rfl)
theorem dX10_sight_21 : decode cX10_sight 21 = .ok (.getfield 251, 3) := oq_180 (byt chX10_sight_1 5 rfl) (byt chX10_sight_1 6 rfl) (byt chX10_sight_1 7 rfl) rfl
theorem dX10_sight_24 : decode cX10_sight 24 = .ok (.ireturn, 1) := oq_172 (byt chX10_sight_1 8 rfl)
theorem dX10_sight_25 : decode cX10_sight 25 = .ok (.iload_n 2, 1) := oq_28 (byt chX10_sight_1 9 rfl)
theorem dX10_sight_26 : decode cX10_sight 26 = .ok (.bipush 10, 2) := oq_16 (byt chX10_sight_1 10 rfl) (byt chX10_sight_1 11 rfl) rfl
theorem dX10_sight_28 : decode cX10_sight 28 = .ok (.if_icmp .lt 24, 3) := oq_161 (byt chX10_sight_1 12 rfl) (byt chX10_sight_1 13 rfl) (byt chX10_sight_1 14 rfl) (by decide +kernel)
theorem dX10_sight_31 : decode cX10_sight 31 = .ok (.iload_n 2, 1) := oq_28 (byt chX10_sight_1 15 rfl)
theorem dX10_sight_32 : decode cX10_sight 32 = .ok (.bipush 10, 2) := oq_16 (byt chX10_sight_2 0 rfl) (byt chX10_sight_2 1 rfl) rfl
theorem dX10_sight_34 : decode cX10_sight 34 = .ok (.aload_n 3, 1) := oq_45 (byt chX10_sight_2 2 rfl)
theorem dX10_sight_35 : decode cX10_sight 35 = .ok (.getfield 251, 3) := oq_180 (byt chX10_sight_2 3 rfl) (byt chX10_sight_2 4 rfl) (byt chX10_sight_2 5 rfl) rfl
theorem dX10_sight_38 : decode cX10_sight 38 = .ok (.iadd, 1) := oq_96 (byt chX10_sight_2 6 rfl)
theorem dX10_sight_39 : decode cX10_sight 39 = .ok (.if_icmp .ge 13, 3) := oq_162 (byt chX10_sight_2 7 rfl) (byt chX10_sight_2 8 rfl) (byt chX10_sight_2 9 rfl) (by decide +kernel)
theorem dX10_sight_42 : decode cX10_sight 42 = .ok (.aload_n 3, 1) := oq_45 (byt chX10_sight_2 10 rfl)
theorem dX10_sight_43 : decode cX10_sight 43 = .ok (.getfield 254, 3) := oq_180 (byt chX10_sight_2 11 rfl) (byt chX10_sight_2 12 rfl) (byt chX10_sight_2 13 rfl) rfl
theorem dX10_sight_46 : decode cX10_sight 46 = .ok (.iload_n 2, 1) := oq_28 (byt chX10_sight_2 14 rfl)
theorem dX10_sight_47 : decode cX10_sight 47 = .ok (.bipush 10, 2) := oq_16 (byt chX10_sight_2 15 rfl) (byt chX10_sight_3 0 rfl) rfl
theorem dX10_sight_49 : decode cX10_sight 49 = .ok (.isub, 1) := oq_100 (byt chX10_sight_3 1 rfl)
theorem dX10_sight_50 : decode cX10_sight 50 = .ok (.iaload, 1) := oq_46 (byt chX10_sight_3 2 rfl)
theorem dX10_sight_51 : decode cX10_sight 51 = .ok (.ireturn, 1) := oq_172 (byt chX10_sight_3 3 rfl)
theorem dX10_sight_52 : decode cX10_sight 52 = .ok (.iload_n 2, 1) := oq_28 (byt chX10_sight_3 4 rfl)
theorem dX10_sight_53 : decode cX10_sight 53 = .ok (.bipush 20, 2) := oq_16 (byt chX10_sight_3 5 rfl) (byt chX10_sight_3 6 rfl) rfl
theorem dX10_sight_55 : decode cX10_sight 55 = .ok (.if_icmp .lt 24, 3) := oq_161 (byt chX10_sight_3 7 rfl) (byt chX10_sight_3 8 rfl) (byt chX10_sight_3 9 rfl) (by decide +kernel)
theorem dX10_sight_58 : decode cX10_sight 58 = .ok (.iload_n 2, 1) := oq_28 (byt chX10_sight_3 10 rfl)
theorem dX10_sight_59 : decode cX10_sight 59 = .ok (.bipush 20, 2) := oq_16 (byt chX10_sight_3 11 rfl) (byt chX10_sight_3 12 rfl) rfl
theorem dX10_sight_61 : decode cX10_sight 61 = .ok (.aload_n 3, 1) := oq_45 (byt chX10_sight_3 13 rfl)
theorem dX10_sight_62 : decode cX10_sight 62 = .ok (.getfield 251, 3) := oq_180 (byt chX10_sight_3 14 rfl) (byt chX10_sight_3 15 rfl) (byt chX10_sight_4 0 rfl) rfl
theorem dX10_sight_65 : decode cX10_sight 65 = .ok (.iadd, 1) := oq_96 (byt chX10_sight_4 1 rfl)
theorem dX10_sight_66 : decode cX10_sight 66 = .ok (.if_icmp .ge 13, 3) := oq_162 (byt chX10_sight_4 2 rfl) (byt chX10_sight_4 3 rfl) (byt chX10_sight_4 4 rfl) (by decide +kernel)
theorem dX10_sight_69 : decode cX10_sight 69 = .ok (.aload_n 3, 1) := oq_45 (byt chX10_sight_4 5 rfl)
theorem dX10_sight_70 : decode cX10_sight 70 = .ok (.getfield 257, 3) := oq_180 (byt chX10_sight_4 6 rfl) (byt chX10_sight_4 7 rfl) (byt chX10_sight_4 8 rfl) rfl
theorem dX10_sight_73 : decode cX10_sight 73 = .ok (.iload_n 2, 1) := oq_28 (byt chX10_sight_4 9 rfl)
theorem dX10_sight_74 : decode cX10_sight 74 = .ok (.bipush 20, 2) := oq_16 (byt chX10_sight_4 10 rfl) (byt chX10_sight_4 11 rfl) rfl
theorem dX10_sight_76 : decode cX10_sight 76 = .ok (.isub, 1) := oq_100 (byt chX10_sight_4 12 rfl)
theorem dX10_sight_77 : decode cX10_sight 77 = .ok (.iaload, 1) := oq_46 (byt chX10_sight_4 13 rfl)
theorem dX10_sight_78 : decode cX10_sight 78 = .ok (.ireturn, 1) := oq_172 (byt chX10_sight_4 14 rfl)
theorem dX10_sight_79 : decode cX10_sight 79 = .ok (.iload_n 2, 1) := oq_28 (byt chX10_sight_4 15 rfl)
theorem dX10_sight_80 : decode cX10_sight 80 = .ok (.bipush 30, 2) := oq_16 (byt chX10_sight_5 0 rfl) (byt chX10_sight_5 1 rfl) rfl
theorem dX10_sight_82 : decode cX10_sight 82 = .ok (.if_icmp .lt 19, 3) := oq_161 (byt chX10_sight_5 2 rfl) (byt chX10_sight_5 3 rfl) (byt chX10_sight_5 4 rfl) (by decide +kernel)
theorem dX10_sight_85 : decode cX10_sight 85 = .ok (.iload_n 2, 1) := oq_28 (byt chX10_sight_5 5 rfl)
theorem dX10_sight_86 : decode cX10_sight 86 = .ok (.bipush 60, 2) := oq_16 (byt chX10_sight_5 6 rfl) (byt chX10_sight_5 7 rfl) rfl
theorem dX10_sight_88 : decode cX10_sight 88 = .ok (.if_icmp .ge 13, 3) := oq_162 (byt chX10_sight_5 8 rfl) (byt chX10_sight_5 9 rfl) (byt chX10_sight_5 10 rfl) (by decide +kernel)
theorem dX10_sight_91 : decode cX10_sight 91 = .ok (.aload_n 3, 1) := oq_45 (byt chX10_sight_5 11 rfl)
theorem dX10_sight_92 : decode cX10_sight 92 = .ok (.getfield 260, 3) := oq_180 (byt chX10_sight_5 12 rfl) (byt chX10_sight_5 13 rfl) (byt chX10_sight_5 14 rfl) rfl
theorem dX10_sight_95 : decode cX10_sight 95 = .ok (.iload_n 2, 1) := oq_28 (byt chX10_sight_5 15 rfl)
theorem dX10_sight_96 : decode cX10_sight 96 = .ok (.bipush 30, 2) := oq_16 (byt chX10_sight_6 0 rfl) (byt chX10_sight_6 1 rfl) rfl
theorem dX10_sight_98 : decode cX10_sight 98 = .ok (.isub, 1) := oq_100 (byt chX10_sight_6 2 rfl)
theorem dX10_sight_99 : decode cX10_sight 99 = .ok (.iaload, 1) := oq_46 (byt chX10_sight_6 3 rfl)
theorem dX10_sight_100 : decode cX10_sight 100 = .ok (.ireturn, 1) := oq_172 (byt chX10_sight_6 4 rfl)
theorem dX10_sight_101 : decode cX10_sight 101 = .ok (.bipush (-2), 2) := oq_16 (byt chX10_sight_6 5 rfl) (byt chX10_sight_6 6 rfl) rfl
theorem dX10_sight_103 : decode cX10_sight 103 = .ok (.ireturn, 1) := oq_172 (byt chX10_sight_6 7 rfl)
abbrev mX10_sight : MI := (yX10_sight, cX10_sight, 4, (some .int), noE)
theorem okX10_sight : cok mX10_sight 2 := ⟨tw936, tw1, by decide, by decide, by decide, by decide +kernel⟩
def fX10_sight (M : Mem) (a0 a1 a2 : Int) : Option Int :=
  if M.2.1 a0 = 9 then if M.2.1 (M.1 a0 0) = 6 then (fX6_sightAt M (M.1 a0 0) a1).bind fun r2 => if r2 = -1 then (some (-2)) else (if a2 = 0 then (if M.2.1 r2 = 4 then some (M.1 r2 0) else none) else (jn (fun (t9 : Unit) => jn (fun (t11 : Unit) => if a2 < 30 then (some (-2)) else (if a2 < 60 then (if M.2.1 r2 = 4 then if M.2.1 (M.1 r2 3) = 12 ∧ (0 : Int) ≤ (w32 (a2 - 30)) ∧ (w32 (a2 - 30)) < M.2.2.1 (M.1 r2 3) then some (M.1 (M.1 r2 3) (w32 (a2 - 30))) else none else none) else (some (-2)))) (fun (j10 : Unit → Option Int) => if a2 < 20 then (j10 ()) else (if M.2.1 r2 = 4 then if a2 < w32 (20 + (M.1 r2 0)) then (if M.2.1 (M.1 r2 2) = 12 ∧ (0 : Int) ≤ (w32 (a2 - 20)) ∧ (w32 (a2 - 20)) < M.2.2.1 (M.1 r2 2) then some (M.1 (M.1 r2 2) (w32 (a2 - 20))) else none) else (j10 ()) else none))) (fun (j8 : Unit → Option Int) => if a2 < 10 then (j8 ()) else (if M.2.1 r2 = 4 then if a2 < w32 (10 + (M.1 r2 0)) then (if M.2.1 (M.1 r2 1) = 12 ∧ (0 : Int) ≤ (w32 (a2 - 10)) ∧ (w32 (a2 - 10)) < M.2.2.1 (M.1 r2 1) then some (M.1 (M.1 r2 1) (w32 (a2 - 10))) else none) else (j8 ()) else none)))) else none else none
set_option maxRecDepth 100000 in
set_option maxHeartbeats 4000000 in
theorem kX10_sight (d : Nat) (hd : 2 ≤ d) (M : Mem) (a0 a1 a2 : Int) : Ct mX10_sight d 0 0 [pA a0, pI a1, pI a2] M (dI M) (fX10_sight M a0 a1 a2) := by
  obtain ⟨d, rfl⟩ : ∃ k, d = k + 1 := ⟨d - 1, by omega⟩
  refine Ct.of 1 (fun _ _ _ => trivial) (by decide +kernel) rfl ?_
  unfold fX10_sight
  refine v_aload_n dX10_sight_0 rfl ?_
  refine v_if (fun h1 => ?_)
  refine v_get (v := pA (M.1 a0 0)) 9 0 rfl inX10 (by decide) tw421 dX10_sight_1 h1 rfl ?_
  refine v_iload_n dX10_sight_4 rfl ?_
  refine v_if (fun h4 => ?_)
  refine v_cV (mi := mX10_sight) (c0 := 0) (c1 := 0) (As := [pI a1]) (st := []) (kX6_sightAt d (by omega) _ _ _) rfl h4 rfl okX6_sightAt (Or.inl tw937) tw938 tw939 rfl (Nat.le_of_ble_eq_true rfl) dX10_sight_5 (fun r2 => [pA r2]) (fun r2 => M) (fun _ => rfl) (fun _ => rfl) (fun r2 h3 => ?_) rfl
  refine v_astore_n (ls' := [some (pA a0), some (pI a1), some (pI a2), some (pA r2)]) dX10_sight_8 (by decide) rfl ?_
  refine v_aload_n dX10_sight_9 rfl ?_
  refine v_ifnonnull (tgt := 16) dX10_sight_10 (by decide) (fun c5 => ?_) (fun c5 => ?_)
  · refine v_bipush dX10_sight_13 (by decide) ?_
    exact v_ireturn dX10_sight_15 rfl rfl
  · refine v_iload_n dX10_sight_16 rfl ?_
    refine v_if_ne (tgt := 25) dX10_sight_17 (by decide) (fun c6 => ?_) (fun c6 => ?_)
    · refine v_aload_n dX10_sight_20 rfl ?_
      refine v_if (fun h7 => ?_)
      refine v_get (v := pI (M.1 r2 0)) 4 0 rfl inX4 (by decide) tw187 dX10_sight_21 h7 rfl ?_
      exact v_ireturn dX10_sight_24 rfl rfl
    · refine v_iload_n dX10_sight_25 rfl ?_
      refine v_bipush dX10_sight_26 (by decide) ?_
      refine v_join (fun (t9 : Unit) => [none, none, some (pI a2), some (pA r2)]) (fun (t9 : Unit) => []) (fun (t9 : Unit) => M) 52 (fun t9 => ?_) (fun j8 hj8 => ?_)
      · refine v_iload_n dX10_sight_52 rfl ?_
        refine v_bipush dX10_sight_53 (by decide) ?_
        refine v_join (fun (t11 : Unit) => [none, none, some (pI a2), some (pA r2)]) (fun (t11 : Unit) => []) (fun (t11 : Unit) => M) 79 (fun t11 => ?_) (fun j10 hj10 => ?_)
        · refine v_iload_n dX10_sight_79 rfl ?_
          refine v_bipush dX10_sight_80 (by decide) ?_
          refine v_icmp_lt (tgt := 101) dX10_sight_82 (by decide) (fun c12 => ?_) (fun c12 => ?_)
          · refine v_bipush dX10_sight_101 (by decide) ?_
            exact v_ireturn dX10_sight_103 rfl rfl
          · refine v_iload_n dX10_sight_85 rfl ?_
            refine v_bipush dX10_sight_86 (by decide) ?_
            refine v_icmp_ge (tgt := 101) dX10_sight_88 (by decide) (fun c13 => ?_) (fun c13 => ?_)
            · refine v_aload_n dX10_sight_91 rfl ?_
              refine v_if (fun h14 => ?_)
              refine v_get (v := pA (M.1 r2 3)) 4 3 rfl inX4 (by decide) tw194 dX10_sight_92 h14 rfl ?_
              refine v_iload_n dX10_sight_95 rfl ?_
              refine v_bipush dX10_sight_96 (by decide) ?_
              refine v_isub dX10_sight_98 ?_
              refine v_if (fun h15 => ?_)
              refine v_iaload h15 dX10_sight_99 ?_
              exact v_ireturn dX10_sight_100 rfl rfl
            · refine v_bipush dX10_sight_101 (by decide) ?_
              exact v_ireturn dX10_sight_103 rfl rfl
        · refine v_icmp_lt (tgt := 79) dX10_sight_55 (by decide) (fun c16 => ?_) (fun c16 => ?_)
          · exact hj10 ()
          · refine v_iload_n dX10_sight_58 rfl ?_
            refine v_bipush dX10_sight_59 (by decide) ?_
            refine v_aload_n dX10_sight_61 rfl ?_
            refine v_if (fun h17 => ?_)
            refine v_get (v := pI (M.1 r2 0)) 4 0 rfl inX4 (by decide) tw187 dX10_sight_62 h17 rfl ?_
            refine v_iadd dX10_sight_65 ?_
            refine v_icmp_ge (tgt := 79) dX10_sight_66 (by decide) (fun c18 => ?_) (fun c18 => ?_)
            · refine v_aload_n dX10_sight_69 rfl ?_
              refine v_get (v := pA (M.1 r2 2)) 4 2 rfl inX4 (by decide) tw191 dX10_sight_70 h17 rfl ?_
              refine v_iload_n dX10_sight_73 rfl ?_
              refine v_bipush dX10_sight_74 (by decide) ?_
              refine v_isub dX10_sight_76 ?_
              refine v_if (fun h19 => ?_)
              refine v_iaload h19 dX10_sight_77 ?_
              exact v_ireturn dX10_sight_78 rfl rfl
            · exact hj10 ()
      · refine v_icmp_lt (tgt := 52) dX10_sight_28 (by decide) (fun c20 => ?_) (fun c20 => ?_)
        · exact v_drop [none, none, some (pI a2), some (pA r2)] (ls_n (ls_n (ls_s (ls_s ls_e)))) (hj8 ())
        · refine v_iload_n dX10_sight_31 rfl ?_
          refine v_bipush dX10_sight_32 (by decide) ?_
          refine v_aload_n dX10_sight_34 rfl ?_
          refine v_if (fun h21 => ?_)
          refine v_get (v := pI (M.1 r2 0)) 4 0 rfl inX4 (by decide) tw187 dX10_sight_35 h21 rfl ?_
          refine v_iadd dX10_sight_38 ?_
          refine v_icmp_ge (tgt := 52) dX10_sight_39 (by decide) (fun c22 => ?_) (fun c22 => ?_)
          · refine v_aload_n dX10_sight_42 rfl ?_
            refine v_get (v := pA (M.1 r2 1)) 4 1 rfl inX4 (by decide) tw189 dX10_sight_43 h21 rfl ?_
            refine v_iload_n dX10_sight_46 rfl ?_
            refine v_bipush dX10_sight_47 (by decide) ?_
            refine v_isub dX10_sight_49 ?_
            refine v_if (fun h23 => ?_)
            refine v_iaload h23 dX10_sight_50 ?_
            exact v_ireturn dX10_sight_51 rfl rfl
          · exact v_drop [none, none, some (pI a2), some (pA r2)] (ls_n (ls_n (ls_s (ls_s ls_e)))) (hj8 ())
theorem chX10_hands_0 : (cX10_hands.data.toList.drop 0).take 16 = [42, 180, 0, 12, 21, 4, 182, 0, 247, 58, 6, 25, 6, 198, 0, 31] := by decide +kernel
theorem chX10_hands_1 : (cX10_hands.data.toList.drop 16).take 16 = [21, 5, 2, 161, 0, 25, 21, 5, 25, 6, 180, 0, 251, 162, 0, 15] := by decide +kernel
theorem chX10_hands_2 : (cX10_hands.data.toList.drop 32).take 16 = [42, 27, 28, 29, 16, 40, 182, 0, 185, 154, 0, 5, 2, 172, 21, 5] := by decide +kernel
theorem chX10_hands_3 : (cX10_hands.data.toList.drop 48).take 16 = [2, 160, 0, 15, 25, 6, 42, 180, 0, 40, 182, 1, 7, 167, 0, 14] := by decide +kernel
theorem chX10_hands_4 : (cX10_hands.data.toList.drop 64).take 16 = [25, 6, 42, 180, 0, 40, 21, 5, 182, 1, 11, 172] := by decide +kernel
theorem dX10_hands_0 : decode cX10_hands 0 = .ok (.aload_n 0, 1) := oq_42 (byt chX10_hands_0 0 rfl)
theorem dX10_hands_1 : decode cX10_hands 1 = .ok (.getfield 12, 3) := oq_180 (byt chX10_hands_0 1 rfl) (byt chX10_hands_0 2 rfl) (byt chX10_hands_0 3 rfl) rfl
theorem dX10_hands_4 : decode cX10_hands 4 = .ok (.iload 4, 2) := oq_21 (byt chX10_hands_0 4 rfl) (byt chX10_hands_0 5 rfl) rfl
theorem dX10_hands_6 : decode cX10_hands 6 = .ok (.invokevirtual 247, 3) := oq_182 (byt chX10_hands_0 6 rfl) (byt chX10_hands_0 7 rfl) (byt chX10_hands_0 8 rfl) rfl
theorem dX10_hands_9 : decode cX10_hands 9 = .ok (.astore 6, 2) := oq_58 (byt chX10_hands_0 9 rfl) (byt chX10_hands_0 10 rfl) rfl
theorem dX10_hands_11 : decode cX10_hands 11 = .ok (.aload 6, 2) := oq_25 (byt chX10_hands_0 11 rfl) (byt chX10_hands_0 12 rfl) rfl
theorem dX10_hands_13 : decode cX10_hands 13 = .ok (.ifnull 31, 3) := oq_198 (byt chX10_hands_0 13 rfl) (byt chX10_hands_0 14 rfl) (byt chX10_hands_0 15 rfl) (by decide +kernel)
theorem dX10_hands_16 : decode cX10_hands 16 = .ok (.iload 5, 2) := oq_21 (byt chX10_hands_1 0 rfl) (byt chX10_hands_1 1 rfl) rfl
theorem dX10_hands_18 : decode cX10_hands 18 = .ok (.iconst (-1), 1) := oq_2 (byt chX10_hands_1 2 rfl)
theorem dX10_hands_19 : decode cX10_hands 19 = .ok (.if_icmp .lt 25, 3) := oq_161 (byt chX10_hands_1 3 rfl) (byt chX10_hands_1 4 rfl) (byt chX10_hands_1 5 rfl) (by decide +kernel)
theorem dX10_hands_22 : decode cX10_hands 22 = .ok (.iload 5, 2) := oq_21 (byt chX10_hands_1 6 rfl) (byt chX10_hands_1 7 rfl) rfl
theorem dX10_hands_24 : decode cX10_hands 24 = .ok (.aload 6, 2) := oq_25 (byt chX10_hands_1 8 rfl) (byt chX10_hands_1 9 rfl) rfl
theorem dX10_hands_26 : decode cX10_hands 26 = .ok (.getfield 251, 3) := oq_180 (byt chX10_hands_1 10 rfl) (byt chX10_hands_1 11 rfl) (byt chX10_hands_1 12 rfl) rfl
theorem dX10_hands_29 : decode cX10_hands 29 = .ok (.if_icmp .ge 15, 3) := oq_162 (byt chX10_hands_1 13 rfl) (byt chX10_hands_1 14 rfl) (byt chX10_hands_1 15 rfl) (by decide +kernel)
theorem dX10_hands_32 : decode cX10_hands 32 = .ok (.aload_n 0, 1) := oq_42 (byt chX10_hands_2 0 rfl)
theorem dX10_hands_33 : decode cX10_hands 33 = .ok (.iload_n 1, 1) := oq_27 (byt chX10_hands_2 1 rfl)
theorem dX10_hands_34 : decode cX10_hands 34 = .ok (.iload_n 2, 1) := oq_28 (byt chX10_hands_2 2 rfl)
theorem dX10_hands_35 : decode cX10_hands 35 = .ok (.iload_n 3, 1) := oq_29 (byt chX10_hands_2 3 rfl)
theorem dX10_hands_36 : decode cX10_hands 36 = .ok (.bipush 40, 2) := oq_16 (byt chX10_hands_2 4 rfl) (byt chX10_hands_2 5 rfl) rfl
theorem dX10_hands_38 : decode cX10_hands 38 = .ok (.invokevirtual 185, 3) := oq_182 (byt chX10_hands_2 6 rfl) (byt chX10_hands_2 7 rfl) (byt chX10_hands_2 8 rfl) rfl
theorem dX10_hands_41 : decode cX10_hands 41 = .ok (.ifCond .ne 5, 3) := oq_154 (byt chX10_hands_2 9 rfl) (byt chX10_hands_2 10 rfl) (byt chX10_hands_2 11 rfl) (by decide +kernel)
theorem dX10_hands_44 : decode cX10_hands 44 = .ok (.iconst (-1), 1) := oq_2 (byt chX10_hands_2 12 rfl)
theorem dX10_hands_45 : decode cX10_hands 45 = .ok (.ireturn, 1) := oq_172 (byt chX10_hands_2 13 rfl)
theorem dX10_hands_46 : decode cX10_hands 46 = .ok (.iload 5, 2) := oq_21 (byt chX10_hands_2 14 rfl) (byt chX10_hands_2 15 rfl) rfl
theorem dX10_hands_48 : decode cX10_hands 48 = .ok (.iconst (-1), 1) := oq_2 (byt chX10_hands_3 0 rfl)
theorem dX10_hands_49 : decode cX10_hands 49 = .ok (.if_icmp .ne 15, 3) := oq_160 (byt chX10_hands_3 1 rfl) (byt chX10_hands_3 2 rfl) (byt chX10_hands_3 3 rfl) (by decide +kernel)
theorem dX10_hands_52 : decode cX10_hands 52 = .ok (.aload 6, 2) := oq_25 (byt chX10_hands_3 4 rfl) (byt chX10_hands_3 5 rfl) rfl
theorem dX10_hands_54 : decode cX10_hands 54 = .ok (.aload_n 0, 1) := oq_42 (byt chX10_hands_3 6 rfl)
theorem dX10_hands_55 : decode cX10_hands 55 = .ok (.getfield 40, 3) := oq_180 (byt chX10_hands_3 7 rfl) (byt chX10_hands_3 8 rfl) (byt chX10_hands_3 9 rfl) rfl
theorem dX10_hands_58 : decode cX10_hands 58 = .ok (.invokevirtual 263, 3) := oq_182 (byt chX10_hands_3 10 rfl) (byt chX10_hands_3 11 rfl) (byt chX10_hands_3 12 rfl) rfl
theorem dX10_hands_61 : decode cX10_hands 61 = .ok (.goto 14, 3) := oq_167 (byt chX10_hands_3 13 rfl) (byt chX10_hands_3 14 rfl) (byt chX10_hands_3 15 rfl) (by decide +kernel)
theorem dX10_hands_64 : decode cX10_hands 64 = .ok (.aload 6, 2) := oq_25 (byt chX10_hands_4 0 rfl) (byt chX10_hands_4 1 rfl) rfl
theorem dX10_hands_66 : decode cX10_hands 66 = .ok (.aload_n 0, 1) := oq_42 (byt chX10_hands_4 2 rfl)
theorem dX10_hands_67 : decode cX10_hands 67 = .ok (.getfield 40, 3) := oq_180 (byt chX10_hands_4 3 rfl) (byt chX10_hands_4 4 rfl) (byt chX10_hands_4 5 rfl) rfl
theorem dX10_hands_70 : decode cX10_hands 70 = .ok (.iload 5, 2) := oq_21 (byt chX10_hands_4 6 rfl) (byt chX10_hands_4 7 rfl) rfl
theorem dX10_hands_72 : decode cX10_hands 72 = .ok (.invokevirtual 267, 3) := oq_182 (byt chX10_hands_4 8 rfl) (byt chX10_hands_4 9 rfl) (byt chX10_hands_4 10 rfl) rfl
theorem dX10_hands_75 : decode cX10_hands 75 = .ok (.ireturn, 1) := oq_172 (byt chX10_hands_4 11 rfl)
abbrev mX10_hands : MI := (yX10_hands, cX10_hands, 7, (some .int), noE)
theorem okX10_hands : cok mX10_hands 5 := ⟨tw944, tw1, by decide, by decide, by decide, by decide +kernel⟩
def fX10_hands (M : Mem) (a0 a1 a2 a3 a4 a5 : Int) : Option (Int × Mem) :=
  if M.2.1 a0 = 9 then if M.2.1 (M.1 a0 0) = 6 then (fX6_sightAt M (M.1 a0 0) a4).bind fun r2 => if r2 = -1 then (some ((-1), M)) else (if a5 < (-1) then (some ((-1), M)) else (if M.2.1 r2 = 4 then if a5 < M.1 r2 0 then ((fX10_walkTo M a0 a1 a2 a3 40).bind fun r9 => if r9.1 = 0 then (some ((-1), r9.2)) else (if a5 = (-1) then (if r9.2.2.1 a0 = 9 then if r9.2.2.1 r2 = 4 then (fX4_ways r9.2 r2 (r9.2.1 a0 3)).bind fun r14 => some (r14, r9.2) else none else none) else (if r9.2.2.1 a0 = 9 then if r9.2.2.1 r2 = 4 then (fX4_mayBe r9.2 r2 (r9.2.1 a0 3) a5).bind fun r18 => some (r18, r9.2) else none else none))) else (some ((-1), M)) else none)) else none else none
set_option maxRecDepth 100000 in
set_option maxHeartbeats 4000000 in
theorem kX10_hands (d : Nat) (hd : 25 ≤ d) (M : Mem) (a0 a1 a2 a3 a4 a5 : Int) : Ct mX10_hands d 0 0 [pA a0, pI a1, pI a2, pI a3, pI a4, pI a5] M dIM (fX10_hands M a0 a1 a2 a3 a4 a5) := by
  obtain ⟨d, rfl⟩ : ∃ k, d = k + 1 := ⟨d - 1, by omega⟩
  refine Ct.of 1 (fun _ _ _ => trivial) (by decide +kernel) rfl ?_
  unfold fX10_hands
  refine v_aload_n dX10_hands_0 rfl ?_
  refine v_if (fun h1 => ?_)
  refine v_get (v := pA (M.1 a0 0)) 9 0 rfl inX10 (by decide) tw421 dX10_hands_1 h1 rfl ?_
  refine v_iload dX10_hands_4 rfl ?_
  refine v_if (fun h4 => ?_)
  refine v_cV (mi := mX10_hands) (c0 := 0) (c1 := 0) (As := [pI a4]) (st := []) (kX6_sightAt d (by omega) _ _ _) rfl h4 rfl okX6_sightAt (Or.inl tw937) tw938 tw939 rfl (Nat.le_of_ble_eq_true rfl) dX10_hands_6 (fun r2 => [pA r2]) (fun r2 => M) (fun _ => rfl) (fun _ => rfl) (fun r2 h3 => ?_) rfl
  refine v_astore (ls' := [some (pA a0), some (pI a1), some (pI a2), some (pI a3), some (pI a4), some (pI a5), some (pA r2)]) dX10_hands_9 (by decide) rfl ?_
  refine v_aload dX10_hands_11 rfl ?_
  refine v_ifnull (tgt := 44) dX10_hands_13 (by decide) (fun c5 => ?_) (fun c5 => ?_)
  · refine v_iconst dX10_hands_44 (by decide) ?_
    exact v_ireturn dX10_hands_45 rfl rfl
  · refine v_iload dX10_hands_16 rfl ?_
    refine v_iconst dX10_hands_18 (by decide) ?_
    refine v_icmp_lt (tgt := 44) dX10_hands_19 (by decide) (fun c6 => ?_) (fun c6 => ?_)
    · refine v_iconst dX10_hands_44 (by decide) ?_
      exact v_ireturn dX10_hands_45 rfl rfl
    · refine v_iload dX10_hands_22 rfl ?_
      refine v_aload dX10_hands_24 rfl ?_
      refine v_if (fun h7 => ?_)
      refine v_get (v := pI (M.1 r2 0)) 4 0 rfl inX4 (by decide) tw187 dX10_hands_26 h7 rfl ?_
      refine v_icmp_ge (tgt := 44) dX10_hands_29 (by decide) (fun c8 => ?_) (fun c8 => ?_)
      · refine v_aload_n dX10_hands_32 rfl ?_
        refine v_iload_n dX10_hands_33 rfl ?_
        refine v_iload_n dX10_hands_34 rfl ?_
        refine v_iload_n dX10_hands_35 rfl ?_
        refine v_bipush dX10_hands_36 (by decide) ?_
        refine v_cV (mi := mX10_hands) (c0 := 0) (c1 := 0) (As := [pI a1, pI a2, pI a3, pI 40]) (st := []) (kX10_walkTo d (by omega) _ _ _ _ _ _) rfl h1 rfl okX10_walkTo (Or.inl tw734) tw736 tp14 rfl (Nat.le_of_ble_eq_true rfl) dX10_hands_38 (fun r9 => [pI r9.1]) (fun r9 => r9.2) (fun _ => rfl) (fun _ => rfl) (fun r9 h10 => ?_) rfl
        refine v_if_ne (tgt := 46) dX10_hands_41 (by decide) (fun c11 => ?_) (fun c11 => ?_)
        · refine v_iconst dX10_hands_44 (by decide) ?_
          exact v_ireturn dX10_hands_45 rfl rfl
        · refine v_iload dX10_hands_46 rfl ?_
          refine v_iconst dX10_hands_48 (by decide) ?_
          refine v_icmp_ne (tgt := 64) dX10_hands_49 (by decide) (fun c12 => ?_) (fun c12 => ?_)
          · refine v_aload dX10_hands_52 rfl ?_
            refine v_aload_n dX10_hands_54 rfl ?_
            refine v_if (fun h13 => ?_)
            refine v_get (v := pA (r9.2.1 a0 3)) 9 3 rfl inX10 (by decide) tw424 dX10_hands_55 h13 rfl ?_
            refine v_if (fun h16 => ?_)
            refine v_cV (mi := mX10_hands) (c0 := 0) (c1 := 0) (As := [pA (r9.2.1 a0 3)]) (st := []) (kX4_ways d (by omega) _ _ _) rfl h16 rfl okX4_ways (Or.inl tw945) tw946 tw947 rfl (Nat.le_of_ble_eq_true rfl) dX10_hands_58 (fun r14 => [pI r14]) (fun r14 => r9.2) (fun _ => rfl) (fun _ => rfl) (fun r14 h15 => ?_) rfl
            refine v_goto (tgt := 75) dX10_hands_61 (by decide) ?_
            exact v_ireturn dX10_hands_75 rfl rfl
          · refine v_aload dX10_hands_64 rfl ?_
            refine v_aload_n dX10_hands_66 rfl ?_
            refine v_if (fun h17 => ?_)
            refine v_get (v := pA (r9.2.1 a0 3)) 9 3 rfl inX10 (by decide) tw424 dX10_hands_67 h17 rfl ?_
            refine v_iload dX10_hands_70 rfl ?_
            refine v_if (fun h20 => ?_)
            refine v_cV (mi := mX10_hands) (c0 := 0) (c1 := 0) (As := [pA (r9.2.1 a0 3), pI a5]) (st := []) (kX4_mayBe d (by omega) _ _ _ _) rfl h20 rfl okX4_mayBe (Or.inl tw961) tw962 tw963 rfl (Nat.le_of_ble_eq_true rfl) dX10_hands_72 (fun r18 => [pI r18]) (fun r18 => r9.2) (fun _ => rfl) (fun _ => rfl) (fun r18 h19 => ?_) rfl
            exact v_ireturn dX10_hands_75 rfl rfl
      · refine v_iconst dX10_hands_44 (by decide) ?_
        exact v_ireturn dX10_hands_45 rfl rfl
theorem chX10_moved_0 : (cX10_moved.data.toList.drop 0).take 16 = [42, 180, 0, 12, 27, 182, 0, 92, 58, 4, 42, 180, 0, 12, 28, 182] := by decide +kernel
theorem chX10_moved_1 : (cX10_moved.data.toList.drop 16).take 16 = [0, 247, 58, 5, 25, 4, 198, 0, 8, 25, 5, 199, 0, 5, 2, 172] := by decide +kernel
theorem chX10_moved_2 : (cX10_moved.data.toList.drop 32).take 16 = [25, 5, 25, 4, 29, 182, 1, 14, 172] := by decide +kernel
theorem dX10_moved_0 : decode cX10_moved 0 = .ok (.aload_n 0, 1) := oq_42 (byt chX10_moved_0 0 rfl)
theorem dX10_moved_1 : decode cX10_moved 1 = .ok (.getfield 12, 3) := oq_180 (byt chX10_moved_0 1 rfl) (byt chX10_moved_0 2 rfl) (byt chX10_moved_0 3 rfl) rfl
theorem dX10_moved_4 : decode cX10_moved 4 = .ok (.iload_n 1, 1) := oq_27 (byt chX10_moved_0 4 rfl)
theorem dX10_moved_5 : decode cX10_moved 5 = .ok (.invokevirtual 92, 3) := oq_182 (byt chX10_moved_0 5 rfl) (byt chX10_moved_0 6 rfl) (byt chX10_moved_0 7 rfl) rfl
theorem dX10_moved_8 : decode cX10_moved 8 = .ok (.astore 4, 2) := oq_58 (byt chX10_moved_0 8 rfl) (byt chX10_moved_0 9 rfl) rfl
theorem dX10_moved_10 : decode cX10_moved 10 = .ok (.aload_n 0, 1) := oq_42 (byt chX10_moved_0 10 rfl)
theorem dX10_moved_11 : decode cX10_moved 11 = .ok (.getfield 12, 3) := oq_180 (byt chX10_moved_0 11 rfl) (byt chX10_moved_0 12 rfl) (byt chX10_moved_0 13 rfl) rfl
theorem dX10_moved_14 : decode cX10_moved 14 = .ok (.iload_n 2, 1) := oq_28 (byt chX10_moved_0 14 rfl)
theorem dX10_moved_15 : decode cX10_moved 15 = .ok (.invokevirtual 247, 3) := oq_182 (byt chX10_moved_0 15 rfl) (byt chX10_moved_1 0 rfl) (byt chX10_moved_1 1 rfl) rfl
theorem dX10_moved_18 : decode cX10_moved 18 = .ok (.astore 5, 2) := oq_58 (byt chX10_moved_1 2 rfl) (byt chX10_moved_1 3 rfl) rfl
theorem dX10_moved_20 : decode cX10_moved 20 = .ok (.aload 4, 2) := oq_25 (byt chX10_moved_1 4 rfl) (byt chX10_moved_1 5 rfl) rfl
theorem dX10_moved_22 : decode cX10_moved 22 = .ok (.ifnull 8, 3) := oq_198 (byt chX10_moved_1 6 rfl) (byt chX10_moved_1 7 rfl) (byt chX10_moved_1 8 rfl) (by decide +kernel)
theorem dX10_moved_25 : decode cX10_moved 25 = .ok (.aload 5, 2) := oq_25 (byt chX10_moved_1 9 rfl) (byt chX10_moved_1 10 rfl) rfl
theorem dX10_moved_27 : decode cX10_moved 27 = .ok (.ifnonnull 5, 3) := oq_199 (byt chX10_moved_1 11 rfl) (byt chX10_moved_1 12 rfl) (byt chX10_moved_1 13 rfl) (by decide +kernel)
theorem dX10_moved_30 : decode cX10_moved 30 = .ok (.iconst (-1), 1) := oq_2 (byt chX10_moved_1 14 rfl)
theorem dX10_moved_31 : decode cX10_moved 31 = .ok (.ireturn, 1) := oq_172 (byt chX10_moved_1 15 rfl)
theorem dX10_moved_32 : decode cX10_moved 32 = .ok (.aload 5, 2) := oq_25 (byt chX10_moved_2 0 rfl) (byt chX10_moved_2 1 rfl) rfl
theorem dX10_moved_34 : decode cX10_moved 34 = .ok (.aload 4, 2) := oq_25 (byt chX10_moved_2 2 rfl) (byt chX10_moved_2 3 rfl) rfl
theorem dX10_moved_36 : decode cX10_moved 36 = .ok (.iload_n 3, 1) := oq_29 (byt chX10_moved_2 4 rfl)
theorem dX10_moved_37 : decode cX10_moved 37 = .ok (.invokevirtual 270, 3) := oq_182 (byt chX10_moved_2 5 rfl) (byt chX10_moved_2 6 rfl) (byt chX10_moved_2 7 rfl) rfl
theorem dX10_moved_40 : decode cX10_moved 40 = .ok (.ireturn, 1) := oq_172 (byt chX10_moved_2 8 rfl)
abbrev mX10_moved : MI := (yX10_moved, cX10_moved, 6, (some .int), noE)
theorem okX10_moved : cok mX10_moved 3 := ⟨tw970, tw1, by decide, by decide, by decide, by decide +kernel⟩
def fX10_moved (M : Mem) (a0 a1 a2 a3 : Int) : Option Int :=
  if M.2.1 a0 = 9 then if M.2.1 (M.1 a0 0) = 6 then (fX6_townAt M (M.1 a0 0) a1).bind fun r2 => (fX6_sightAt M (M.1 a0 0) a2).bind fun r5 => if r2 = -1 then (some (-1)) else (if r5 = -1 then (some (-1)) else (if M.2.1 r5 = 4 then (fX4_movedFrom M r5 r2 a3).bind fun r9 => some r9 else none)) else none else none
set_option maxRecDepth 100000 in
set_option maxHeartbeats 4000000 in
theorem kX10_moved (d : Nat) (hd : 3 ≤ d) (M : Mem) (a0 a1 a2 a3 : Int) : Ct mX10_moved d 0 0 [pA a0, pI a1, pI a2, pI a3] M (dI M) (fX10_moved M a0 a1 a2 a3) := by
  obtain ⟨d, rfl⟩ : ∃ k, d = k + 1 := ⟨d - 1, by omega⟩
  refine Ct.of 2 (fun _ _ _ => trivial) (by decide +kernel) rfl ?_
  unfold fX10_moved
  refine v_aload_n dX10_moved_0 rfl ?_
  refine v_if (fun h1 => ?_)
  refine v_get (v := pA (M.1 a0 0)) 9 0 rfl inX10 (by decide) tw421 dX10_moved_1 h1 rfl ?_
  refine v_iload_n dX10_moved_4 rfl ?_
  refine v_if (fun h4 => ?_)
  refine v_cV (mi := mX10_moved) (c0 := 0) (c1 := 0) (As := [pI a1]) (st := []) (kX6_townAt d (by omega) _ _ _) rfl h4 rfl okX6_townAt (Or.inl tw680) tw681 tw682 rfl (Nat.le_of_ble_eq_true rfl) dX10_moved_5 (fun r2 => [pA r2]) (fun r2 => M) (fun _ => rfl) (fun _ => rfl) (fun r2 h3 => ?_) rfl
  refine v_astore (ls' := [some (pA a0), some (pI a1), some (pI a2), some (pI a3), some (pA r2), none]) dX10_moved_8 (by decide) rfl ?_
  refine v_aload_n dX10_moved_10 rfl ?_
  refine v_get (v := pA (M.1 a0 0)) 9 0 rfl inX10 (by decide) tw421 dX10_moved_11 h1 rfl ?_
  refine v_iload_n dX10_moved_14 rfl ?_
  refine v_cV (mi := mX10_moved) (c0 := 0) (c1 := 0) (As := [pI a2]) (st := []) (kX6_sightAt d (by omega) _ _ _) rfl h4 rfl okX6_sightAt (Or.inl tw937) tw938 tw939 rfl (Nat.le_of_ble_eq_true rfl) dX10_moved_15 (fun r5 => [pA r5]) (fun r5 => M) (fun _ => rfl) (fun _ => rfl) (fun r5 h6 => ?_) rfl
  refine v_astore (ls' := [some (pA a0), some (pI a1), some (pI a2), some (pI a3), some (pA r2), some (pA r5)]) dX10_moved_18 (by decide) rfl ?_
  refine v_aload dX10_moved_20 rfl ?_
  refine v_ifnull (tgt := 30) dX10_moved_22 (by decide) (fun c7 => ?_) (fun c7 => ?_)
  · refine v_iconst dX10_moved_30 (by decide) ?_
    exact v_ireturn dX10_moved_31 rfl rfl
  · refine v_aload dX10_moved_25 rfl ?_
    refine v_ifnonnull (tgt := 32) dX10_moved_27 (by decide) (fun c8 => ?_) (fun c8 => ?_)
    · refine v_iconst dX10_moved_30 (by decide) ?_
      exact v_ireturn dX10_moved_31 rfl rfl
    · refine v_aload dX10_moved_32 rfl ?_
      refine v_aload dX10_moved_34 rfl ?_
      refine v_iload_n dX10_moved_36 rfl ?_
      refine v_if (fun h11 => ?_)
      refine v_cV (mi := mX10_moved) (c0 := 0) (c1 := 0) (As := [pA r2, pI a3]) (st := []) (kX4_movedFrom d (by omega) _ _ _ _) rfl h11 rfl okX4_movedFrom (Or.inl tw971) tw972 tw973 rfl (Nat.le_of_ble_eq_true rfl) dX10_moved_37 (fun r9 => [pI r9]) (fun r9 => M) (fun _ => rfl) (fun _ => rfl) (fun r9 h10 => ?_) rfl
      exact v_ireturn dX10_moved_40 rfl rfl
theorem chX10_quit_0 : (cX10_quit.data.toList.drop 0).take 16 = [42, 180, 0, 12, 27, 182, 0, 148, 58, 6, 25, 6, 198, 0, 24, 28] := by decide +kernel
theorem chX10_quit_1 : (cX10_quit.data.toList.drop 16).take 16 = [155, 0, 20, 28, 16, 40, 163, 0, 14, 29, 4, 161, 0, 9, 29, 16] := by decide +kernel
theorem chX10_quit_2 : (cX10_quit.data.toList.drop 32).take 16 = [9, 164, 0, 5, 2, 172, 21, 4, 155, 0, 23, 21, 4, 16, 20, 162] := by decide +kernel
theorem chX10_quit_3 : (cX10_quit.data.toList.drop 48).take 16 = [0, 16, 21, 5, 2, 161, 0, 10, 21, 5, 16, 60, 164, 0, 5, 2] := by decide +kernel
theorem chX10_quit_4 : (cX10_quit.data.toList.drop 64).take 16 = [172, 21, 5, 2, 160, 0, 15, 25, 6, 28, 29, 21, 4, 182, 1, 18] := by decide +kernel
theorem chX10_quit_5 : (cX10_quit.data.toList.drop 80).take 16 = [167, 0, 14, 25, 6, 28, 29, 21, 4, 21, 5, 182, 1, 21, 172] := by decide +kernel
theorem dX10_quit_0 : decode cX10_quit 0 = .ok (.aload_n 0, 1) := oq_42 (byt chX10_quit_0 0 rfl)
theorem dX10_quit_1 : decode cX10_quit 1 = .ok (.getfield 12, 3) := oq_180 (byt chX10_quit_0 1 rfl) (byt chX10_quit_0 2 rfl) (byt chX10_quit_0 3 rfl) rfl
theorem dX10_quit_4 : decode cX10_quit 4 = .ok (.iload_n 1, 1) := oq_27 (byt chX10_quit_0 4 rfl)
theorem dX10_quit_5 : decode cX10_quit 5 = .ok (.invokevirtual 148, 3) := oq_182 (byt chX10_quit_0 5 rfl) (byt chX10_quit_0 6 rfl) (byt chX10_quit_0 7 rfl) rfl
theorem dX10_quit_8 : decode cX10_quit 8 = .ok (.astore 6, 2) := oq_58 (byt chX10_quit_0 8 rfl) (byt chX10_quit_0 9 rfl) rfl
theorem dX10_quit_10 : decode cX10_quit 10 = .ok (.aload 6, 2) := oq_25 (byt chX10_quit_0 10 rfl) (byt chX10_quit_0 11 rfl) rfl
theorem dX10_quit_12 : decode cX10_quit 12 = .ok (.ifnull 24, 3) := oq_198 (byt chX10_quit_0 12 rfl) (byt chX10_quit_0 13 rfl) (byt chX10_quit_0 14 rfl) (by decide +kernel)
theorem dX10_quit_15 : decode cX10_quit 15 = .ok (.iload_n 2, 1) := oq_28 (byt chX10_quit_0 15 rfl)
theorem dX10_quit_16 : decode cX10_quit 16 = .ok (.ifCond .lt 20, 3) := oq_155 (byt chX10_quit_1 0 rfl) (byt chX10_quit_1 1 rfl) (byt chX10_quit_1 2 rfl) (by decide +kernel)
theorem dX10_quit_19 : decode cX10_quit 19 = .ok (.iload_n 2, 1) := oq_28 (byt chX10_quit_1 3 rfl)
theorem dX10_quit_20 : decode cX10_quit 20 = .ok (.bipush 40, 2) := oq_16 (byt chX10_quit_1 4 rfl) (byt chX10_quit_1 5 rfl) rfl
theorem dX10_quit_22 : decode cX10_quit 22 = .ok (.if_icmp .gt 14, 3) := oq_163 (byt chX10_quit_1 6 rfl) (byt chX10_quit_1 7 rfl) (byt chX10_quit_1 8 rfl) (by decide +kernel)
theorem dX10_quit_25 : decode cX10_quit 25 = .ok (.iload_n 3, 1) := oq_29 (byt chX10_quit_1 9 rfl)
theorem dX10_quit_26 : decode cX10_quit 26 = .ok (.iconst 1, 1) := oq_4 (byt chX10_quit_1 10 rfl)
theorem dX10_quit_27 : decode cX10_quit 27 = .ok (.if_icmp .lt 9, 3) := oq_161 (byt chX10_quit_1 11 rfl) (byt chX10_quit_1 12 rfl) (byt chX10_quit_1 13 rfl) (by decide +kernel)
theorem dX10_quit_30 : decode cX10_quit 30 = .ok (.iload_n 3, 1) := oq_29 (byt chX10_quit_1 14 rfl)
theorem dX10_quit_31 : decode cX10_quit 31 = .ok (.bipush 9, 2) := oq_16 (byt chX10_quit_1 15 rfl) (byt chX10_quit_2 0 rfl) rfl
theorem dX10_quit_33 : decode cX10_quit 33 = .ok (.if_icmp .le 5, 3) := oq_164 (byt chX10_quit_2 1 rfl) (byt chX10_quit_2 2 rfl) (byt chX10_quit_2 3 rfl) (by decide +kernel)
theorem dX10_quit_36 : decode cX10_quit 36 = .ok (.iconst (-1), 1) := oq_2 (byt chX10_quit_2 4 rfl)
theorem dX10_quit_37 : decode cX10_quit 37 = .ok (.ireturn, 1) := oq_172 (byt chX10_quit_2 5 rfl)
theorem dX10_quit_38 : decode cX10_quit 38 = .ok (.iload 4, 2) := oq_21 (byt chX10_quit_2 6 rfl) (byt chX10_quit_2 7 rfl) rfl
theorem dX10_quit_40 : decode cX10_quit 40 = .ok (.ifCond .lt 23, 3) := oq_155 (byt chX10_quit_2 8 rfl) (byt chX10_quit_2 9 rfl) (byt chX10_quit_2 10 rfl) (by decide +kernel)
theorem dX10_quit_43 : decode cX10_quit 43 = .ok (.iload 4, 2) := oq_21 (byt chX10_quit_2 11 rfl) (byt chX10_quit_2 12 rfl) rfl
theorem dX10_quit_45 : decode cX10_quit 45 = .ok (.bipush 20, 2) := oq_16 (byt chX10_quit_2 13 rfl) (byt chX10_quit_2 14 rfl) rfl
theorem dX10_quit_47 : decode cX10_quit 47 = .ok (.if_icmp .ge 16, 3) := oq_162 (byt chX10_quit_2 15 rfl) (byt chX10_quit_3 0 rfl) (byt chX10_quit_3 1 rfl) (by decide +kernel)
theorem dX10_quit_50 : decode cX10_quit 50 = .ok (.iload 5, 2) := oq_21 (byt chX10_quit_3 2 rfl) (byt chX10_quit_3 3 rfl) rfl
theorem dX10_quit_52 : decode cX10_quit 52 = .ok (.iconst (-1), 1) := oq_2 (byt chX10_quit_3 4 rfl)
theorem dX10_quit_53 : decode cX10_quit 53 = .ok (.if_icmp .lt 10, 3) := oq_161 (byt chX10_quit_3 5 rfl) (byt chX10_quit_3 6 rfl) (byt chX10_quit_3 7 rfl) (by decide +kernel)
theorem dX10_quit_56 : decode cX10_quit 56 = .ok (.iload 5, 2) := oq_21 (byt chX10_quit_3 8 rfl) (byt chX10_quit_3 9 rfl) rfl
theorem dX10_quit_58 : decode cX10_quit 58 = .ok (.bipush 60, 2) := oq_16 (byt chX10_quit_3 10 rfl) (byt chX10_quit_3 11 rfl) rfl
theorem dX10_quit_60 : decode cX10_quit 60 = .ok (.if_icmp .le 5, 3) := oq_164 (byt chX10_quit_3 12 rfl) (byt chX10_quit_3 13 rfl) (byt chX10_quit_3 14 rfl) (by decide +kernel)
theorem dX10_quit_63 : decode cX10_quit 63 = .ok (.iconst (-1), 1) := oq_2 (byt chX10_quit_3 15 rfl)
theorem dX10_quit_64 : decode cX10_quit 64 = .ok (.ireturn, 1) := oq_172 (byt chX10_quit_4 0 rfl)
theorem dX10_quit_65 : decode cX10_quit 65 = .ok (.iload 5, 2) := oq_21 (byt chX10_quit_4 1 rfl) (byt chX10_quit_4 2 rfl) rfl
theorem dX10_quit_67 : decode cX10_quit 67 = .ok (.iconst (-1), 1) := oq_2 (byt chX10_quit_4 3 rfl)
theorem dX10_quit_68 : decode cX10_quit 68 = .ok (.if_icmp .ne 15, 3) := oq_160 (byt chX10_quit_4 4 rfl) (byt chX10_quit_4 5 rfl) (byt chX10_quit_4 6 rfl) (by decide +kernel)
theorem dX10_quit_71 : decode cX10_quit 71 = .ok (.aload 6, 2) := oq_25 (byt chX10_quit_4 7 rfl) (byt chX10_quit_4 8 rfl) rfl
theorem dX10_quit_73 : decode cX10_quit 73 = .ok (.iload_n 2, 1) := oq_28 (byt chX10_quit_4 9 rfl)
theorem dX10_quit_74 : decode cX10_quit 74 = .ok (.iload_n 3, 1) := oq_29 (byt chX10_quit_4 10 rfl)
theorem dX10_quit_75 : decode cX10_quit 75 = .ok (.iload 4, 2) := oq_21 (byt chX10_quit_4 11 rfl) (byt chX10_quit_4 12 rfl) rfl
theorem dX10_quit_77 : decode cX10_quit 77 = .ok (.invokevirtual 274, 3) := oq_182 (byt chX10_quit_4 13 rfl) (byt chX10_quit_4 14 rfl) (byt chX10_quit_4 15 rfl) rfl
theorem dX10_quit_80 : decode cX10_quit 80 = .ok (.goto 14, 3) := oq_167 (byt chX10_quit_5 0 rfl) (byt chX10_quit_5 1 rfl) (byt chX10_quit_5 2 rfl) (by decide +kernel)
theorem dX10_quit_83 : decode cX10_quit 83 = .ok (.aload 6, 2) := oq_25 (byt chX10_quit_5 3 rfl) (byt chX10_quit_5 4 rfl) rfl
theorem dX10_quit_85 : decode cX10_quit 85 = .ok (.iload_n 2, 1) := oq_28 (byt chX10_quit_5 5 rfl)
theorem dX10_quit_86 : decode cX10_quit 86 = .ok (.iload_n 3, 1) := oq_29 (byt chX10_quit_5 6 rfl)
theorem dX10_quit_87 : decode cX10_quit 87 = .ok (.iload 4, 2) := oq_21 (byt chX10_quit_5 7 rfl) (byt chX10_quit_5 8 rfl) rfl
theorem dX10_quit_89 : decode cX10_quit 89 = .ok (.iload 5, 2) := oq_21 (byt chX10_quit_5 9 rfl) (byt chX10_quit_5 10 rfl) rfl
theorem dX10_quit_91 : decode cX10_quit 91 = .ok (.invokevirtual 277, 3) := oq_182 (byt chX10_quit_5 11 rfl) (byt chX10_quit_5 12 rfl) (byt chX10_quit_5 13 rfl) rfl
theorem dX10_quit_94 : decode cX10_quit 94 = .ok (.ireturn, 1) := oq_172 (byt chX10_quit_5 14 rfl)
abbrev mX10_quit : MI := (yX10_quit, cX10_quit, 7, (some .int), noE)
theorem okX10_quit : cok mX10_quit 5 := ⟨tw988, tw1, by decide, by decide, by decide, by decide +kernel⟩
def fX10_quit (M : Mem) (a0 a1 a2 a3 a4 a5 : Int) : Option Int :=
  if M.2.1 a0 = 9 then if M.2.1 (M.1 a0 0) = 6 then (fX6_lawAt M (M.1 a0 0) a1).bind fun r2 => if r2 = -1 then (some (-1)) else (if a2 < 0 then (some (-1)) else (if 40 < a2 then (some (-1)) else (if a3 < 1 then (some (-1)) else (if 9 < a3 then (some (-1)) else (if a4 < 0 then (some (-1)) else (if a4 < 20 then (if a5 < (-1) then (some (-1)) else (if 60 < a5 then (some (-1)) else (if a5 = (-1) then (if M.2.1 r2 = 0 then (fX0_firstQuit M r2 a2 a3 a4).bind fun r15 => some r15 else none) else (if M.2.1 r2 = 0 then (fX0_fewestGifts M r2 a2 a3 a4 a5).bind fun r18 => some r18 else none)))) else (some (-1)))))))) else none else none
set_option maxRecDepth 100000 in
set_option maxHeartbeats 4000000 in
theorem kX10_quit (d : Nat) (hd : 2 ≤ d) (M : Mem) (a0 a1 a2 a3 a4 a5 : Int) : Ct mX10_quit d 0 0 [pA a0, pI a1, pI a2, pI a3, pI a4, pI a5] M (dI M) (fX10_quit M a0 a1 a2 a3 a4 a5) := by
  obtain ⟨d, rfl⟩ : ∃ k, d = k + 1 := ⟨d - 1, by omega⟩
  refine Ct.of 1 (fun _ _ _ => trivial) (by decide +kernel) rfl ?_
  unfold fX10_quit
  refine v_aload_n dX10_quit_0 rfl ?_
  refine v_if (fun h1 => ?_)
  refine v_get (v := pA (M.1 a0 0)) 9 0 rfl inX10 (by decide) tw421 dX10_quit_1 h1 rfl ?_
  refine v_iload_n dX10_quit_4 rfl ?_
  refine v_if (fun h4 => ?_)
  refine v_cV (mi := mX10_quit) (c0 := 0) (c1 := 0) (As := [pI a1]) (st := []) (kX6_lawAt d (by omega) _ _ _) rfl h4 rfl okX6_lawAt (Or.inl tw714) tw715 tw716 rfl (Nat.le_of_ble_eq_true rfl) dX10_quit_5 (fun r2 => [pA r2]) (fun r2 => M) (fun _ => rfl) (fun _ => rfl) (fun r2 h3 => ?_) rfl
  refine v_astore (ls' := [some (pA a0), some (pI a1), some (pI a2), some (pI a3), some (pI a4), some (pI a5), some (pA r2)]) dX10_quit_8 (by decide) rfl ?_
  refine v_aload dX10_quit_10 rfl ?_
  refine v_ifnull (tgt := 36) dX10_quit_12 (by decide) (fun c5 => ?_) (fun c5 => ?_)
  · refine v_iconst dX10_quit_36 (by decide) ?_
    exact v_ireturn dX10_quit_37 rfl rfl
  · refine v_iload_n dX10_quit_15 rfl ?_
    refine v_if_lt (tgt := 36) dX10_quit_16 (by decide) (fun c6 => ?_) (fun c6 => ?_)
    · refine v_iconst dX10_quit_36 (by decide) ?_
      exact v_ireturn dX10_quit_37 rfl rfl
    · refine v_iload_n dX10_quit_19 rfl ?_
      refine v_bipush dX10_quit_20 (by decide) ?_
      refine v_icmp_gt (tgt := 36) dX10_quit_22 (by decide) (fun c7 => ?_) (fun c7 => ?_)
      · refine v_iconst dX10_quit_36 (by decide) ?_
        exact v_ireturn dX10_quit_37 rfl rfl
      · refine v_iload_n dX10_quit_25 rfl ?_
        refine v_iconst dX10_quit_26 (by decide) ?_
        refine v_icmp_lt (tgt := 36) dX10_quit_27 (by decide) (fun c8 => ?_) (fun c8 => ?_)
        · refine v_iconst dX10_quit_36 (by decide) ?_
          exact v_ireturn dX10_quit_37 rfl rfl
        · refine v_iload_n dX10_quit_30 rfl ?_
          refine v_bipush dX10_quit_31 (by decide) ?_
          refine v_icmp_le (tgt := 38) dX10_quit_33 (by decide) (fun c9 => ?_) (fun c9 => ?_)
          · refine v_iconst dX10_quit_36 (by decide) ?_
            exact v_ireturn dX10_quit_37 rfl rfl
          · refine v_iload dX10_quit_38 rfl ?_
            refine v_if_lt (tgt := 63) dX10_quit_40 (by decide) (fun c10 => ?_) (fun c10 => ?_)
            · refine v_iconst dX10_quit_63 (by decide) ?_
              exact v_ireturn dX10_quit_64 rfl rfl
            · refine v_iload dX10_quit_43 rfl ?_
              refine v_bipush dX10_quit_45 (by decide) ?_
              refine v_icmp_ge (tgt := 63) dX10_quit_47 (by decide) (fun c11 => ?_) (fun c11 => ?_)
              · refine v_iload dX10_quit_50 rfl ?_
                refine v_iconst dX10_quit_52 (by decide) ?_
                refine v_icmp_lt (tgt := 63) dX10_quit_53 (by decide) (fun c12 => ?_) (fun c12 => ?_)
                · refine v_iconst dX10_quit_63 (by decide) ?_
                  exact v_ireturn dX10_quit_64 rfl rfl
                · refine v_iload dX10_quit_56 rfl ?_
                  refine v_bipush dX10_quit_58 (by decide) ?_
                  refine v_icmp_le (tgt := 65) dX10_quit_60 (by decide) (fun c13 => ?_) (fun c13 => ?_)
                  · refine v_iconst dX10_quit_63 (by decide) ?_
                    exact v_ireturn dX10_quit_64 rfl rfl
                  · refine v_iload dX10_quit_65 rfl ?_
                    refine v_iconst dX10_quit_67 (by decide) ?_
                    refine v_icmp_ne (tgt := 83) dX10_quit_68 (by decide) (fun c14 => ?_) (fun c14 => ?_)
                    · refine v_aload dX10_quit_71 rfl ?_
                      refine v_iload_n dX10_quit_73 rfl ?_
                      refine v_iload_n dX10_quit_74 rfl ?_
                      refine v_iload dX10_quit_75 rfl ?_
                      refine v_if (fun h17 => ?_)
                      refine v_cV (mi := mX10_quit) (c0 := 0) (c1 := 0) (As := [pI a2, pI a3, pI a4]) (st := []) (kX0_firstQuit d (by omega) _ _ _ _ _) rfl h17 rfl okX0_firstQuit (Or.inl tw989) tw990 tw991 rfl (Nat.le_of_ble_eq_true rfl) dX10_quit_77 (fun r15 => [pI r15]) (fun r15 => M) (fun _ => rfl) (fun _ => rfl) (fun r15 h16 => ?_) rfl
                      refine v_goto (tgt := 94) dX10_quit_80 (by decide) ?_
                      exact v_ireturn dX10_quit_94 rfl rfl
                    · refine v_aload dX10_quit_83 rfl ?_
                      refine v_iload_n dX10_quit_85 rfl ?_
                      refine v_iload_n dX10_quit_86 rfl ?_
                      refine v_iload dX10_quit_87 rfl ?_
                      refine v_iload dX10_quit_89 rfl ?_
                      refine v_if (fun h20 => ?_)
                      refine v_cV (mi := mX10_quit) (c0 := 0) (c1 := 0) (As := [pI a2, pI a3, pI a4, pI a5]) (st := []) (kX0_fewestGifts d (by omega) _ _ _ _ _ _) rfl h20 rfl okX0_fewestGifts (Or.inl tw994) tw995 tw996 rfl (Nat.le_of_ble_eq_true rfl) dX10_quit_91 (fun r18 => [pI r18]) (fun r18 => M) (fun _ => rfl) (fun _ => rfl) (fun r18 h19 => ?_) rfl
                      exact v_ireturn dX10_quit_94 rfl rfl
              · refine v_iconst dX10_quit_63 (by decide) ?_
                exact v_ireturn dX10_quit_64 rfl rfl
theorem chX10_weighings_0 : (cX10_weighings.data.toList.drop 0).take 16 = [3, 60, 4, 61, 28, 26, 162, 0, 19, 27, 16, 10, 162, 0, 13, 132] := by decide +kernel
theorem chX10_weighings_1 : (cX10_weighings.data.toList.drop 16).take 16 = [1, 1, 28, 6, 104, 61, 167, 255, 238, 27, 172] := by decide +kernel
theorem dX10_weighings_0 : decode cX10_weighings 0 = .ok (.iconst 0, 1) := oq_3 (byt chX10_weighings_0 0 rfl)
theorem dX10_weighings_1 : decode cX10_weighings 1 = .ok (.istore_n 1, 1) := oq_60 (byt chX10_weighings_0 1 rfl)
theorem dX10_weighings_2 : decode cX10_weighings 2 = .ok (.iconst 1, 1) := oq_4 (byt chX10_weighings_0 2 rfl)
theorem dX10_weighings_3 : decode cX10_weighings 3 = .ok (.istore_n 2, 1) := oq_61 (byt chX10_weighings_0 3 rfl)
theorem dX10_weighings_4 : decode cX10_weighings 4 = .ok (.iload_n 2, 1) := oq_28 (byt chX10_weighings_0 4 rfl)
theorem dX10_weighings_5 : decode cX10_weighings 5 = .ok (.iload_n 0, 1) := oq_26 (byt chX10_weighings_0 5 rfl)
theorem dX10_weighings_6 : decode cX10_weighings 6 = .ok (.if_icmp .ge 19, 3) := oq_162 (byt chX10_weighings_0 6 rfl) (byt chX10_weighings_0 7 rfl) (byt chX10_weighings_0 8 rfl) (by decide +kernel)
theorem dX10_weighings_9 : decode cX10_weighings 9 = .ok (.iload_n 1, 1) := oq_27 (byt chX10_weighings_0 9 rfl)
theorem dX10_weighings_10 : decode cX10_weighings 10 = .ok (.bipush 10, 2) := oq_16 (byt chX10_weighings_0 10 rfl) (byt chX10_weighings_0 11 rfl) rfl
theorem dX10_weighings_12 : decode cX10_weighings 12 = .ok (.if_icmp .ge 13, 3) := oq_162 (byt chX10_weighings_0 12 rfl) (byt chX10_weighings_0 13 rfl) (byt chX10_weighings_0 14 rfl) (by decide +kernel)
theorem dX10_weighings_15 : decode cX10_weighings 15 = .ok (.iinc 1 1, 3) := oq_132 (byt chX10_weighings_0 15 rfl) (byt chX10_weighings_1 0 rfl) (byt chX10_weighings_1 1 rfl) rfl
theorem dX10_weighings_18 : decode cX10_weighings 18 = .ok (.iload_n 2, 1) := oq_28 (byt chX10_weighings_1 2 rfl)
theorem dX10_weighings_19 : decode cX10_weighings 19 = .ok (.iconst 3, 1) := oq_6 (byt chX10_weighings_1 3 rfl)
theorem dX10_weighings_20 : decode cX10_weighings 20 = .ok (.imul, 1) := oq_104 (byt chX10_weighings_1 4 rfl)
theorem dX10_weighings_21 : decode cX10_weighings 21 = .ok (.istore_n 2, 1) := oq_61 (byt chX10_weighings_1 5 rfl)
theorem dX10_weighings_22 : decode cX10_weighings 22 = .ok (.goto (-18), 3) := oq_167 (byt chX10_weighings_1 6 rfl) (byt chX10_weighings_1 7 rfl) (byt chX10_weighings_1 8 rfl) (by decide +kernel)
theorem dX10_weighings_25 : decode cX10_weighings 25 = .ok (.iload_n 1, 1) := oq_27 (byt chX10_weighings_1 9 rfl)
theorem dX10_weighings_26 : decode cX10_weighings 26 = .ok (.ireturn, 1) := oq_172 (byt chX10_weighings_1 10 rfl)
abbrev mX10_weighings : MI := (yX10_weighings, cX10_weighings, 3, (some .int), noE)
theorem okX10_weighings : cok mX10_weighings 1 := ⟨tw1006, tw1, by decide, by decide, by decide, by decide +kernel⟩
def fX10_weighings (M : Mem) (a0 : Int) : Option Int :=
  iterC (fun (rec1 : (Int × Int) → Option Int) (s2 : Int × Int) => if s2.2 < a0 then (if s2.1 < 10 then (rec1 (w32 (s2.1 + 1), w32 (s2.2 * 3))) else (some s2.1)) else (some s2.1)) BIG (0, 1)
set_option maxRecDepth 100000 in
set_option maxHeartbeats 4000000 in
theorem kX10_weighings (d : Nat) (hd : 0 ≤ d) (M : Mem) (a0 : Int) : Ct mX10_weighings d 0 0 [pI a0] M (dI M) (fX10_weighings M a0) := by
  refine Ct.of 2 (fun _ _ _ => trivial) (by decide +kernel) rfl ?_
  unfold fX10_weighings
  refine v_iconst dX10_weighings_0 (by decide) ?_
  refine v_istore_n (ls' := [some (pI a0), some (pI 0), none]) dX10_weighings_1 (by decide) rfl ?_
  refine v_iconst dX10_weighings_2 (by decide) ?_
  refine v_istore_n (ls' := [some (pI a0), some (pI 0), some (pI 1)]) dX10_weighings_3 (by decide) rfl ?_
  refine v_loop (fun (s2 : Int × Int) => [some (pI a0), some (pI s2.1), some (pI s2.2)]) (fun (s2 : Int × Int) => M) (s0 := (0, 1)) ?_
  intro rec1 hrec1 s2
  refine v_iload_n dX10_weighings_4 rfl ?_
  refine v_iload_n dX10_weighings_5 rfl ?_
  refine v_icmp_ge (tgt := 25) dX10_weighings_6 (by decide) (fun c3 => ?_) (fun c3 => ?_)
  · refine v_iload_n dX10_weighings_9 rfl ?_
    refine v_bipush dX10_weighings_10 (by decide) ?_
    refine v_icmp_ge (tgt := 25) dX10_weighings_12 (by decide) (fun c4 => ?_) (fun c4 => ?_)
    · refine v_iinc (ls' := [some (pI a0), some (pI (w32 (s2.1 + 1))), some (pI s2.2)]) dX10_weighings_15 (by decide) rfl rfl ?_
      refine v_iload_n dX10_weighings_18 rfl ?_
      refine v_iconst dX10_weighings_19 (by decide) ?_
      refine v_imul dX10_weighings_20 ?_
      refine v_istore_n (ls' := [some (pI a0), some (pI (w32 (s2.1 + 1))), some (pI (w32 (s2.2 * 3)))]) dX10_weighings_21 (by decide) rfl ?_
      refine v_goto (tgt := 4) dX10_weighings_22 (by decide) ?_
      exact hrec1 (w32 (s2.1 + 1), w32 (s2.2 * 3))
    · refine v_iload_n dX10_weighings_25 rfl ?_
      exact v_ireturn dX10_weighings_26 rfl rfl
  · refine v_iload_n dX10_weighings_25 rfl ?_
    exact v_ireturn dX10_weighings_26 rfl rfl
theorem chX10_alms_0 : (cX10_alms.data.toList.drop 0).take 16 = [27, 4, 161, 0, 9, 27, 16, 60, 164, 0, 5, 2, 172, 28, 153, 0] := by decide +kernel
theorem chX10_alms_1 : (cX10_alms.data.toList.drop 16).take 16 = [8, 27, 4, 160, 0, 8, 27, 184, 1, 25, 172, 27, 5, 160, 0, 7] := by decide +kernel
theorem chX10_alms_2 : (cX10_alms.data.toList.drop 32).take 16 = [2, 167, 0, 11, 5, 27, 104, 4, 96, 184, 1, 25, 172] := by decide +kernel
theorem dX10_alms_0 : decode cX10_alms 0 = .ok (.iload_n 1, 1) := oq_27 (byt chX10_alms_0 0 rfl)
theorem dX10_alms_1 : decode cX10_alms 1 = .ok (.iconst 1, 1) := oq_4 (byt chX10_alms_0 1 rfl)
theorem dX10_alms_2 : decode cX10_alms 2 = .ok (.if_icmp .lt 9, 3) := oq_161 (byt chX10_alms_0 2 rfl) (byt chX10_alms_0 3 rfl) (byt chX10_alms_0 4 rfl) (by decide +kernel)
theorem dX10_alms_5 : decode cX10_alms 5 = .ok (.iload_n 1, 1) := oq_27 (byt chX10_alms_0 5 rfl)
theorem dX10_alms_6 : decode cX10_alms 6 = .ok (.bipush 60, 2) := oq_16 (byt chX10_alms_0 6 rfl) (byt chX10_alms_0 7 rfl) rfl
theorem dX10_alms_8 : decode cX10_alms 8 = .ok (.if_icmp .le 5, 3) := oq_164 (byt chX10_alms_0 8 rfl) (byt chX10_alms_0 9 rfl) (byt chX10_alms_0 10 rfl) (by decide +kernel)
theorem dX10_alms_11 : decode cX10_alms 11 = .ok (.iconst (-1), 1) := oq_2 (byt chX10_alms_0 11 rfl)
theorem dX10_alms_12 : decode cX10_alms 12 = .ok (.ireturn, 1) := oq_172 (byt chX10_alms_0 12 rfl)
theorem dX10_alms_13 : decode cX10_alms 13 = .ok (.iload_n 2, 1) := oq_28 (byt chX10_alms_0 13 rfl)
theorem dX10_alms_14 : decode cX10_alms 14 = .ok (.ifCond .eq 8, 3) := oq_153 (byt chX10_alms_0 14 rfl) (byt chX10_alms_0 15 rfl) (byt chX10_alms_1 0 rfl) (by decide +kernel)
theorem dX10_alms_17 : decode cX10_alms 17 = .ok (.iload_n 1, 1) := oq_27 (byt chX10_alms_1 1 rfl)
theorem dX10_alms_18 : decode cX10_alms 18 = .ok (.iconst 1, 1) := oq_4 (byt chX10_alms_1 2 rfl)
theorem dX10_alms_19 : decode cX10_alms 19 = .ok (.if_icmp .ne 8, 3) := oq_160 (byt chX10_alms_1 3 rfl) (byt chX10_alms_1 4 rfl) (byt chX10_alms_1 5 rfl) (by decide +kernel)
theorem dX10_alms_22 : decode cX10_alms 22 = .ok (.iload_n 1, 1) := oq_27 (byt chX10_alms_1 6 rfl)
theorem dX10_alms_23 : decode cX10_alms 23 = .ok (.invokestatic 281, 3) := oq_184 (byt chX10_alms_1 7 rfl) (byt chX10_alms_1 8 rfl) (byt chX10_alms_1 9 rfl) rfl
theorem dX10_alms_26 : decode cX10_alms 26 = .ok (.ireturn, 1) := oq_172 (byt chX10_alms_1 10 rfl)
theorem dX10_alms_27 : decode cX10_alms 27 = .ok (.iload_n 1, 1) := oq_27 (byt chX10_alms_1 11 rfl)
theorem dX10_alms_28 : decode cX10_alms 28 = .ok (.iconst 2, 1) := oq_5 (byt chX10_alms_1 12 rfl)
theorem dX10_alms_29 : decode cX10_alms 29 = .ok (.if_icmp .ne 7, 3) := oq_160 (byt chX10_alms_1 13 rfl) (byt chX10_alms_1 14 rfl) (byt chX10_alms_1 15 rfl) (by decide +kernel)
theorem dX10_alms_32 : decode cX10_alms 32 = .ok (.iconst (-1), 1) := oq_2 (byt chX10_alms_2 0 rfl)
theorem dX10_alms_33 : decode cX10_alms 33 = .ok (.goto 11, 3) := oq_167 (byt chX10_alms_2 1 rfl) (byt chX10_alms_2 2 rfl) (byt chX10_alms_2 3 rfl) (by decide +kernel)
theorem dX10_alms_36 : decode cX10_alms 36 = .ok (.iconst 2, 1) := oq_5 (byt chX10_alms_2 4 rfl)
theorem dX10_alms_37 : decode cX10_alms 37 = .ok (.iload_n 1, 1) := oq_27 (byt chX10_alms_2 5 rfl)
theorem dX10_alms_38 : decode cX10_alms 38 = .ok (.imul, 1) := oq_104 (byt chX10_alms_2 6 rfl)
theorem dX10_alms_39 : decode cX10_alms 39 = .ok (.iconst 1, 1) := oq_4 (byt chX10_alms_2 7 rfl)
theorem dX10_alms_40 : decode cX10_alms 40 = .ok (.iadd, 1) := oq_96 (byt chX10_alms_2 8 rfl)
theorem dX10_alms_41 : decode cX10_alms 41 = .ok (.invokestatic 281, 3) := oq_184 (byt chX10_alms_2 9 rfl) (byt chX10_alms_2 10 rfl) (byt chX10_alms_2 11 rfl) rfl
theorem dX10_alms_44 : decode cX10_alms 44 = .ok (.ireturn, 1) := oq_172 (byt chX10_alms_2 12 rfl)
abbrev mX10_alms : MI := (yX10_alms, cX10_alms, 3, (some .int), noE)
theorem okX10_alms : cok mX10_alms 2 := ⟨tw1003, tw1, by decide, by decide, by decide, by decide +kernel⟩
def fX10_alms (M : Mem) (a0 a1 a2 : Int) : Option Int :=
  if a1 < 1 then (some (-1)) else (if 60 < a1 then (some (-1)) else (jn (fun (t4 : Unit) => (fX10_weighings M a1).bind fun r5 => some r5) (fun (j3 : Unit → Option Int) => if a2 = 0 then (j3 ()) else (if a1 = 1 then (j3 ()) else (if a1 = 2 then (some (-1)) else ((fX10_weighings M (w32 ((w32 (2 * a1)) + 1))).bind fun r10 => some r10))))))
set_option maxRecDepth 100000 in
set_option maxHeartbeats 4000000 in
theorem kX10_alms (d : Nat) (hd : 1 ≤ d) (M : Mem) (a0 a1 a2 : Int) : Ct mX10_alms d 0 0 [pA a0, pI a1, pI a2] M (dI M) (fX10_alms M a0 a1 a2) := by
  obtain ⟨d, rfl⟩ : ∃ k, d = k + 1 := ⟨d - 1, by omega⟩
  refine Ct.of 0 (fun _ _ _ => trivial) (by decide +kernel) rfl ?_
  unfold fX10_alms
  refine v_iload_n dX10_alms_0 rfl ?_
  refine v_iconst dX10_alms_1 (by decide) ?_
  refine v_icmp_lt (tgt := 11) dX10_alms_2 (by decide) (fun c1 => ?_) (fun c1 => ?_)
  · refine v_iconst dX10_alms_11 (by decide) ?_
    exact v_ireturn dX10_alms_12 rfl rfl
  · refine v_iload_n dX10_alms_5 rfl ?_
    refine v_bipush dX10_alms_6 (by decide) ?_
    refine v_icmp_le (tgt := 13) dX10_alms_8 (by decide) (fun c2 => ?_) (fun c2 => ?_)
    · refine v_iconst dX10_alms_11 (by decide) ?_
      exact v_ireturn dX10_alms_12 rfl rfl
    · refine v_iload_n dX10_alms_13 rfl ?_
      refine v_join (fun (t4 : Unit) => [none, some (pI a1), none]) (fun (t4 : Unit) => []) (fun (t4 : Unit) => M) 22 (fun t4 => ?_) (fun j3 hj3 => ?_)
      · refine v_iload_n dX10_alms_22 rfl ?_
        refine v_cS (mi := mX10_alms) (c0 := 0) (c1 := 0) (As := [pI a1]) (st := []) (kX10_weighings d (by omega) _ _) okX10_weighings (Or.inl tw1004) tw1005 rfl (Nat.le_of_ble_eq_true rfl) dX10_alms_23 (fun r5 => [pI r5]) (fun r5 => M) (fun _ => rfl) (fun _ => rfl) (fun r5 h6 => ?_) rfl
        exact v_ireturn dX10_alms_26 rfl rfl
      · refine v_if_eq (tgt := 22) dX10_alms_14 (by decide) (fun c7 => ?_) (fun c7 => ?_)
        · exact v_drop [none, some (pI a1), none] (ls_n (ls_s (ls_n ls_e))) (hj3 ())
        · refine v_iload_n dX10_alms_17 rfl ?_
          refine v_iconst dX10_alms_18 (by decide) ?_
          refine v_icmp_ne (tgt := 27) dX10_alms_19 (by decide) (fun c8 => ?_) (fun c8 => ?_)
          · exact v_drop [none, some (pI a1), none] (ls_n (ls_s (ls_n ls_e))) (hj3 ())
          · refine v_iload_n dX10_alms_27 rfl ?_
            refine v_iconst dX10_alms_28 (by decide) ?_
            refine v_icmp_ne (tgt := 36) dX10_alms_29 (by decide) (fun c9 => ?_) (fun c9 => ?_)
            · refine v_iconst dX10_alms_32 (by decide) ?_
              refine v_goto (tgt := 44) dX10_alms_33 (by decide) ?_
              exact v_ireturn dX10_alms_44 rfl rfl
            · refine v_iconst dX10_alms_36 (by decide) ?_
              refine v_iload_n dX10_alms_37 rfl ?_
              refine v_imul dX10_alms_38 ?_
              refine v_iconst dX10_alms_39 (by decide) ?_
              refine v_iadd dX10_alms_40 ?_
              refine v_cS (mi := mX10_alms) (c0 := 0) (c1 := 0) (As := [pI (w32 ((w32 (2 * a1)) + 1))]) (st := []) (kX10_weighings d (by omega) _ _) okX10_weighings (Or.inl tw1004) tw1005 rfl (Nat.le_of_ble_eq_true rfl) dX10_alms_41 (fun r10 => [pI r10]) (fun r10 => M) (fun _ => rfl) (fun _ => rfl) (fun r10 h11 => ?_) rfl
              exact v_ireturn dX10_alms_44 rfl rfl
theorem chX10_prize_0 : (cX10_prize.data.toList.drop 0).take 16 = [42, 180, 0, 12, 27, 182, 0, 92, 58, 4, 25, 4, 198, 0, 21, 25] := by decide +kernel
theorem chX10_prize_1 : (cX10_prize.data.toList.drop 16).take 16 = [4, 28, 182, 0, 104, 153, 0, 12, 25, 4, 29, 182, 0, 104, 154, 0] := by decide +kernel
theorem chX10_prize_2 : (cX10_prize.data.toList.drop 32).take 16 = [7, 17, 252, 24, 172, 25, 4, 28, 29, 182, 1, 28, 172] := by decide +kernel
theorem dX10_prize_0 : decode cX10_prize 0 = .ok (.aload_n 0, 1) := oq_42 (byt chX10_prize_0 0 rfl)
theorem dX10_prize_1 : decode cX10_prize 1 = .ok (.getfield 12, 3) := oq_180 (byt chX10_prize_0 1 rfl) (byt chX10_prize_0 2 rfl) (byt chX10_prize_0 3 rfl) rfl
theorem dX10_prize_4 : decode cX10_prize 4 = .ok (.iload_n 1, 1) := oq_27 (byt chX10_prize_0 4 rfl)
theorem dX10_prize_5 : decode cX10_prize 5 = .ok (.invokevirtual 92, 3) := oq_182 (byt chX10_prize_0 5 rfl) (byt chX10_prize_0 6 rfl) (byt chX10_prize_0 7 rfl) rfl
theorem dX10_prize_8 : decode cX10_prize 8 = .ok (.astore 4, 2) := oq_58 (byt chX10_prize_0 8 rfl) (byt chX10_prize_0 9 rfl) rfl
theorem dX10_prize_10 : decode cX10_prize 10 = .ok (.aload 4, 2) := oq_25 (byt chX10_prize_0 10 rfl) (byt chX10_prize_0 11 rfl) rfl
theorem dX10_prize_12 : decode cX10_prize 12 = .ok (.ifnull 21, 3) := oq_198 (byt chX10_prize_0 12 rfl) (byt chX10_prize_0 13 rfl) (byt chX10_prize_0 14 rfl) (by decide +kernel)
theorem dX10_prize_15 : decode cX10_prize 15 = .ok (.aload 4, 2) := oq_25 (byt chX10_prize_0 15 rfl) (byt chX10_prize_1 0 rfl) rfl
theorem dX10_prize_17 : decode cX10_prize 17 = .ok (.iload_n 2, 1) := oq_28 (byt chX10_prize_1 1 rfl)
theorem dX10_prize_18 : decode cX10_prize 18 = .ok (.invokevirtual 104, 3) := oq_182 (byt chX10_prize_1 2 rfl) (byt chX10_prize_1 3 rfl) (byt chX10_prize_1 4 rfl) rfl
theorem dX10_prize_21 : decode cX10_prize 21 = .ok (.ifCond .eq 12, 3) := oq_153 (byt chX10_prize_1 5 rfl) (byt chX10_prize_1 6 rfl) (byt chX10_prize_1 7 rfl) (by decide +kernel)
theorem dX10_prize_24 : decode cX10_prize 24 = .ok (.aload 4, 2) := oq_25 (byt chX10_prize_1 8 rfl) (byt chX10_prize_1 9 rfl) rfl
theorem dX10_prize_26 : decode cX10_prize 26 = .ok (.iload_n 3, 1) := oq_29 (byt chX10_prize_1 10 rfl)
theorem dX10_prize_27 : decode cX10_prize 27 = .ok (.invokevirtual 104, 3) := oq_182 (byt chX10_prize_1 11 rfl) (byt chX10_prize_1 12 rfl) (byt chX10_prize_1 13 rfl) rfl
theorem dX10_prize_30 : decode cX10_prize 30 = .ok (.ifCond .ne 7, 3) := oq_154 (byt chX10_prize_1 14 rfl) (byt chX10_prize_1 15 rfl) (byt chX10_prize_2 0 rfl) (by decide +kernel)
theorem dX10_prize_33 : decode cX10_prize 33 = .ok (.sipush (-1000), 3) := oq_17 (byt chX10_prize_2 1 rfl) (byt chX10_prize_2 2 rfl) (byt chX10_prize_2 3 rfl) (by decide +kernel)
theorem dX10_prize_36 : decode cX10_prize 36 = .ok (.ireturn, 1) := oq_172 (byt chX10_prize_2 4 rfl)
theorem dX10_prize_37 : decode cX10_prize 37 = .ok (.aload 4, 2) := oq_25 (byt chX10_prize_2 5 rfl) (byt chX10_prize_2 6 rfl) rfl
theorem dX10_prize_39 : decode cX10_prize 39 = .ok (.iload_n 2, 1) := oq_28 (byt chX10_prize_2 7 rfl)
theorem dX10_prize_40 : decode cX10_prize 40 = .ok (.iload_n 3, 1) := oq_29 (byt chX10_prize_2 8 rfl)
theorem dX10_prize_41 : decode cX10_prize 41 = .ok (.invokevirtual 284, 3) := oq_182 (byt chX10_prize_2 9 rfl) (byt chX10_prize_2 10 rfl) (byt chX10_prize_2 11 rfl) rfl
theorem dX10_prize_44 : decode cX10_prize 44 = .ok (.ireturn, 1) := oq_172 (byt chX10_prize_2 12 rfl)
abbrev mX10_prize : MI := (yX10_prize, cX10_prize, 5, (some .int), noE)
theorem okX10_prize : cok mX10_prize 3 := ⟨tw1010, tw1, by decide, by decide, by decide, by decide +kernel⟩
def fX10_prize (M : Mem) (a0 a1 a2 a3 : Int) : Option Int :=
  if M.2.1 a0 = 9 then if M.2.1 (M.1 a0 0) = 6 then (fX6_townAt M (M.1 a0 0) a1).bind fun r2 => if r2 = -1 then (some (-1000)) else (if M.2.1 r2 = 7 then (fX7_isHouse M r2 a2).bind fun r6 => if r6 = 0 then (some (-1000)) else ((fX7_isHouse M r2 a3).bind fun r10 => if r10 = 0 then (some (-1000)) else ((fX7_prizeOf M r2 a2 a3).bind fun r13 => some r13)) else none) else none else none
set_option maxRecDepth 100000 in
set_option maxHeartbeats 4000000 in
theorem kX10_prize (d : Nat) (hd : 3 ≤ d) (M : Mem) (a0 a1 a2 a3 : Int) : Ct mX10_prize d 0 0 [pA a0, pI a1, pI a2, pI a3] M (dI M) (fX10_prize M a0 a1 a2 a3) := by
  obtain ⟨d, rfl⟩ : ∃ k, d = k + 1 := ⟨d - 1, by omega⟩
  refine Ct.of 1 (fun _ _ _ => trivial) (by decide +kernel) rfl ?_
  unfold fX10_prize
  refine v_aload_n dX10_prize_0 rfl ?_
  refine v_if (fun h1 => ?_)
  refine v_get (v := pA (M.1 a0 0)) 9 0 rfl inX10 (by decide) tw421 dX10_prize_1 h1 rfl ?_
  refine v_iload_n dX10_prize_4 rfl ?_
  refine v_if (fun h4 => ?_)
  refine v_cV (mi := mX10_prize) (c0 := 0) (c1 := 0) (As := [pI a1]) (st := []) (kX6_townAt d (by omega) _ _ _) rfl h4 rfl okX6_townAt (Or.inl tw680) tw681 tw682 rfl (Nat.le_of_ble_eq_true rfl) dX10_prize_5 (fun r2 => [pA r2]) (fun r2 => M) (fun _ => rfl) (fun _ => rfl) (fun r2 h3 => ?_) rfl
  refine v_astore (ls' := [some (pA a0), some (pI a1), some (pI a2), some (pI a3), some (pA r2)]) dX10_prize_8 (by decide) rfl ?_
  refine v_aload dX10_prize_10 rfl ?_
  refine v_ifnull (tgt := 33) dX10_prize_12 (by decide) (fun c5 => ?_) (fun c5 => ?_)
  · refine v_sipush dX10_prize_33 (by decide) ?_
    exact v_ireturn dX10_prize_36 rfl rfl
  · refine v_aload dX10_prize_15 rfl ?_
    refine v_iload_n dX10_prize_17 rfl ?_
    refine v_if (fun h8 => ?_)
    refine v_cV (mi := mX10_prize) (c0 := 0) (c1 := 0) (As := [pI a2]) (st := []) (kX7_isHouse d (by omega) _ _ _) rfl h8 rfl okX7_isHouse (Or.inl tw684) tw685 tw686 rfl (Nat.le_of_ble_eq_true rfl) dX10_prize_18 (fun r6 => [pI r6]) (fun r6 => M) (fun _ => rfl) (fun _ => rfl) (fun r6 h7 => ?_) rfl
    refine v_if_eq (tgt := 33) dX10_prize_21 (by decide) (fun c9 => ?_) (fun c9 => ?_)
    · refine v_sipush dX10_prize_33 (by decide) ?_
      exact v_ireturn dX10_prize_36 rfl rfl
    · refine v_aload dX10_prize_24 rfl ?_
      refine v_iload_n dX10_prize_26 rfl ?_
      refine v_cV (mi := mX10_prize) (c0 := 0) (c1 := 0) (As := [pI a3]) (st := []) (kX7_isHouse d (by omega) _ _ _) rfl h8 rfl okX7_isHouse (Or.inl tw684) tw685 tw686 rfl (Nat.le_of_ble_eq_true rfl) dX10_prize_27 (fun r10 => [pI r10]) (fun r10 => M) (fun _ => rfl) (fun _ => rfl) (fun r10 h11 => ?_) rfl
      refine v_if_ne (tgt := 37) dX10_prize_30 (by decide) (fun c12 => ?_) (fun c12 => ?_)
      · refine v_sipush dX10_prize_33 (by decide) ?_
        exact v_ireturn dX10_prize_36 rfl rfl
      · refine v_aload dX10_prize_37 rfl ?_
        refine v_iload_n dX10_prize_39 rfl ?_
        refine v_iload_n dX10_prize_40 rfl ?_
        refine v_cV (mi := mX10_prize) (c0 := 0) (c1 := 0) (As := [pI a2, pI a3]) (st := []) (kX7_prizeOf d (by omega) _ _ _ _) rfl h8 rfl okX7_prizeOf (Or.inl tw1011) tw1012 tw1013 rfl (Nat.le_of_ble_eq_true rfl) dX10_prize_41 (fun r13 => [pI r13]) (fun r13 => M) (fun _ => rfl) (fun _ => rfl) (fun r13 h14 => ?_) rfl
        exact v_ireturn dX10_prize_44 rfl rfl
theorem chX10_rest_0 : (cX10_rest.data.toList.drop 0).take 16 = [42, 180, 0, 12, 27, 182, 0, 92, 78, 45, 198, 0, 8, 28, 2, 162] := by decide +kernel
theorem chX10_rest_1 : (cX10_rest.data.toList.drop 16).take 16 = [0, 7, 2, 167, 0, 8, 45, 28, 182, 1, 31, 172] := by decide +kernel
theorem dX10_rest_0 : decode cX10_rest 0 = .ok (.aload_n 0, 1) := oq_42 (byt chX10_rest_0 0 rfl)
theorem dX10_rest_1 : decode cX10_rest 1 = .ok (.getfield 12, 3) := oq_180 (byt chX10_rest_0 1 rfl) (byt chX10_rest_0 2 rfl) (byt chX10_rest_0 3 rfl) rfl
theorem dX10_rest_4 : decode cX10_rest 4 = .ok (.iload_n 1, 1) := oq_27 (byt chX10_rest_0 4 rfl)
theorem dX10_rest_5 : decode cX10_rest 5 = .ok (.invokevirtual 92, 3) := oq_182 (byt chX10_rest_0 5 rfl) (byt chX10_rest_0 6 rfl) (byt chX10_rest_0 7 rfl) rfl
theorem dX10_rest_8 : decode cX10_rest 8 = .ok (.astore_n 3, 1) := oq_78 (byt chX10_rest_0 8 rfl)
theorem dX10_rest_9 : decode cX10_rest 9 = .ok (.aload_n 3, 1) := oq_45 (byt chX10_rest_0 9 rfl)
theorem dX10_rest_10 : decode cX10_rest 10 = .ok (.ifnull 8, 3) := oq_198 (byt chX10_rest_0 10 rfl) (byt chX10_rest_0 11 rfl) (byt chX10_rest_0 12 rfl) (by decide +kernel)
theorem dX10_rest_13 : decode cX10_rest 13 = .ok (.iload_n 2, 1) := oq_28 (byt chX10_rest_0 13 rfl)
theorem dX10_rest_14 : decode cX10_rest 14 = .ok (.iconst (-1), 1) := oq_2 (byt chX10_rest_0 14 rfl)
theorem dX10_rest_15 : decode cX10_rest 15 = .ok (.if_icmp .ge 7, 3) := oq_162 (byt chX10_rest_0 15 rfl) (byt chX10_rest_1 0 rfl) (byt chX10_rest_1 1 rfl) (by decide +kernel)
theorem dX10_rest_18 : decode cX10_rest 18 = .ok (.iconst (-1), 1) := oq_2 (byt chX10_rest_1 2 rfl)
theorem dX10_rest_19 : decode cX10_rest 19 = .ok (.goto 8, 3) := oq_167 (byt chX10_rest_1 3 rfl) (byt chX10_rest_1 4 rfl) (byt chX10_rest_1 5 rfl) (by decide +kernel)
theorem dX10_rest_22 : decode cX10_rest 22 = .ok (.aload_n 3, 1) := oq_45 (byt chX10_rest_1 6 rfl)
theorem dX10_rest_23 : decode cX10_rest 23 = .ok (.iload_n 2, 1) := oq_28 (byt chX10_rest_1 7 rfl)
theorem dX10_rest_24 : decode cX10_rest 24 = .ok (.invokevirtual 287, 3) := oq_182 (byt chX10_rest_1 8 rfl) (byt chX10_rest_1 9 rfl) (byt chX10_rest_1 10 rfl) rfl
theorem dX10_rest_27 : decode cX10_rest 27 = .ok (.ireturn, 1) := oq_172 (byt chX10_rest_1 11 rfl)
abbrev mX10_rest : MI := (yX10_rest, cX10_rest, 4, (some .int), noE)
theorem okX10_rest : cok mX10_rest 2 := ⟨tw1022, tw1, by decide, by decide, by decide, by decide +kernel⟩
def fX10_rest (M : Mem) (a0 a1 a2 : Int) : Option Int :=
  if M.2.1 a0 = 9 then if M.2.1 (M.1 a0 0) = 6 then (fX6_townAt M (M.1 a0 0) a1).bind fun r2 => if r2 = -1 then (some (-1)) else (if a2 < (-1) then (some (-1)) else (if M.2.1 r2 = 7 then (fX7_restAt M r2 a2).bind fun r7 => some r7 else none)) else none else none
set_option maxRecDepth 100000 in
set_option maxHeartbeats 4000000 in
theorem kX10_rest (d : Nat) (hd : 5 ≤ d) (M : Mem) (a0 a1 a2 : Int) : Ct mX10_rest d 0 0 [pA a0, pI a1, pI a2] M (dI M) (fX10_rest M a0 a1 a2) := by
  obtain ⟨d, rfl⟩ : ∃ k, d = k + 1 := ⟨d - 1, by omega⟩
  refine Ct.of 1 (fun _ _ _ => trivial) (by decide +kernel) rfl ?_
  unfold fX10_rest
  refine v_aload_n dX10_rest_0 rfl ?_
  refine v_if (fun h1 => ?_)
  refine v_get (v := pA (M.1 a0 0)) 9 0 rfl inX10 (by decide) tw421 dX10_rest_1 h1 rfl ?_
  refine v_iload_n dX10_rest_4 rfl ?_
  refine v_if (fun h4 => ?_)
  refine v_cV (mi := mX10_rest) (c0 := 0) (c1 := 0) (As := [pI a1]) (st := []) (kX6_townAt d (by omega) _ _ _) rfl h4 rfl okX6_townAt (Or.inl tw680) tw681 tw682 rfl (Nat.le_of_ble_eq_true rfl) dX10_rest_5 (fun r2 => [pA r2]) (fun r2 => M) (fun _ => rfl) (fun _ => rfl) (fun r2 h3 => ?_) rfl
  refine v_astore_n (ls' := [some (pA a0), some (pI a1), some (pI a2), some (pA r2)]) dX10_rest_8 (by decide) rfl ?_
  refine v_aload_n dX10_rest_9 rfl ?_
  refine v_ifnull (tgt := 18) dX10_rest_10 (by decide) (fun c5 => ?_) (fun c5 => ?_)
  · refine v_iconst dX10_rest_18 (by decide) ?_
    refine v_goto (tgt := 27) dX10_rest_19 (by decide) ?_
    exact v_ireturn dX10_rest_27 rfl rfl
  · refine v_iload_n dX10_rest_13 rfl ?_
    refine v_iconst dX10_rest_14 (by decide) ?_
    refine v_icmp_ge (tgt := 22) dX10_rest_15 (by decide) (fun c6 => ?_) (fun c6 => ?_)
    · refine v_iconst dX10_rest_18 (by decide) ?_
      refine v_goto (tgt := 27) dX10_rest_19 (by decide) ?_
      exact v_ireturn dX10_rest_27 rfl rfl
    · refine v_aload_n dX10_rest_22 rfl ?_
      refine v_iload_n dX10_rest_23 rfl ?_
      refine v_if (fun h9 => ?_)
      refine v_cV (mi := mX10_rest) (c0 := 0) (c1 := 0) (As := [pI a2]) (st := []) (kX7_restAt d (by omega) _ _ _) rfl h9 rfl okX7_restAt (Or.inl tw1023) tw1024 tw1025 rfl (Nat.le_of_ble_eq_true rfl) dX10_rest_24 (fun r7 => [pI r7]) (fun r7 => M) (fun _ => rfl) (fun _ => rfl) (fun r7 h8 => ?_) rfl
      exact v_ireturn dX10_rest_27 rfl rfl
theorem chX10_share_0 : (cX10_share.data.toList.drop 0).take 16 = [42, 180, 0, 12, 27, 182, 0, 92, 58, 4, 25, 4, 198, 0, 12, 25] := by decide +kernel
theorem chX10_share_1 : (cX10_share.data.toList.drop 16).take 16 = [4, 28, 182, 0, 104, 154, 0, 5, 2, 172, 3, 54, 5, 3, 54, 6] := by decide +kernel
theorem chX10_share_2 : (cX10_share.data.toList.drop 32).take 16 = [21, 6, 25, 4, 180, 0, 96, 162, 0, 26, 21, 5, 25, 4, 25, 4] := by decide +kernel
theorem chX10_share_3 : (cX10_share.data.toList.drop 48).take 16 = [180, 0, 133, 21, 6, 182, 1, 34, 96, 54, 5, 132, 6, 1, 167, 255] := by decide +kernel
theorem chX10_share_4 : (cX10_share.data.toList.drop 64).take 16 = [226, 25, 4, 25, 4, 180, 0, 133, 28, 182, 1, 34, 21, 5, 29, 184] := by decide +kernel
theorem chX10_share_5 : (cX10_share.data.toList.drop 80).take 16 = [1, 38, 172] := by decide +kernel
theorem dX10_share_0 : decode cX10_share 0 = .ok (.aload_n 0, 1) := oq_42 (byt chX10_share_0 0 rfl)
theorem dX10_share_1 : decode cX10_share 1 = .ok (.getfield 12, 3) := oq_180 (byt chX10_share_0 1 rfl) (byt chX10_share_0 2 rfl) (byt chX10_share_0 3 rfl) rfl
theorem dX10_share_4 : decode cX10_share 4 = .ok (.iload_n 1, 1) := oq_27 (byt chX10_share_0 4 rfl)
theorem dX10_share_5 : decode cX10_share 5 = .ok (.invokevirtual 92, 3) := oq_182 (byt chX10_share_0 5 rfl) (byt chX10_share_0 6 rfl) (byt chX10_share_0 7 rfl) rfl
theorem dX10_share_8 : decode cX10_share 8 = .ok (.astore 4, 2) := oq_58 (byt chX10_share_0 8 rfl) (byt chX10_share_0 9 rfl) rfl
theorem dX10_share_10 : decode cX10_share 10 = .ok (.aload 4, 2) := oq_25 (byt chX10_share_0 10 rfl) (byt chX10_share_0 11 rfl) rfl
theorem dX10_share_12 : decode cX10_share 12 = .ok (.ifnull 12, 3) := oq_198 (byt chX10_share_0 12 rfl) (byt chX10_share_0 13 rfl) (byt chX10_share_0 14 rfl) (by decide +kernel)
theorem dX10_share_15 : decode cX10_share 15 = .ok (.aload 4, 2) := oq_25 (byt chX10_share_0 15 rfl) (byt chX10_share_1 0 rfl) rfl
theorem dX10_share_17 : decode cX10_share 17 = .ok (.iload_n 2, 1) := oq_28 (byt chX10_share_1 1 rfl)
theorem dX10_share_18 : decode cX10_share 18 = .ok (.invokevirtual 104, 3) := oq_182 (byt chX10_share_1 2 rfl) (byt chX10_share_1 3 rfl) (byt chX10_share_1 4 rfl) rfl
theorem dX10_share_21 : decode cX10_share 21 = .ok (.ifCond .ne 5, 3) := oq_154 (byt chX10_share_1 5 rfl) (byt chX10_share_1 6 rfl) (byt chX10_share_1 7 rfl) (by decide +kernel)
theorem dX10_share_24 : decode cX10_share 24 = .ok (.iconst (-1), 1) := oq_2 (byt chX10_share_1 8 rfl)
theorem dX10_share_25 : decode cX10_share 25 = .ok (.ireturn, 1) := oq_172 (byt chX10_share_1 9 rfl)
theorem dX10_share_26 : decode cX10_share 26 = .ok (.iconst 0, 1) := oq_3 (byt chX10_share_1 10 rfl)
theorem dX10_share_27 : decode cX10_share 27 = .ok (.istore 5, 2) := oq_54 (byt chX10_share_1 11 rfl) (byt chX10_share_1 12 rfl) rfl
theorem dX10_share_29 : decode cX10_share 29 = .ok (.iconst 0, 1) := oq_3 (byt chX10_share_1 13 rfl)
theorem dX10_share_30 : decode cX10_share 30 = .ok (.istore 6, 2) := oq_54 (byt chX10_share_1 14 rfl) (byt chX10_share_1 15 rfl) rfl
theorem dX10_share_32 : decode cX10_share 32 = .ok (.iload 6, 2) := oq_21 (byt chX10_share_2 0 rfl) (byt chX10_share_2 1 rfl) rfl
theorem dX10_share_34 : decode cX10_share 34 = .ok (.aload 4, 2) := oq_25 (byt chX10_share_2 2 rfl) (byt chX10_share_2 3 rfl) rfl
theorem dX10_share_36 : decode cX10_share 36 = .ok (.getfield 96, 3) := oq_180 (byt chX10_share_2 4 rfl) (byt chX10_share_2 5 rfl) (byt chX10_share_2 6 rfl) rfl
theorem dX10_share_39 : decode cX10_share 39 = .ok (.if_icmp .ge 26, 3) := oq_162 (byt chX10_share_2 7 rfl) (byt chX10_share_2 8 rfl) (byt chX10_share_2 9 rfl) (by decide +kernel)
theorem dX10_share_42 : decode cX10_share 42 = .ok (.iload 5, 2) := oq_21 (byt chX10_share_2 10 rfl) (byt chX10_share_2 11 rfl) rfl
theorem dX10_share_44 : decode cX10_share 44 = .ok (.aload 4, 2) := oq_25 (byt chX10_share_2 12 rfl) (byt chX10_share_2 13 rfl) rfl
theorem dX10_share_46 : decode cX10_share 46 = .ok (.aload 4, 2) := oq_25 (byt chX10_share_2 14 rfl) (byt chX10_share_2 15 rfl) rfl
theorem dX10_share_48 : decode cX10_share 48 = .ok (.getfield 133, 3) := oq_180 (byt chX10_share_3 0 rfl) (byt chX10_share_3 1 rfl) (byt chX10_share_3 2 rfl) rfl
theorem dX10_share_51 : decode cX10_share 51 = .ok (.iload 6, 2) := oq_21 (byt chX10_share_3 3 rfl) (byt chX10_share_3 4 rfl) rfl
theorem dX10_share_53 : decode cX10_share 53 = .ok (.invokevirtual 290, 3) := oq_182 (byt chX10_share_3 5 rfl) (byt chX10_share_3 6 rfl) (byt chX10_share_3 7 rfl) rfl
theorem dX10_share_56 : decode cX10_share 56 = .ok (.iadd, 1) := oq_96 (byt chX10_share_3 8 rfl)
theorem dX10_share_57 : decode cX10_share 57 = .ok (.istore 5, 2) := oq_54 (byt chX10_share_3 9 rfl) (byt chX10_share_3 10 rfl) rfl
theorem dX10_share_59 : decode cX10_share 59 = .ok (.iinc 6 1, 3) := oq_132 (byt chX10_share_3 11 rfl) (byt chX10_share_3 12 rfl) (byt chX10_share_3 13 rfl) rfl
theorem dX10_share_62 : decode cX10_share 62 = .ok (.goto (-30), 3) := oq_167 (byt chX10_share_3 14 rfl) (byt chX10_share_3 15 rfl) (byt chX10_share_4 0 rfl) (by decide +kernel)
theorem dX10_share_65 : decode cX10_share 65 = .ok (.aload 4, 2) := oq_25 (byt chX10_share_4 1 rfl) (byt chX10_share_4 2 rfl) rfl
theorem dX10_share_67 : decode cX10_share 67 = .ok (.aload 4, 2) := oq_25 (byt chX10_share_4 3 rfl) (byt chX10_share_4 4 rfl) rfl
theorem dX10_share_69 : decode cX10_share 69 = .ok (.getfield 133, 3) := oq_180 (byt chX10_share_4 5 rfl) (byt chX10_share_4 6 rfl) (byt chX10_share_4 7 rfl) rfl
theorem dX10_share_72 : decode cX10_share 72 = .ok (.iload_n 2, 1) := oq_28 (byt chX10_share_4 8 rfl)
theorem dX10_share_73 : decode cX10_share 73 = .ok (.invokevirtual 290, 3) := oq_182 (byt chX10_share_4 9 rfl) (byt chX10_share_4 10 rfl) (byt chX10_share_4 11 rfl) rfl
theorem dX10_share_76 : decode cX10_share 76 = .ok (.iload 5, 2) := oq_21 (byt chX10_share_4 12 rfl) (byt chX10_share_4 13 rfl) rfl
theorem dX10_share_78 : decode cX10_share 78 = .ok (.iload_n 3, 1) := oq_29 (byt chX10_share_4 14 rfl)
theorem dX10_share_79 : decode cX10_share 79 = .ok (.invokestatic 294, 3) := oq_184 (byt chX10_share_4 15 rfl) (byt chX10_share_5 0 rfl) (byt chX10_share_5 1 rfl) rfl
theorem dX10_share_82 : decode cX10_share 82 = .ok (.ireturn, 1) := oq_172 (byt chX10_share_5 2 rfl)
abbrev mX10_share : MI := (yX10_share, cX10_share, 7, (some .int), noE)
theorem okX10_share : cok mX10_share 3 := ⟨tw1035, tw1, by decide, by decide, by decide, by decide +kernel⟩
def fX10_share (M : Mem) (a0 a1 a2 a3 : Int) : Option Int :=
  if M.2.1 a0 = 9 then if M.2.1 (M.1 a0 0) = 6 then (fX6_townAt M (M.1 a0 0) a1).bind fun r2 => if r2 = -1 then (some (-1)) else (if M.2.1 r2 = 7 then (fX7_isHouse M r2 a2).bind fun r6 => if r6 = 0 then (some (-1)) else (iterC (fun (rec10 : (Int × Int) → Option Int) (s11 : Int × Int) => if s11.2 < M.1 r2 0 then ((fX7_worthIn M r2 (M.1 r2 2) s11.2).bind fun r13 => rec10 (w32 (s11.1 + r13), w32 (s11.2 + 1))) else ((fX7_worthIn M r2 (M.1 r2 2) a2).bind fun r15 => (fX10_leastTerms M r15 s11.1 a3).bind fun r17 => some r17)) BIG (0, 0)) else none) else none else none
set_option maxRecDepth 100000 in
set_option maxHeartbeats 4000000 in
theorem kX10_share (d : Nat) (hd : 2 ≤ d) (M : Mem) (a0 a1 a2 a3 : Int) : Ct mX10_share d 0 0 [pA a0, pI a1, pI a2, pI a3] M (dI M) (fX10_share M a0 a1 a2 a3) := by
  obtain ⟨d, rfl⟩ : ∃ k, d = k + 1 := ⟨d - 1, by omega⟩
  refine Ct.of 3 (fun _ _ _ => trivial) (by decide +kernel) rfl ?_
  unfold fX10_share
  refine v_aload_n dX10_share_0 rfl ?_
  refine v_if (fun h1 => ?_)
  refine v_get (v := pA (M.1 a0 0)) 9 0 rfl inX10 (by decide) tw421 dX10_share_1 h1 rfl ?_
  refine v_iload_n dX10_share_4 rfl ?_
  refine v_if (fun h4 => ?_)
  refine v_cV (mi := mX10_share) (c0 := 0) (c1 := 0) (As := [pI a1]) (st := []) (kX6_townAt d (by omega) _ _ _) rfl h4 rfl okX6_townAt (Or.inl tw680) tw681 tw682 rfl (Nat.le_of_ble_eq_true rfl) dX10_share_5 (fun r2 => [pA r2]) (fun r2 => M) (fun _ => rfl) (fun _ => rfl) (fun r2 h3 => ?_) rfl
  refine v_astore (ls' := [some (pA a0), some (pI a1), some (pI a2), some (pI a3), some (pA r2), none, none]) dX10_share_8 (by decide) rfl ?_
  refine v_aload dX10_share_10 rfl ?_
  refine v_ifnull (tgt := 24) dX10_share_12 (by decide) (fun c5 => ?_) (fun c5 => ?_)
  · refine v_iconst dX10_share_24 (by decide) ?_
    exact v_ireturn dX10_share_25 rfl rfl
  · refine v_aload dX10_share_15 rfl ?_
    refine v_iload_n dX10_share_17 rfl ?_
    refine v_if (fun h8 => ?_)
    refine v_cV (mi := mX10_share) (c0 := 0) (c1 := 0) (As := [pI a2]) (st := []) (kX7_isHouse d (by omega) _ _ _) rfl h8 rfl okX7_isHouse (Or.inl tw684) tw685 tw686 rfl (Nat.le_of_ble_eq_true rfl) dX10_share_18 (fun r6 => [pI r6]) (fun r6 => M) (fun _ => rfl) (fun _ => rfl) (fun r6 h7 => ?_) rfl
    refine v_if_ne (tgt := 26) dX10_share_21 (by decide) (fun c9 => ?_) (fun c9 => ?_)
    · refine v_iconst dX10_share_24 (by decide) ?_
      exact v_ireturn dX10_share_25 rfl rfl
    · refine v_iconst dX10_share_26 (by decide) ?_
      refine v_istore (ls' := [some (pA a0), some (pI a1), some (pI a2), some (pI a3), some (pA r2), some (pI 0), none]) dX10_share_27 (by decide) rfl ?_
      refine v_iconst dX10_share_29 (by decide) ?_
      refine v_istore (ls' := [some (pA a0), some (pI a1), some (pI a2), some (pI a3), some (pA r2), some (pI 0), some (pI 0)]) dX10_share_30 (by decide) rfl ?_
      refine v_drop [none, none, some (pI a2), some (pI a3), some (pA r2), some (pI 0), some (pI 0)] (ls_n (ls_n (ls_s (ls_s (ls_s (ls_s (ls_s ls_e))))))) ?_
      refine v_loop (fun (s11 : Int × Int) => [none, none, some (pI a2), some (pI a3), some (pA r2), some (pI s11.1), some (pI s11.2)]) (fun (s11 : Int × Int) => M) (s0 := (0, 0)) ?_
      intro rec10 hrec10 s11
      refine v_iload dX10_share_32 rfl ?_
      refine v_aload dX10_share_34 rfl ?_
      refine v_get (v := pI (M.1 r2 0)) 7 0 rfl inX7 (by decide) tw58 dX10_share_36 h8 rfl ?_
      refine v_icmp_ge (tgt := 65) dX10_share_39 (by decide) (fun c12 => ?_) (fun c12 => ?_)
      · refine v_iload dX10_share_42 rfl ?_
        refine v_aload dX10_share_44 rfl ?_
        refine v_aload dX10_share_46 rfl ?_
        refine v_get (v := pA (M.1 r2 2)) 7 2 rfl inX7 (by decide) tw69 dX10_share_48 h8 rfl ?_
        refine v_iload dX10_share_51 rfl ?_
        refine v_cV (mi := mX10_share) (c0 := 0) (c1 := 0) (As := [pA (M.1 r2 2), pI s11.2]) (st := [pI s11.1]) (kX7_worthIn d (by omega) _ _ _ _) rfl h8 rfl okX7_worthIn (Or.inl tw1036) tw1016 tw1017 rfl (Nat.le_of_ble_eq_true rfl) dX10_share_53 (fun r13 => [pI r13, pI s11.1]) (fun r13 => M) (fun _ => rfl) (fun _ => rfl) (fun r13 h14 => ?_) rfl
        refine v_iadd dX10_share_56 ?_
        refine v_istore (ls' := [none, none, some (pI a2), some (pI a3), some (pA r2), some (pI (w32 (s11.1 + r13))), some (pI s11.2)]) dX10_share_57 (by decide) rfl ?_
        refine v_iinc (ls' := [none, none, some (pI a2), some (pI a3), some (pA r2), some (pI (w32 (s11.1 + r13))), some (pI (w32 (s11.2 + 1)))]) dX10_share_59 (by decide) rfl rfl ?_
        refine v_goto (tgt := 32) dX10_share_62 (by decide) ?_
        exact hrec10 (w32 (s11.1 + r13), w32 (s11.2 + 1))
      · refine v_aload dX10_share_65 rfl ?_
        refine v_aload dX10_share_67 rfl ?_
        refine v_get (v := pA (M.1 r2 2)) 7 2 rfl inX7 (by decide) tw69 dX10_share_69 h8 rfl ?_
        refine v_iload_n dX10_share_72 rfl ?_
        refine v_cV (mi := mX10_share) (c0 := 0) (c1 := 0) (As := [pA (M.1 r2 2), pI a2]) (st := []) (kX7_worthIn d (by omega) _ _ _ _) rfl h8 rfl okX7_worthIn (Or.inl tw1036) tw1016 tw1017 rfl (Nat.le_of_ble_eq_true rfl) dX10_share_73 (fun r15 => [pI r15]) (fun r15 => M) (fun _ => rfl) (fun _ => rfl) (fun r15 h16 => ?_) rfl
        refine v_iload dX10_share_76 rfl ?_
        refine v_iload_n dX10_share_78 rfl ?_
        refine v_cS (mi := mX10_share) (c0 := 0) (c1 := 0) (As := [pI r15, pI s11.1, pI a3]) (st := []) (kX10_leastTerms d (by omega) _ _ _ _) okX10_leastTerms (Or.inl tw1037) tw1038 rfl (Nat.le_of_ble_eq_true rfl) dX10_share_79 (fun r17 => [pI r17]) (fun r17 => M) (fun _ => rfl) (fun _ => rfl) (fun r17 h18 => ?_) rfl
        exact v_ireturn dX10_share_82 rfl rfl
theorem chX10_even_0 : (cX10_even.data.toList.drop 0).take 16 = [42, 180, 0, 12, 27, 182, 0, 92, 78, 45, 198, 0, 10, 28, 184, 0] := by decide +kernel
theorem chX10_even_1 : (cX10_even.data.toList.drop 16).take 16 = [115, 154, 0, 7, 2, 167, 0, 8, 45, 28, 182, 1, 42, 172] := by decide +kernel
theorem dX10_even_0 : decode cX10_even 0 = .ok (.aload_n 0, 1) := oq_42 (byt chX10_even_0 0 rfl)
theorem dX10_even_1 : decode cX10_even 1 = .ok (.getfield 12, 3) := oq_180 (byt chX10_even_0 1 rfl) (byt chX10_even_0 2 rfl) (byt chX10_even_0 3 rfl) rfl
theorem dX10_even_4 : decode cX10_even 4 = .ok (.iload_n 1, 1) := oq_27 (byt chX10_even_0 4 rfl)
theorem dX10_even_5 : decode cX10_even 5 = .ok (.invokevirtual 92, 3) := oq_182 (byt chX10_even_0 5 rfl) (byt chX10_even_0 6 rfl) (byt chX10_even_0 7 rfl) rfl
theorem dX10_even_8 : decode cX10_even 8 = .ok (.astore_n 3, 1) := oq_78 (byt chX10_even_0 8 rfl)
theorem dX10_even_9 : decode cX10_even 9 = .ok (.aload_n 3, 1) := oq_45 (byt chX10_even_0 9 rfl)
theorem dX10_even_10 : decode cX10_even 10 = .ok (.ifnull 10, 3) := oq_198 (byt chX10_even_0 10 rfl) (byt chX10_even_0 11 rfl) (byt chX10_even_0 12 rfl) (by decide +kernel)
theorem dX10_even_13 : decode cX10_even 13 = .ok (.iload_n 2, 1) := oq_28 (byt chX10_even_0 13 rfl)
theorem dX10_even_14 : decode cX10_even 14 = .ok (.invokestatic 115, 3) := oq_184 (byt chX10_even_0 14 rfl) (byt chX10_even_0 15 rfl) (byt chX10_even_1 0 rfl) rfl
theorem dX10_even_17 : decode cX10_even 17 = .ok (.ifCond .ne 7, 3) := oq_154 (byt chX10_even_1 1 rfl) (byt chX10_even_1 2 rfl) (byt chX10_even_1 3 rfl) (by decide +kernel)
theorem dX10_even_20 : decode cX10_even 20 = .ok (.iconst (-1), 1) := oq_2 (byt chX10_even_1 4 rfl)
theorem dX10_even_21 : decode cX10_even 21 = .ok (.goto 8, 3) := oq_167 (byt chX10_even_1 5 rfl) (byt chX10_even_1 6 rfl) (byt chX10_even_1 7 rfl) (by decide +kernel)
theorem dX10_even_24 : decode cX10_even 24 = .ok (.aload_n 3, 1) := oq_45 (byt chX10_even_1 8 rfl)
theorem dX10_even_25 : decode cX10_even 25 = .ok (.iload_n 2, 1) := oq_28 (byt chX10_even_1 9 rfl)
theorem dX10_even_26 : decode cX10_even 26 = .ok (.invokevirtual 298, 3) := oq_182 (byt chX10_even_1 10 rfl) (byt chX10_even_1 11 rfl) (byt chX10_even_1 12 rfl) rfl
theorem dX10_even_29 : decode cX10_even 29 = .ok (.ireturn, 1) := oq_172 (byt chX10_even_1 13 rfl)
abbrev mX10_even : MI := (yX10_even, cX10_even, 4, (some .int), noE)
theorem okX10_even : cok mX10_even 2 := ⟨tw1044, tw1, by decide, by decide, by decide, by decide +kernel⟩
def fX10_even (M : Mem) (a0 a1 a2 : Int) : Option Int :=
  if M.2.1 a0 = 9 then if M.2.1 (M.1 a0 0) = 6 then (fX6_townAt M (M.1 a0 0) a1).bind fun r2 => if r2 = -1 then (some (-1)) else ((fX10_isGood M a2).bind fun r6 => if r6 = 0 then (some (-1)) else (if M.2.1 r2 = 7 then (fX7_evenOut M r2 a2).bind fun r9 => some r9 else none)) else none else none
set_option maxRecDepth 100000 in
set_option maxHeartbeats 4000000 in
theorem kX10_even (d : Nat) (hd : 2 ≤ d) (M : Mem) (a0 a1 a2 : Int) : Ct mX10_even d 0 0 [pA a0, pI a1, pI a2] M (dI M) (fX10_even M a0 a1 a2) := by
  obtain ⟨d, rfl⟩ : ∃ k, d = k + 1 := ⟨d - 1, by omega⟩
  refine Ct.of 1 (fun _ _ _ => trivial) (by decide +kernel) rfl ?_
  unfold fX10_even
  refine v_aload_n dX10_even_0 rfl ?_
  refine v_if (fun h1 => ?_)
  refine v_get (v := pA (M.1 a0 0)) 9 0 rfl inX10 (by decide) tw421 dX10_even_1 h1 rfl ?_
  refine v_iload_n dX10_even_4 rfl ?_
  refine v_if (fun h4 => ?_)
  refine v_cV (mi := mX10_even) (c0 := 0) (c1 := 0) (As := [pI a1]) (st := []) (kX6_townAt d (by omega) _ _ _) rfl h4 rfl okX6_townAt (Or.inl tw680) tw681 tw682 rfl (Nat.le_of_ble_eq_true rfl) dX10_even_5 (fun r2 => [pA r2]) (fun r2 => M) (fun _ => rfl) (fun _ => rfl) (fun r2 h3 => ?_) rfl
  refine v_astore_n (ls' := [some (pA a0), some (pI a1), some (pI a2), some (pA r2)]) dX10_even_8 (by decide) rfl ?_
  refine v_aload_n dX10_even_9 rfl ?_
  refine v_ifnull (tgt := 20) dX10_even_10 (by decide) (fun c5 => ?_) (fun c5 => ?_)
  · refine v_iconst dX10_even_20 (by decide) ?_
    refine v_goto (tgt := 29) dX10_even_21 (by decide) ?_
    exact v_ireturn dX10_even_29 rfl rfl
  · refine v_iload_n dX10_even_13 rfl ?_
    refine v_cS (mi := mX10_even) (c0 := 0) (c1 := 0) (As := [pI a2]) (st := []) (kX10_isGood d (by omega) _ _) okX10_isGood (Or.inl tw688) tw689 rfl (Nat.le_of_ble_eq_true rfl) dX10_even_14 (fun r6 => [pI r6]) (fun r6 => M) (fun _ => rfl) (fun _ => rfl) (fun r6 h7 => ?_) rfl
    refine v_if_ne (tgt := 24) dX10_even_17 (by decide) (fun c8 => ?_) (fun c8 => ?_)
    · refine v_iconst dX10_even_20 (by decide) ?_
      refine v_goto (tgt := 29) dX10_even_21 (by decide) ?_
      exact v_ireturn dX10_even_29 rfl rfl
    · refine v_aload_n dX10_even_24 rfl ?_
      refine v_iload_n dX10_even_25 rfl ?_
      refine v_if (fun h11 => ?_)
      refine v_cV (mi := mX10_even) (c0 := 0) (c1 := 0) (As := [pI a2]) (st := []) (kX7_evenOut d (by omega) _ _ _) rfl h11 rfl okX7_evenOut (Or.inl tw1045) tw1046 tw1047 rfl (Nat.le_of_ble_eq_true rfl) dX10_even_26 (fun r9 => [pI r9]) (fun r9 => M) (fun _ => rfl) (fun _ => rfl) (fun r9 h10 => ?_) rfl
      exact v_ireturn dX10_even_29 rfl rfl
theorem chX10_drawn_0 : (cX10_drawn.data.toList.drop 0).take 16 = [42, 180, 0, 12, 27, 182, 0, 92, 58, 6, 42, 180, 0, 12, 28, 182] := by decide +kernel
theorem chX10_drawn_1 : (cX10_drawn.data.toList.drop 16).take 16 = [0, 148, 58, 7, 25, 6, 198, 0, 21, 25, 7, 198, 0, 16, 21, 4] := by decide +kernel
theorem chX10_drawn_2 : (cX10_drawn.data.toList.drop 32).take 16 = [4, 161, 0, 10, 21, 4, 16, 30, 164, 0, 7, 17, 252, 24, 172, 42] := by decide +kernel
theorem chX10_drawn_3 : (cX10_drawn.data.toList.drop 48).take 16 = [180, 0, 40, 25, 6, 25, 7, 182, 1, 45, 42, 180, 0, 40, 29, 21] := by decide +kernel
theorem chX10_drawn_4 : (cX10_drawn.data.toList.drop 64).take 16 = [4, 182, 1, 48, 21, 5, 16, 70, 161, 0, 32, 21, 5, 16, 70, 8] := by decide +kernel
theorem chX10_drawn_5 : (cX10_drawn.data.toList.drop 80).take 16 = [25, 6, 180, 0, 96, 104, 96, 162, 0, 17, 42, 180, 0, 40, 180, 0] := by decide +kernel
theorem chX10_drawn_6 : (cX10_drawn.data.toList.drop 96).take 16 = [211, 21, 5, 16, 70, 100, 46, 172, 42, 180, 0, 40, 21, 5, 184, 0] := by decide +kernel
theorem chX10_drawn_7 : (cX10_drawn.data.toList.drop 112).take 16 = [204, 172] := by decide +kernel
theorem dX10_drawn_0 : decode cX10_drawn 0 = .ok (.aload_n 0, 1) := oq_42 (byt chX10_drawn_0 0 rfl)
theorem dX10_drawn_1 : decode cX10_drawn 1 = .ok (.getfield 12, 3) := oq_180 (byt chX10_drawn_0 1 rfl) (byt chX10_drawn_0 2 rfl) (byt chX10_drawn_0 3 rfl) rfl
theorem dX10_drawn_4 : decode cX10_drawn 4 = .ok (.iload_n 1, 1) := oq_27 (byt chX10_drawn_0 4 rfl)
theorem dX10_drawn_5 : decode cX10_drawn 5 = .ok (.invokevirtual 92, 3) := oq_182 (byt chX10_drawn_0 5 rfl) (byt chX10_drawn_0 6 rfl) (byt chX10_drawn_0 7 rfl) rfl
theorem dX10_drawn_8 : decode cX10_drawn 8 = .ok (.astore 6, 2) := oq_58 (byt chX10_drawn_0 8 rfl) (byt chX10_drawn_0 9 rfl) rfl
theorem dX10_drawn_10 : decode cX10_drawn 10 = .ok (.aload_n 0, 1) := oq_42 (byt chX10_drawn_0 10 rfl)
theorem dX10_drawn_11 : decode cX10_drawn 11 = .ok (.getfield 12, 3) := oq_180 (byt chX10_drawn_0 11 rfl) (byt chX10_drawn_0 12 rfl) (byt chX10_drawn_0 13 rfl) rfl
theorem dX10_drawn_14 : decode cX10_drawn 14 = .ok (.iload_n 2, 1) := oq_28 (byt chX10_drawn_0 14 rfl)
theorem dX10_drawn_15 : decode cX10_drawn 15 = .ok (.invokevirtual 148, 3) := oq_182 (byt chX10_drawn_0 15 rfl) (byt chX10_drawn_1 0 rfl) (byt chX10_drawn_1 1 rfl) rfl
theorem dX10_drawn_18 : decode cX10_drawn 18 = .ok (.astore 7, 2) := oq_58 (byt chX10_drawn_1 2 rfl) (byt chX10_drawn_1 3 rfl) rfl
theorem dX10_drawn_20 : decode cX10_drawn 20 = .ok (.aload 6, 2) := oq_25 (byt chX10_drawn_1 4 rfl) (byt chX10_drawn_1 5 rfl) rfl
theorem dX10_drawn_22 : decode cX10_drawn 22 = .ok (.ifnull 21, 3) := oq_198 (byt chX10_drawn_1 6 rfl) (byt chX10_drawn_1 7 rfl) (byt chX10_drawn_1 8 rfl) (by decide +kernel)
theorem dX10_drawn_25 : decode cX10_drawn 25 = .ok (.aload 7, 2) := oq_25 (byt chX10_drawn_1 9 rfl) (byt chX10_drawn_1 10 rfl) rfl
theorem dX10_drawn_27 : decode cX10_drawn 27 = .ok (.ifnull 16, 3) := oq_198 (byt chX10_drawn_1 11 rfl) (byt chX10_drawn_1 12 rfl) (byt chX10_drawn_1 13 rfl) (by decide +kernel)
theorem dX10_drawn_30 : decode cX10_drawn 30 = .ok (.iload 4, 2) := oq_21 (byt chX10_drawn_1 14 rfl) (byt chX10_drawn_1 15 rfl) rfl
theorem dX10_drawn_32 : decode cX10_drawn 32 = .ok (.iconst 1, 1) := oq_4 (byt chX10_drawn_2 0 rfl)
theorem dX10_drawn_33 : decode cX10_drawn 33 = .ok (.if_icmp .lt 10, 3) := oq_161 (byt chX10_drawn_2 1 rfl) (byt chX10_drawn_2 2 rfl) (byt chX10_drawn_2 3 rfl) (by decide +kernel)
theorem dX10_drawn_36 : decode cX10_drawn 36 = .ok (.iload 4, 2) := oq_21 (byt chX10_drawn_2 4 rfl) (byt chX10_drawn_2 5 rfl) rfl
theorem dX10_drawn_38 : decode cX10_drawn 38 = .ok (.bipush 30, 2) := oq_16 (byt chX10_drawn_2 6 rfl) (byt chX10_drawn_2 7 rfl) rfl
theorem dX10_drawn_40 : decode cX10_drawn 40 = .ok (.if_icmp .le 7, 3) := oq_164 (byt chX10_drawn_2 8 rfl) (byt chX10_drawn_2 9 rfl) (byt chX10_drawn_2 10 rfl) (by decide +kernel)
theorem dX10_drawn_43 : decode cX10_drawn 43 = .ok (.sipush (-1000), 3) := oq_17 (byt chX10_drawn_2 11 rfl) (byt chX10_drawn_2 12 rfl) (byt chX10_drawn_2 13 rfl) (by decide +kernel)
theorem dX10_drawn_46 : decode cX10_drawn 46 = .ok (.ireturn, 1) := oq_172 (byt chX10_drawn_2 14 rfl)
theorem dX10_drawn_47 : decode cX10_drawn 47 = .ok (.aload_n 0, 1) := oq_42 (byt chX10_drawn_2 15 rfl)
theorem dX10_drawn_48 : decode cX10_drawn 48 = .ok (.getfield 40, 3) := oq_180 (byt chX10_drawn_3 0 rfl) (byt chX10_drawn_3 1 rfl) (byt chX10_drawn_3 2 rfl) rfl
theorem dX10_drawn_51 : decode cX10_drawn 51 = .ok (.aload 6, 2) := oq_25 (byt chX10_drawn_3 3 rfl) (byt chX10_drawn_3 4 rfl) rfl
theorem dX10_drawn_53 : decode cX10_drawn 53 = .ok (.aload 7, 2) := oq_25 (byt chX10_drawn_3 5 rfl) (byt chX10_drawn_3 6 rfl) rfl
theorem dX10_drawn_55 : decode cX10_drawn 55 = .ok (.invokevirtual 301, 3) := oq_182 (byt chX10_drawn_3 7 rfl) (byt chX10_drawn_3 8 rfl) (byt chX10_drawn_3 9 rfl) rfl
theorem dX10_drawn_58 : decode cX10_drawn 58 = .ok (.aload_n 0, 1) := oq_42 (byt chX10_drawn_3 10 rfl)
theorem dX10_drawn_59 : decode cX10_drawn 59 = .ok (.getfield 40, 3) := oq_180 (byt chX10_drawn_3 11 rfl) (byt chX10_drawn_3 12 rfl) (byt chX10_drawn_3 13 rfl) rfl
theorem dX10_drawn_62 : decode cX10_drawn 62 = .ok (.iload_n 3, 1) := oq_29 (byt chX10_drawn_3 14 rfl)
theorem dX10_drawn_63 : decode cX10_drawn 63 = .ok (.iload 4, 2) := oq_21 (byt chX10_drawn_3 15 rfl) (byt chX10_drawn_4 0 rfl) rfl
theorem dX10_drawn_65 : decode cX10_drawn 65 = .ok (.invokevirtual 304, 3) := oq_182 (byt chX10_drawn_4 1 rfl) (byt chX10_drawn_4 2 rfl) (byt chX10_drawn_4 3 rfl) rfl
theorem dX10_drawn_68 : decode cX10_drawn 68 = .ok (.iload 5, 2) := oq_21 (byt chX10_drawn_4 4 rfl) (byt chX10_drawn_4 5 rfl) rfl
theorem dX10_drawn_70 : decode cX10_drawn 70 = .ok (.bipush 70, 2) := oq_16 (byt chX10_drawn_4 6 rfl) (byt chX10_drawn_4 7 rfl) rfl
theorem dX10_drawn_72 : decode cX10_drawn 72 = .ok (.if_icmp .lt 32, 3) := oq_161 (byt chX10_drawn_4 8 rfl) (byt chX10_drawn_4 9 rfl) (byt chX10_drawn_4 10 rfl) (by decide +kernel)
theorem dX10_drawn_75 : decode cX10_drawn 75 = .ok (.iload 5, 2) := oq_21 (byt chX10_drawn_4 11 rfl) (byt chX10_drawn_4 12 rfl) rfl
theorem dX10_drawn_77 : decode cX10_drawn 77 = .ok (.bipush 70, 2) := oq_16 (byt chX10_drawn_4 13 rfl) (byt chX10_drawn_4 14 rfl) rfl
theorem dX10_drawn_79 : decode cX10_drawn 79 = .ok (.iconst 5, 1) := oq_8 (byt chX10_drawn_4 15 rfl)
theorem dX10_drawn_80 : decode cX10_drawn 80 = .ok (.aload 6, 2) := oq_25 (byt chX10_drawn_5 0 rfl) (byt chX10_drawn_5 1 rfl) rfl
theorem dX10_drawn_82 : decode cX10_drawn 82 = .ok (.getfield 96, 3) := oq_180 (byt chX10_drawn_5 2 rfl) (byt chX10_drawn_5 3 rfl) (byt chX10_drawn_5 4 rfl) rfl
theorem dX10_drawn_85 : decode cX10_drawn 85 = .ok (.imul, 1) := oq_104 (byt chX10_drawn_5 5 rfl)
theorem dX10_drawn_86 : decode cX10_drawn 86 = .ok (.iadd, 1) := oq_96 (byt chX10_drawn_5 6 rfl)
theorem dX10_drawn_87 : decode cX10_drawn 87 = .ok (.if_icmp .ge 17, 3) := oq_162 (byt chX10_drawn_5 7 rfl) (byt chX10_drawn_5 8 rfl) (byt chX10_drawn_5 9 rfl) (by decide +kernel)
theorem dX10_drawn_90 : decode cX10_drawn 90 = .ok (.aload_n 0, 1) := oq_42 (byt chX10_drawn_5 10 rfl)
theorem dX10_drawn_91 : decode cX10_drawn 91 = .ok (.getfield 40, 3) := oq_180 (byt chX10_drawn_5 11 rfl) (byt chX10_drawn_5 12 rfl) (byt chX10_drawn_5 13 rfl) rfl
theorem dX10_drawn_94 : decode cX10_drawn 94 = .ok (.getfield 211, 3) := oq_180 (byt chX10_drawn_5 14 rfl) (byt chX10_drawn_5 15 rfl) (byt chX10_drawn_6 0 rfl) rfl
theorem dX10_drawn_97 : decode cX10_drawn 97 = .ok (.iload 5, 2) := oq_21 (byt chX10_drawn_6 1 rfl) (byt chX10_drawn_6 2 rfl) rfl
theorem dX10_drawn_99 : decode cX10_drawn 99 = .ok (.bipush 70, 2) := oq_16 (byt chX10_drawn_6 3 rfl) (byt chX10_drawn_6 4 rfl) rfl
theorem dX10_drawn_101 : decode cX10_drawn 101 = .ok (.isub, 1) := oq_100 (byt chX10_drawn_6 5 rfl)
theorem dX10_drawn_102 : decode cX10_drawn 102 = .ok (.iaload, 1) := oq_46 (byt chX10_drawn_6 6 rfl)
theorem dX10_drawn_103 : decode cX10_drawn 103 = .ok (.ireturn, 1) := oq_172 (byt chX10_drawn_6 7 rfl)
theorem dX10_drawn_104 : decode cX10_drawn 104 = .ok (.aload_n 0, 1) := oq_42 (byt chX10_drawn_6 8 rfl)
theorem dX10_drawn_105 : decode cX10_drawn 105 = .ok (.getfield 40, 3) := oq_180 (byt chX10_drawn_6 9 rfl) (byt chX10_drawn_6 10 rfl) (byt chX10_drawn_6 11 rfl) rfl
theorem dX10_drawn_108 : decode cX10_drawn 108 = .ok (.iload 5, 2) := oq_21 (byt chX10_drawn_6 12 rfl) (byt chX10_drawn_6 13 rfl) rfl
theorem dX10_drawn_110 : decode cX10_drawn 110 = .ok (.invokestatic 204, 3) := oq_184 (byt chX10_drawn_6 14 rfl) (byt chX10_drawn_6 15 rfl) (byt chX10_drawn_7 0 rfl) rfl
theorem dX10_drawn_113 : decode cX10_drawn 113 = .ok (.ireturn, 1) := oq_172 (byt chX10_drawn_7 1 rfl)
abbrev mX10_drawn : MI := (yX10_drawn, cX10_drawn, 8, (some .int), noE)
theorem okX10_drawn : cok mX10_drawn 5 := ⟨tw1053, tw1, by decide, by decide, by decide, by decide +kernel⟩
def fX10_drawn (M : Mem) (a0 a1 a2 a3 a4 a5 : Int) : Option (Int × Mem) :=
  if M.2.1 a0 = 9 then if M.2.1 (M.1 a0 0) = 6 then (fX6_townAt M (M.1 a0 0) a1).bind fun r2 => (fX6_lawAt M (M.1 a0 0) a2).bind fun r5 => if r2 = -1 then (some ((-1000), M)) else (if r5 = -1 then (some ((-1000), M)) else (if a4 < 1 then (some ((-1000), M)) else (if 30 < a4 then (some ((-1000), M)) else (if M.2.1 (M.1 a0 3) = 8 then (fX9_begin M (M.1 a0 3) r2 r5).bind fun r11 => if r11.2.1 a0 = 9 then if r11.2.1 (r11.1 a0 3) = 8 then (fX9_drawNights r11 (r11.1 a0 3) a3 a4).bind fun r15 => jn (fun (t19 : Unit) => if r15.2.1 a0 = 9 then (fX8_seen r15 (r15.1 a0 3) a5).bind fun r21 => some (r21, r15) else none) (fun (j18 : Unit → Option (Int × Mem)) => if a5 < 70 then (j18 ()) else (if r15.2.1 r2 = 7 then if a5 < w32 (70 + (w32 (5 * (r15.1 r2 0)))) then (if r15.2.1 a0 = 9 then if r15.2.1 (r15.1 a0 3) = 8 then if r15.2.1 (r15.1 (r15.1 a0 3) 2) = 12 ∧ (0 : Int) ≤ (w32 (a5 - 70)) ∧ (w32 (a5 - 70)) < r15.2.2.1 (r15.1 (r15.1 a0 3) 2) then some (r15.1 (r15.1 (r15.1 a0 3) 2) (w32 (a5 - 70)), r15) else none else none else none) else (j18 ()) else none)) else none else none else none)))) else none else none
set_option maxRecDepth 100000 in
set_option maxHeartbeats 4000000 in
theorem kX10_drawn (d : Nat) (hd : 6 ≤ d) (M : Mem) (a0 a1 a2 a3 a4 a5 : Int) : Ct mX10_drawn d 0 0 [pA a0, pI a1, pI a2, pI a3, pI a4, pI a5] M dIM (fX10_drawn M a0 a1 a2 a3 a4 a5) := by
  obtain ⟨d, rfl⟩ : ∃ k, d = k + 1 := ⟨d - 1, by omega⟩
  refine Ct.of 2 (fun _ _ _ => trivial) (by decide +kernel) rfl ?_
  unfold fX10_drawn
  refine v_aload_n dX10_drawn_0 rfl ?_
  refine v_if (fun h1 => ?_)
  refine v_get (v := pA (M.1 a0 0)) 9 0 rfl inX10 (by decide) tw421 dX10_drawn_1 h1 rfl ?_
  refine v_iload_n dX10_drawn_4 rfl ?_
  refine v_if (fun h4 => ?_)
  refine v_cV (mi := mX10_drawn) (c0 := 0) (c1 := 0) (As := [pI a1]) (st := []) (kX6_townAt d (by omega) _ _ _) rfl h4 rfl okX6_townAt (Or.inl tw680) tw681 tw682 rfl (Nat.le_of_ble_eq_true rfl) dX10_drawn_5 (fun r2 => [pA r2]) (fun r2 => M) (fun _ => rfl) (fun _ => rfl) (fun r2 h3 => ?_) rfl
  refine v_astore (ls' := [some (pA a0), some (pI a1), some (pI a2), some (pI a3), some (pI a4), some (pI a5), some (pA r2), none]) dX10_drawn_8 (by decide) rfl ?_
  refine v_aload_n dX10_drawn_10 rfl ?_
  refine v_get (v := pA (M.1 a0 0)) 9 0 rfl inX10 (by decide) tw421 dX10_drawn_11 h1 rfl ?_
  refine v_iload_n dX10_drawn_14 rfl ?_
  refine v_cV (mi := mX10_drawn) (c0 := 0) (c1 := 0) (As := [pI a2]) (st := []) (kX6_lawAt d (by omega) _ _ _) rfl h4 rfl okX6_lawAt (Or.inl tw714) tw715 tw716 rfl (Nat.le_of_ble_eq_true rfl) dX10_drawn_15 (fun r5 => [pA r5]) (fun r5 => M) (fun _ => rfl) (fun _ => rfl) (fun r5 h6 => ?_) rfl
  refine v_astore (ls' := [some (pA a0), some (pI a1), some (pI a2), some (pI a3), some (pI a4), some (pI a5), some (pA r2), some (pA r5)]) dX10_drawn_18 (by decide) rfl ?_
  refine v_aload dX10_drawn_20 rfl ?_
  refine v_ifnull (tgt := 43) dX10_drawn_22 (by decide) (fun c7 => ?_) (fun c7 => ?_)
  · refine v_sipush dX10_drawn_43 (by decide) ?_
    exact v_ireturn dX10_drawn_46 rfl rfl
  · refine v_aload dX10_drawn_25 rfl ?_
    refine v_ifnull (tgt := 43) dX10_drawn_27 (by decide) (fun c8 => ?_) (fun c8 => ?_)
    · refine v_sipush dX10_drawn_43 (by decide) ?_
      exact v_ireturn dX10_drawn_46 rfl rfl
    · refine v_iload dX10_drawn_30 rfl ?_
      refine v_iconst dX10_drawn_32 (by decide) ?_
      refine v_icmp_lt (tgt := 43) dX10_drawn_33 (by decide) (fun c9 => ?_) (fun c9 => ?_)
      · refine v_sipush dX10_drawn_43 (by decide) ?_
        exact v_ireturn dX10_drawn_46 rfl rfl
      · refine v_iload dX10_drawn_36 rfl ?_
        refine v_bipush dX10_drawn_38 (by decide) ?_
        refine v_icmp_le (tgt := 47) dX10_drawn_40 (by decide) (fun c10 => ?_) (fun c10 => ?_)
        · refine v_sipush dX10_drawn_43 (by decide) ?_
          exact v_ireturn dX10_drawn_46 rfl rfl
        · refine v_aload_n dX10_drawn_47 rfl ?_
          refine v_get (v := pA (M.1 a0 3)) 9 3 rfl inX10 (by decide) tw424 dX10_drawn_48 h1 rfl ?_
          refine v_aload dX10_drawn_51 rfl ?_
          refine v_aload dX10_drawn_53 rfl ?_
          refine v_if (fun h13 => ?_)
          refine v_cV (mi := mX10_drawn) (c0 := 0) (c1 := 0) (As := [pA r2, pA r5]) (st := []) (kX9_begin d (by omega) _ _ _ _) rfl h13 rfl okX9_begin (Or.inl tw738) tw739 tw740 rfl (Nat.le_of_ble_eq_true rfl) dX10_drawn_55 (fun r11 => []) (fun r11 => r11) (fun _ => rfl) (fun _ => rfl) (fun r11 h12 => ?_) rfl
          refine v_aload_n dX10_drawn_58 rfl ?_
          refine v_if (fun h14 => ?_)
          refine v_get (v := pA (r11.1 a0 3)) 9 3 rfl inX10 (by decide) tw424 dX10_drawn_59 h14 rfl ?_
          refine v_iload_n dX10_drawn_62 rfl ?_
          refine v_iload dX10_drawn_63 rfl ?_
          refine v_if (fun h17 => ?_)
          refine v_cV (mi := mX10_drawn) (c0 := 0) (c1 := 0) (As := [pI a3, pI a4]) (st := []) (kX9_drawNights d (by omega) _ _ _ _) rfl h17 rfl okX9_drawNights (Or.inl tw1054) tw1055 tw1056 rfl (Nat.le_of_ble_eq_true rfl) dX10_drawn_65 (fun r15 => []) (fun r15 => r15) (fun _ => rfl) (fun _ => rfl) (fun r15 h16 => ?_) rfl
          refine v_iload dX10_drawn_68 rfl ?_
          refine v_bipush dX10_drawn_70 (by decide) ?_
          refine v_join (fun (t19 : Unit) => [some (pA a0), none, none, none, none, some (pI a5), none, none]) (fun (t19 : Unit) => []) (fun (t19 : Unit) => r15) 104 (fun t19 => ?_) (fun j18 hj18 => ?_)
          · refine v_aload_n dX10_drawn_104 rfl ?_
            refine v_if (fun h20 => ?_)
            refine v_get (v := pA (r15.1 a0 3)) 9 3 rfl inX10 (by decide) tw424 dX10_drawn_105 h20 rfl ?_
            refine v_iload dX10_drawn_108 rfl ?_
            refine v_cS (mi := mX10_drawn) (c0 := 0) (c1 := 0) (As := [pA (r15.1 a0 3), pI a5]) (st := []) (kX8_seen d (by omega) _ _ _) okX8_seen (Or.inl tw818) tw819 rfl (Nat.le_of_ble_eq_true rfl) dX10_drawn_110 (fun r21 => [pI r21]) (fun r21 => r15) (fun _ => rfl) (fun _ => rfl) (fun r21 h22 => ?_) rfl
            exact v_ireturn dX10_drawn_113 rfl rfl
          · refine v_icmp_lt (tgt := 104) dX10_drawn_72 (by decide) (fun c23 => ?_) (fun c23 => ?_)
            · exact v_drop [some (pA a0), none, none, none, none, some (pI a5), none, none] (ls_s (ls_n (ls_n (ls_n (ls_n (ls_s (ls_n (ls_n ls_e)))))))) (hj18 ())
            · refine v_iload dX10_drawn_75 rfl ?_
              refine v_bipush dX10_drawn_77 (by decide) ?_
              refine v_iconst dX10_drawn_79 (by decide) ?_
              refine v_aload dX10_drawn_80 rfl ?_
              refine v_if (fun h24 => ?_)
              refine v_get (v := pI (r15.1 r2 0)) 7 0 rfl inX7 (by decide) tw58 dX10_drawn_82 h24 rfl ?_
              refine v_imul dX10_drawn_85 ?_
              refine v_iadd dX10_drawn_86 ?_
              refine v_icmp_ge (tgt := 104) dX10_drawn_87 (by decide) (fun c25 => ?_) (fun c25 => ?_)
              · refine v_aload_n dX10_drawn_90 rfl ?_
                refine v_if (fun h26 => ?_)
                refine v_get (v := pA (r15.1 a0 3)) 9 3 rfl inX10 (by decide) tw424 dX10_drawn_91 h26 rfl ?_
                refine v_if (fun h27 => ?_)
                refine v_get (v := pA (r15.1 (r15.1 a0 3) 2)) 8 2 rfl inX9 (by decide) tw321 dX10_drawn_94 h27 rfl ?_
                refine v_iload dX10_drawn_97 rfl ?_
                refine v_bipush dX10_drawn_99 (by decide) ?_
                refine v_isub dX10_drawn_101 ?_
                refine v_if (fun h28 => ?_)
                refine v_iaload h28 dX10_drawn_102 ?_
                exact v_ireturn dX10_drawn_103 rfl rfl
              · exact v_drop [some (pA a0), none, none, none, none, some (pI a5), none, none] (ls_s (ls_n (ls_n (ls_n (ls_n (ls_s (ls_n (ls_n ls_e)))))))) (hj18 ())
theorem chX10_wealth_0 : (cX10_wealth.data.toList.drop 0).take 16 = [42, 27, 28, 29, 21, 4, 182, 0, 192, 154, 0, 7, 17, 252, 24, 172] := by decide +kernel
theorem chX10_wealth_1 : (cX10_wealth.data.toList.drop 16).take 16 = [42, 180, 0, 40, 21, 5, 184, 1, 52, 172] := by decide +kernel
theorem dX10_wealth_0 : decode cX10_wealth 0 = .ok (.aload_n 0, 1) := oq_42 (byt chX10_wealth_0 0 rfl)
theorem dX10_wealth_1 : decode cX10_wealth 1 = .ok (.iload_n 1, 1) := oq_27 (byt chX10_wealth_0 1 rfl)
theorem dX10_wealth_2 : decode cX10_wealth 2 = .ok (.iload_n 2, 1) := oq_28 (byt chX10_wealth_0 2 rfl)
theorem dX10_wealth_3 : decode cX10_wealth 3 = .ok (.iload_n 3, 1) := oq_29 (byt chX10_wealth_0 3 rfl)
theorem dX10_wealth_4 : decode cX10_wealth 4 = .ok (.iload 4, 2) := oq_21 (byt chX10_wealth_0 4 rfl) (byt chX10_wealth_0 5 rfl) rfl
theorem dX10_wealth_6 : decode cX10_wealth 6 = .ok (.invokevirtual 192, 3) := oq_182 (byt chX10_wealth_0 6 rfl) (byt chX10_wealth_0 7 rfl) (byt chX10_wealth_0 8 rfl) rfl
theorem dX10_wealth_9 : decode cX10_wealth 9 = .ok (.ifCond .ne 7, 3) := oq_154 (byt chX10_wealth_0 9 rfl) (byt chX10_wealth_0 10 rfl) (byt chX10_wealth_0 11 rfl) (by decide +kernel)
theorem dX10_wealth_12 : decode cX10_wealth 12 = .ok (.sipush (-1000), 3) := oq_17 (byt chX10_wealth_0 12 rfl) (byt chX10_wealth_0 13 rfl) (byt chX10_wealth_0 14 rfl) (by decide +kernel)
theorem dX10_wealth_15 : decode cX10_wealth 15 = .ok (.ireturn, 1) := oq_172 (byt chX10_wealth_0 15 rfl)
theorem dX10_wealth_16 : decode cX10_wealth 16 = .ok (.aload_n 0, 1) := oq_42 (byt chX10_wealth_1 0 rfl)
theorem dX10_wealth_17 : decode cX10_wealth 17 = .ok (.getfield 40, 3) := oq_180 (byt chX10_wealth_1 1 rfl) (byt chX10_wealth_1 2 rfl) (byt chX10_wealth_1 3 rfl) rfl
theorem dX10_wealth_20 : decode cX10_wealth 20 = .ok (.iload 5, 2) := oq_21 (byt chX10_wealth_1 4 rfl) (byt chX10_wealth_1 5 rfl) rfl
theorem dX10_wealth_22 : decode cX10_wealth 22 = .ok (.invokestatic 308, 3) := oq_184 (byt chX10_wealth_1 6 rfl) (byt chX10_wealth_1 7 rfl) (byt chX10_wealth_1 8 rfl) rfl
theorem dX10_wealth_25 : decode cX10_wealth 25 = .ok (.ireturn, 1) := oq_172 (byt chX10_wealth_1 9 rfl)
abbrev mX10_wealth : MI := (yX10_wealth, cX10_wealth, 6, (some .int), noE)
theorem okX10_wealth : cok mX10_wealth 5 := ⟨tw1074, tw1, by decide, by decide, by decide, by decide +kernel⟩
def fX10_wealth (M : Mem) (a0 a1 a2 a3 a4 a5 : Int) : Option (Int × Mem) :=
  if M.2.1 a0 = 9 then (fX10_walkJust M a0 a1 a2 a3 a4).bind fun r1 => if r1.1 = 0 then (some ((-1000), r1.2)) else (if r1.2.2.1 a0 = 9 then (fX8_rich r1.2 (r1.2.1 a0 3) a5).bind fun r6 => some (r6, r1.2) else none) else none
set_option maxRecDepth 100000 in
set_option maxHeartbeats 4000000 in
theorem kX10_wealth (d : Nat) (hd : 7 ≤ d) (M : Mem) (a0 a1 a2 a3 a4 a5 : Int) : Ct mX10_wealth d 0 0 [pA a0, pI a1, pI a2, pI a3, pI a4, pI a5] M dIM (fX10_wealth M a0 a1 a2 a3 a4 a5) := by
  obtain ⟨d, rfl⟩ : ∃ k, d = k + 1 := ⟨d - 1, by omega⟩
  refine Ct.of 0 (fun _ _ _ => trivial) (by decide +kernel) rfl ?_
  unfold fX10_wealth
  refine v_aload_n dX10_wealth_0 rfl ?_
  refine v_iload_n dX10_wealth_1 rfl ?_
  refine v_iload_n dX10_wealth_2 rfl ?_
  refine v_iload_n dX10_wealth_3 rfl ?_
  refine v_iload dX10_wealth_4 rfl ?_
  refine v_if (fun h3 => ?_)
  refine v_cV (mi := mX10_wealth) (c0 := 0) (c1 := 0) (As := [pI a1, pI a2, pI a3, pI a4]) (st := []) (kX10_walkJust d (by omega) _ _ _ _ _ _) rfl h3 rfl okX10_walkJust (Or.inl tw801) tw803 tp16 rfl (Nat.le_of_ble_eq_true rfl) dX10_wealth_6 (fun r1 => [pI r1.1]) (fun r1 => r1.2) (fun _ => rfl) (fun _ => rfl) (fun r1 h2 => ?_) rfl
  refine v_if_ne (tgt := 16) dX10_wealth_9 (by decide) (fun c4 => ?_) (fun c4 => ?_)
  · refine v_sipush dX10_wealth_12 (by decide) ?_
    exact v_ireturn dX10_wealth_15 rfl rfl
  · refine v_aload_n dX10_wealth_16 rfl ?_
    refine v_if (fun h5 => ?_)
    refine v_get (v := pA (r1.2.1 a0 3)) 9 3 rfl inX10 (by decide) tw424 dX10_wealth_17 h5 rfl ?_
    refine v_iload dX10_wealth_20 rfl ?_
    refine v_cS (mi := mX10_wealth) (c0 := 0) (c1 := 0) (As := [pA (r1.2.1 a0 3), pI a5]) (st := []) (kX8_rich d (by omega) _ _ _) okX8_rich (Or.inl tw1075) tw1076 rfl (Nat.le_of_ble_eq_true rfl) dX10_wealth_22 (fun r6 => [pI r6]) (fun r6 => r1.2) (fun _ => rfl) (fun _ => rfl) (fun r6 h7 => ?_) rfl
    exact v_ireturn dX10_wealth_25 rfl rfl
theorem chX10_haul_0 : (cX10_haul.data.toList.drop 0).take 16 = [42, 180, 0, 12, 27, 182, 0, 92, 58, 6, 25, 6, 198, 0, 34, 25] := by decide +kernel
theorem chX10_haul_1 : (cX10_haul.data.toList.drop 16).take 16 = [6, 28, 182, 0, 104, 153, 0, 25, 29, 155, 0, 21, 29, 16, 9, 163] := by decide +kernel
theorem chX10_haul_2 : (cX10_haul.data.toList.drop 32).take 16 = [0, 15, 21, 4, 155, 0, 10, 21, 4, 16, 99, 164, 0, 5, 2, 172] := by decide +kernel
theorem chX10_haul_3 : (cX10_haul.data.toList.drop 48).take 16 = [21, 5, 153, 0, 19, 21, 5, 16, 10, 161, 0, 10, 21, 5, 16, 15] := by decide +kernel
theorem chX10_haul_4 : (cX10_haul.data.toList.drop 64).take 16 = [161, 0, 5, 2, 172, 42, 180, 0, 56, 25, 6, 28, 29, 21, 4, 182] := by decide +kernel
theorem chX10_haul_5 : (cX10_haul.data.toList.drop 80).take 16 = [1, 55, 21, 5, 154, 0, 13, 42, 180, 0, 56, 180, 1, 59, 167, 0] := by decide +kernel
theorem chX10_haul_6 : (cX10_haul.data.toList.drop 96).take 16 = [16, 42, 180, 0, 56, 180, 1, 62, 21, 5, 16, 10, 100, 46, 172] := by decide +kernel
theorem dX10_haul_0 : decode cX10_haul 0 = .ok (.aload_n 0, 1) := oq_42 (byt chX10_haul_0 0 rfl)
theorem dX10_haul_1 : decode cX10_haul 1 = .ok (.getfield 12, 3) := oq_180 (byt chX10_haul_0 1 rfl) (byt chX10_haul_0 2 rfl) (byt chX10_haul_0 3 rfl) rfl
theorem dX10_haul_4 : decode cX10_haul 4 = .ok (.iload_n 1, 1) := oq_27 (byt chX10_haul_0 4 rfl)
theorem dX10_haul_5 : decode cX10_haul 5 = .ok (.invokevirtual 92, 3) := oq_182 (byt chX10_haul_0 5 rfl) (byt chX10_haul_0 6 rfl) (byt chX10_haul_0 7 rfl) rfl
theorem dX10_haul_8 : decode cX10_haul 8 = .ok (.astore 6, 2) := oq_58 (byt chX10_haul_0 8 rfl) (byt chX10_haul_0 9 rfl) rfl
theorem dX10_haul_10 : decode cX10_haul 10 = .ok (.aload 6, 2) := oq_25 (byt chX10_haul_0 10 rfl) (byt chX10_haul_0 11 rfl) rfl
theorem dX10_haul_12 : decode cX10_haul 12 = .ok (.ifnull 34, 3) := oq_198 (byt chX10_haul_0 12 rfl) (byt chX10_haul_0 13 rfl) (byt chX10_haul_0 14 rfl) (by decide +kernel)
theorem dX10_haul_15 : decode cX10_haul 15 = .ok (.aload 6, 2) := oq_25 (byt chX10_haul_0 15 rfl) (byt chX10_haul_1 0 rfl) rfl
theorem dX10_haul_17 : decode cX10_haul 17 = .ok (.iload_n 2, 1) := oq_28 (byt chX10_haul_1 1 rfl)
theorem dX10_haul_18 : decode cX10_haul 18 = .ok (.invokevirtual 104, 3) := oq_182 (byt chX10_haul_1 2 rfl) (byt chX10_haul_1 3 rfl) (byt chX10_haul_1 4 rfl) rfl
theorem dX10_haul_21 : decode cX10_haul 21 = .ok (.ifCond .eq 25, 3) := oq_153 (byt chX10_haul_1 5 rfl) (byt chX10_haul_1 6 rfl) (byt chX10_haul_1 7 rfl) (by decide +kernel)
theorem dX10_haul_24 : decode cX10_haul 24 = .ok (.iload_n 3, 1) := oq_29 (byt chX10_haul_1 8 rfl)
theorem dX10_haul_25 : decode cX10_haul 25 = .ok (.ifCond .lt 21, 3) := oq_155 (byt chX10_haul_1 9 rfl) (byt chX10_haul_1 10 rfl) (byt chX10_haul_1 11 rfl) (by decide +kernel)
theorem dX10_haul_28 : decode cX10_haul 28 = .ok (.iload_n 3, 1) := oq_29 (byt chX10_haul_1 12 rfl)
theorem dX10_haul_29 : decode cX10_haul 29 = .ok (.bipush 9, 2) := oq_16 (byt chX10_haul_1 13 rfl) (byt chX10_haul_1 14 rfl) rfl
theorem dX10_haul_31 : decode cX10_haul 31 = .ok (.if_icmp .gt 15, 3) := oq_163 (byt chX10_haul_1 15 rfl) (byt chX10_haul_2 0 rfl) (byt chX10_haul_2 1 rfl) (by decide +kernel)
theorem dX10_haul_34 : decode cX10_haul 34 = .ok (.iload 4, 2) := oq_21 (byt chX10_haul_2 2 rfl) (byt chX10_haul_2 3 rfl) rfl
theorem dX10_haul_36 : decode cX10_haul 36 = .ok (.ifCond .lt 10, 3) := oq_155 (byt chX10_haul_2 4 rfl) (byt chX10_haul_2 5 rfl) (byt chX10_haul_2 6 rfl) (by decide +kernel)
theorem dX10_haul_39 : decode cX10_haul 39 = .ok (.iload 4, 2) := oq_21 (byt chX10_haul_2 7 rfl) (byt chX10_haul_2 8 rfl) rfl
theorem dX10_haul_41 : decode cX10_haul 41 = .ok (.bipush 99, 2) := oq_16 (byt chX10_haul_2 9 rfl) (byt chX10_haul_2 10 rfl) rfl
theorem dX10_haul_43 : decode cX10_haul 43 = .ok (.if_icmp .le 5, 3) := oq_164 (byt chX10_haul_2 11 rfl) (byt chX10_haul_2 12 rfl) (byt chX10_haul_2 13 rfl) (by decide +kernel)
theorem dX10_haul_46 : decode cX10_haul 46 = .ok (.iconst (-1), 1) := oq_2 (byt chX10_haul_2 14 rfl)
theorem dX10_haul_47 : decode cX10_haul 47 = .ok (.ireturn, 1) := oq_172 (byt chX10_haul_2 15 rfl)
theorem dX10_haul_48 : decode cX10_haul 48 = .ok (.iload 5, 2) := oq_21 (byt chX10_haul_3 0 rfl) (byt chX10_haul_3 1 rfl) rfl
theorem dX10_haul_50 : decode cX10_haul 50 = .ok (.ifCond .eq 19, 3) := oq_153 (byt chX10_haul_3 2 rfl) (byt chX10_haul_3 3 rfl) (byt chX10_haul_3 4 rfl) (by decide +kernel)
theorem dX10_haul_53 : decode cX10_haul 53 = .ok (.iload 5, 2) := oq_21 (byt chX10_haul_3 5 rfl) (byt chX10_haul_3 6 rfl) rfl
theorem dX10_haul_55 : decode cX10_haul 55 = .ok (.bipush 10, 2) := oq_16 (byt chX10_haul_3 7 rfl) (byt chX10_haul_3 8 rfl) rfl
theorem dX10_haul_57 : decode cX10_haul 57 = .ok (.if_icmp .lt 10, 3) := oq_161 (byt chX10_haul_3 9 rfl) (byt chX10_haul_3 10 rfl) (byt chX10_haul_3 11 rfl) (by decide +kernel)
theorem dX10_haul_60 : decode cX10_haul 60 = .ok (.iload 5, 2) := oq_21 (byt chX10_haul_3 12 rfl) (byt chX10_haul_3 13 rfl) rfl
theorem dX10_haul_62 : decode cX10_haul 62 = .ok (.bipush 15, 2) := oq_16 (byt chX10_haul_3 14 rfl) (byt chX10_haul_3 15 rfl) rfl
theorem dX10_haul_64 : decode cX10_haul 64 = .ok (.if_icmp .lt 5, 3) := oq_161 (byt chX10_haul_4 0 rfl) (byt chX10_haul_4 1 rfl) (byt chX10_haul_4 2 rfl) (by decide +kernel)
theorem dX10_haul_67 : decode cX10_haul 67 = .ok (.iconst (-1), 1) := oq_2 (byt chX10_haul_4 3 rfl)
theorem dX10_haul_68 : decode cX10_haul 68 = .ok (.ireturn, 1) := oq_172 (byt chX10_haul_4 4 rfl)
theorem dX10_haul_69 : decode cX10_haul 69 = .ok (.aload_n 0, 1) := oq_42 (byt chX10_haul_4 5 rfl)
theorem dX10_haul_70 : decode cX10_haul 70 = .ok (.getfield 56, 3) := oq_180 (byt chX10_haul_4 6 rfl) (byt chX10_haul_4 7 rfl) (byt chX10_haul_4 8 rfl) rfl
theorem dX10_haul_73 : decode cX10_haul 73 = .ok (.aload 6, 2) := oq_25 (byt chX10_haul_4 9 rfl) (byt chX10_haul_4 10 rfl) rfl
theorem dX10_haul_75 : decode cX10_haul 75 = .ok (.iload_n 2, 1) := oq_28 (byt chX10_haul_4 11 rfl)
theorem dX10_haul_76 : decode cX10_haul 76 = .ok (.iload_n 3, 1) := oq_29 (byt chX10_haul_4 12 rfl)
theorem dX10_haul_77 : decode cX10_haul 77 = .ok (.iload 4, 2) := oq_21 (byt chX10_haul_4 13 rfl) (byt chX10_haul_4 14 rfl) rfl
theorem dX10_haul_79 : decode cX10_haul 79 = .ok (.invokevirtual 311, 3) := oq_182 (byt chX10_haul_4 15 rfl) (byt chX10_haul_5 0 rfl) (byt chX10_haul_5 1 rfl) rfl
theorem dX10_haul_82 : decode cX10_haul 82 = .ok (.iload 5, 2) := oq_21 (byt chX10_haul_5 2 rfl) (byt chX10_haul_5 3 rfl) rfl
theorem dX10_haul_84 : decode cX10_haul 84 = .ok (.ifCond .ne 13, 3) := oq_154 (byt chX10_haul_5 4 rfl) (byt chX10_haul_5 5 rfl) (byt chX10_haul_5 6 rfl) (by decide +kernel)
theorem dX10_haul_87 : decode cX10_haul 87 = .ok (.aload_n 0, 1) := oq_42 (byt chX10_haul_5 7 rfl)
theorem dX10_haul_88 : decode cX10_haul 88 = .ok (.getfield 56, 3) := oq_180 (byt chX10_haul_5 8 rfl) (byt chX10_haul_5 9 rfl) (byt chX10_haul_5 10 rfl) rfl
theorem dX10_haul_91 : decode cX10_haul 91 = .ok (.getfield 315, 3) := oq_180 (byt chX10_haul_5 11 rfl) (byt chX10_haul_5 12 rfl) (byt chX10_haul_5 13 rfl) rfl
theorem dX10_haul_94 : decode cX10_haul 94 = .ok (.goto 16, 3) := oq_167 (byt chX10_haul_5 14 rfl) (byt chX10_haul_5 15 rfl) (byt chX10_haul_6 0 rfl) (by decide +kernel)
theorem dX10_haul_97 : decode cX10_haul 97 = .ok (.aload_n 0, 1) := oq_42 (byt chX10_haul_6 1 rfl)
theorem dX10_haul_98 : decode cX10_haul 98 = .ok (.getfield 56, 3) := oq_180 (byt chX10_haul_6 2 rfl) (byt chX10_haul_6 3 rfl) (byt chX10_haul_6 4 rfl) rfl
theorem dX10_haul_101 : decode cX10_haul 101 = .ok (.getfield 318, 3) := oq_180 (byt chX10_haul_6 5 rfl) (byt chX10_haul_6 6 rfl) (byt chX10_haul_6 7 rfl) rfl
theorem dX10_haul_104 : decode cX10_haul 104 = .ok (.iload 5, 2) := oq_21 (byt chX10_haul_6 8 rfl) (byt chX10_haul_6 9 rfl) rfl
theorem dX10_haul_106 : decode cX10_haul 106 = .ok (.bipush 10, 2) := oq_16 (byt chX10_haul_6 10 rfl) (byt chX10_haul_6 11 rfl) rfl
theorem dX10_haul_108 : decode cX10_haul 108 = .ok (.isub, 1) := oq_100 (byt chX10_haul_6 12 rfl)
theorem dX10_haul_109 : decode cX10_haul 109 = .ok (.iaload, 1) := oq_46 (byt chX10_haul_6 13 rfl)
theorem dX10_haul_110 : decode cX10_haul 110 = .ok (.ireturn, 1) := oq_172 (byt chX10_haul_6 14 rfl)
abbrev mX10_haul : MI := (yX10_haul, cX10_haul, 7, (some .int), noE)
theorem okX10_haul : cok mX10_haul 5 := ⟨tw1122, tw1, by decide, by decide, by decide, by decide +kernel⟩
def fX10_haul (M : Mem) (a0 a1 a2 a3 a4 a5 : Int) : Option (Int × Mem) :=
  if M.2.1 a0 = 9 then if M.2.1 (M.1 a0 0) = 6 then (fX6_townAt M (M.1 a0 0) a1).bind fun r2 => if r2 = -1 then (some ((-1), M)) else (if M.2.1 r2 = 7 then (fX7_isHouse M r2 a2).bind fun r6 => if r6 = 0 then (some ((-1), M)) else (if a3 < 0 then (some ((-1), M)) else (if 9 < a3 then (some ((-1), M)) else (if a4 < 0 then (some ((-1), M)) else (if 99 < a4 then (some ((-1), M)) else (jn (fun (t15 : Unit) => if M.2.1 (M.1 a0 5) = 2 then (fX2_choose M (M.1 a0 5) r2 a2 a3 a4).bind fun r16 => if a5 = 0 then (if r16.2.1 a0 = 9 then if r16.2.1 (r16.1 a0 5) = 2 then some (r16.1 (r16.1 a0 5) 1, r16) else none else none) else (if r16.2.1 a0 = 9 then if r16.2.1 (r16.1 a0 5) = 2 then if r16.2.1 (r16.1 (r16.1 a0 5) 0) = 12 ∧ (0 : Int) ≤ (w32 (a5 - 10)) ∧ (w32 (a5 - 10)) < r16.2.2.1 (r16.1 (r16.1 a0 5) 0) then some (r16.1 (r16.1 (r16.1 a0 5) 0) (w32 (a5 - 10)), r16) else none else none else none) else none) (fun (j14 : Unit → Option (Int × Mem)) => if a5 = 0 then (j14 ()) else (if a5 < 10 then (some ((-1), M)) else (if a5 < 15 then (j14 ()) else (some ((-1), M)))))))))) else none) else none else none
set_option maxRecDepth 100000 in
set_option maxHeartbeats 4000000 in
theorem kX10_haul (d : Nat) (hd : 26 ≤ d) (M : Mem) (a0 a1 a2 a3 a4 a5 : Int) : Ct mX10_haul d 0 0 [pA a0, pI a1, pI a2, pI a3, pI a4, pI a5] M dIM (fX10_haul M a0 a1 a2 a3 a4 a5) := by
  obtain ⟨d, rfl⟩ : ∃ k, d = k + 1 := ⟨d - 1, by omega⟩
  refine Ct.of 1 (fun _ _ _ => trivial) (by decide +kernel) rfl ?_
  unfold fX10_haul
  refine v_aload_n dX10_haul_0 rfl ?_
  refine v_if (fun h1 => ?_)
  refine v_get (v := pA (M.1 a0 0)) 9 0 rfl inX10 (by decide) tw421 dX10_haul_1 h1 rfl ?_
  refine v_iload_n dX10_haul_4 rfl ?_
  refine v_if (fun h4 => ?_)
  refine v_cV (mi := mX10_haul) (c0 := 0) (c1 := 0) (As := [pI a1]) (st := []) (kX6_townAt d (by omega) _ _ _) rfl h4 rfl okX6_townAt (Or.inl tw680) tw681 tw682 rfl (Nat.le_of_ble_eq_true rfl) dX10_haul_5 (fun r2 => [pA r2]) (fun r2 => M) (fun _ => rfl) (fun _ => rfl) (fun r2 h3 => ?_) rfl
  refine v_astore (ls' := [some (pA a0), some (pI a1), some (pI a2), some (pI a3), some (pI a4), some (pI a5), some (pA r2)]) dX10_haul_8 (by decide) rfl ?_
  refine v_aload dX10_haul_10 rfl ?_
  refine v_ifnull (tgt := 46) dX10_haul_12 (by decide) (fun c5 => ?_) (fun c5 => ?_)
  · refine v_iconst dX10_haul_46 (by decide) ?_
    exact v_ireturn dX10_haul_47 rfl rfl
  · refine v_aload dX10_haul_15 rfl ?_
    refine v_iload_n dX10_haul_17 rfl ?_
    refine v_if (fun h8 => ?_)
    refine v_cV (mi := mX10_haul) (c0 := 0) (c1 := 0) (As := [pI a2]) (st := []) (kX7_isHouse d (by omega) _ _ _) rfl h8 rfl okX7_isHouse (Or.inl tw684) tw685 tw686 rfl (Nat.le_of_ble_eq_true rfl) dX10_haul_18 (fun r6 => [pI r6]) (fun r6 => M) (fun _ => rfl) (fun _ => rfl) (fun r6 h7 => ?_) rfl
    refine v_if_eq (tgt := 46) dX10_haul_21 (by decide) (fun c9 => ?_) (fun c9 => ?_)
    · refine v_iconst dX10_haul_46 (by decide) ?_
      exact v_ireturn dX10_haul_47 rfl rfl
    · refine v_iload_n dX10_haul_24 rfl ?_
      refine v_if_lt (tgt := 46) dX10_haul_25 (by decide) (fun c10 => ?_) (fun c10 => ?_)
      · refine v_iconst dX10_haul_46 (by decide) ?_
        exact v_ireturn dX10_haul_47 rfl rfl
      · refine v_iload_n dX10_haul_28 rfl ?_
        refine v_bipush dX10_haul_29 (by decide) ?_
        refine v_icmp_gt (tgt := 46) dX10_haul_31 (by decide) (fun c11 => ?_) (fun c11 => ?_)
        · refine v_iconst dX10_haul_46 (by decide) ?_
          exact v_ireturn dX10_haul_47 rfl rfl
        · refine v_iload dX10_haul_34 rfl ?_
          refine v_if_lt (tgt := 46) dX10_haul_36 (by decide) (fun c12 => ?_) (fun c12 => ?_)
          · refine v_iconst dX10_haul_46 (by decide) ?_
            exact v_ireturn dX10_haul_47 rfl rfl
          · refine v_iload dX10_haul_39 rfl ?_
            refine v_bipush dX10_haul_41 (by decide) ?_
            refine v_icmp_le (tgt := 48) dX10_haul_43 (by decide) (fun c13 => ?_) (fun c13 => ?_)
            · refine v_iconst dX10_haul_46 (by decide) ?_
              exact v_ireturn dX10_haul_47 rfl rfl
            · refine v_iload dX10_haul_48 rfl ?_
              refine v_join (fun (t15 : Unit) => [some (pA a0), none, some (pI a2), some (pI a3), some (pI a4), some (pI a5), some (pA r2)]) (fun (t15 : Unit) => []) (fun (t15 : Unit) => M) 69 (fun t15 => ?_) (fun j14 hj14 => ?_)
              · refine v_aload_n dX10_haul_69 rfl ?_
                refine v_get (v := pA (M.1 a0 5)) 9 5 rfl inX10 (by decide) tw426 dX10_haul_70 h1 rfl ?_
                refine v_aload dX10_haul_73 rfl ?_
                refine v_iload_n dX10_haul_75 rfl ?_
                refine v_iload_n dX10_haul_76 rfl ?_
                refine v_iload dX10_haul_77 rfl ?_
                refine v_if (fun h18 => ?_)
                refine v_cV (mi := mX10_haul) (c0 := 0) (c1 := 0) (As := [pA r2, pI a2, pI a3, pI a4]) (st := []) (kX2_choose d (by omega) _ _ _ _ _ _) rfl h18 rfl okX2_choose (Or.inl tw1123) tw1124 tw1125 rfl (Nat.le_of_ble_eq_true rfl) dX10_haul_79 (fun r16 => []) (fun r16 => r16) (fun _ => rfl) (fun _ => rfl) (fun r16 h17 => ?_) rfl
                refine v_iload dX10_haul_82 rfl ?_
                refine v_if_ne (tgt := 97) dX10_haul_84 (by decide) (fun c19 => ?_) (fun c19 => ?_)
                · refine v_aload_n dX10_haul_87 rfl ?_
                  refine v_if (fun h20 => ?_)
                  refine v_get (v := pA (r16.1 a0 5)) 9 5 rfl inX10 (by decide) tw426 dX10_haul_88 h20 rfl ?_
                  refine v_if (fun h21 => ?_)
                  refine v_get (v := pI (r16.1 (r16.1 a0 5) 1)) 2 1 rfl inX2 (by decide) tw406 dX10_haul_91 h21 rfl ?_
                  refine v_goto (tgt := 110) dX10_haul_94 (by decide) ?_
                  exact v_ireturn dX10_haul_110 rfl rfl
                · refine v_aload_n dX10_haul_97 rfl ?_
                  refine v_if (fun h22 => ?_)
                  refine v_get (v := pA (r16.1 a0 5)) 9 5 rfl inX10 (by decide) tw426 dX10_haul_98 h22 rfl ?_
                  refine v_if (fun h23 => ?_)
                  refine v_get (v := pA (r16.1 (r16.1 a0 5) 0)) 2 0 rfl inX2 (by decide) tw404 dX10_haul_101 h23 rfl ?_
                  refine v_iload dX10_haul_104 rfl ?_
                  refine v_bipush dX10_haul_106 (by decide) ?_
                  refine v_isub dX10_haul_108 ?_
                  refine v_if (fun h24 => ?_)
                  refine v_iaload h24 dX10_haul_109 ?_
                  exact v_ireturn dX10_haul_110 rfl rfl
              · refine v_if_eq (tgt := 69) dX10_haul_50 (by decide) (fun c25 => ?_) (fun c25 => ?_)
                · exact v_drop [some (pA a0), none, some (pI a2), some (pI a3), some (pI a4), some (pI a5), some (pA r2)] (ls_s (ls_n (ls_s (ls_s (ls_s (ls_s (ls_s ls_e))))))) (hj14 ())
                · refine v_iload dX10_haul_53 rfl ?_
                  refine v_bipush dX10_haul_55 (by decide) ?_
                  refine v_icmp_lt (tgt := 67) dX10_haul_57 (by decide) (fun c26 => ?_) (fun c26 => ?_)
                  · refine v_iconst dX10_haul_67 (by decide) ?_
                    exact v_ireturn dX10_haul_68 rfl rfl
                  · refine v_iload dX10_haul_60 rfl ?_
                    refine v_bipush dX10_haul_62 (by decide) ?_
                    refine v_icmp_lt (tgt := 69) dX10_haul_64 (by decide) (fun c27 => ?_) (fun c27 => ?_)
                    · exact v_drop [some (pA a0), none, some (pI a2), some (pI a3), some (pI a4), some (pI a5), some (pA r2)] (ls_s (ls_n (ls_s (ls_s (ls_s (ls_s (ls_s ls_e))))))) (hj14 ())
                    · refine v_iconst dX10_haul_67 (by decide) ?_
                      exact v_ireturn dX10_haul_68 rfl rfl
theorem chX10_crew_0 : (cX10_crew.data.toList.drop 0).take 16 = [42, 180, 0, 12, 27, 182, 0, 92, 58, 4, 25, 4, 198, 0, 14, 28] := by decide +kernel
theorem chX10_crew_1 : (cX10_crew.data.toList.drop 16).take 16 = [4, 161, 0, 9, 28, 16, 36, 164, 0, 5, 2, 172, 25, 4, 28, 182] := by decide +kernel
theorem chX10_crew_2 : (cX10_crew.data.toList.drop 32).take 16 = [1, 65, 54, 5, 29, 154, 0, 9, 21, 5, 2, 160, 0, 8, 21, 5] := by decide +kernel
theorem chX10_crew_3 : (cX10_crew.data.toList.drop 48).take 16 = [167, 0, 8, 21, 5, 184, 1, 68, 172] := by decide +kernel
theorem dX10_crew_0 : decode cX10_crew 0 = .ok (.aload_n 0, 1) := oq_42 (byt chX10_crew_0 0 rfl)
theorem dX10_crew_1 : decode cX10_crew 1 = .ok (.getfield 12, 3) := oq_180 (byt chX10_crew_0 1 rfl) (byt chX10_crew_0 2 rfl) (byt chX10_crew_0 3 rfl) rfl
theorem dX10_crew_4 : decode cX10_crew 4 = .ok (.iload_n 1, 1) := oq_27 (byt chX10_crew_0 4 rfl)
theorem dX10_crew_5 : decode cX10_crew 5 = .ok (.invokevirtual 92, 3) := oq_182 (byt chX10_crew_0 5 rfl) (byt chX10_crew_0 6 rfl) (byt chX10_crew_0 7 rfl) rfl
theorem dX10_crew_8 : decode cX10_crew 8 = .ok (.astore 4, 2) := oq_58 (byt chX10_crew_0 8 rfl) (byt chX10_crew_0 9 rfl) rfl
theorem dX10_crew_10 : decode cX10_crew 10 = .ok (.aload 4, 2) := oq_25 (byt chX10_crew_0 10 rfl) (byt chX10_crew_0 11 rfl) rfl
theorem dX10_crew_12 : decode cX10_crew 12 = .ok (.ifnull 14, 3) := oq_198 (byt chX10_crew_0 12 rfl) (byt chX10_crew_0 13 rfl) (byt chX10_crew_0 14 rfl) (by decide +kernel)
theorem dX10_crew_15 : decode cX10_crew 15 = .ok (.iload_n 2, 1) := oq_28 (byt chX10_crew_0 15 rfl)
theorem dX10_crew_16 : decode cX10_crew 16 = .ok (.iconst 1, 1) := oq_4 (byt chX10_crew_1 0 rfl)
theorem dX10_crew_17 : decode cX10_crew 17 = .ok (.if_icmp .lt 9, 3) := oq_161 (byt chX10_crew_1 1 rfl) (byt chX10_crew_1 2 rfl) (byt chX10_crew_1 3 rfl) (by decide +kernel)
theorem dX10_crew_20 : decode cX10_crew 20 = .ok (.iload_n 2, 1) := oq_28 (byt chX10_crew_1 4 rfl)
theorem dX10_crew_21 : decode cX10_crew 21 = .ok (.bipush 36, 2) := oq_16 (byt chX10_crew_1 5 rfl) (byt chX10_crew_1 6 rfl) rfl
theorem dX10_crew_23 : decode cX10_crew 23 = .ok (.if_icmp .le 5, 3) := oq_164 (byt chX10_crew_1 7 rfl) (byt chX10_crew_1 8 rfl) (byt chX10_crew_1 9 rfl) (by decide +kernel)
theorem dX10_crew_26 : decode cX10_crew 26 = .ok (.iconst (-1), 1) := oq_2 (byt chX10_crew_1 10 rfl)
theorem dX10_crew_27 : decode cX10_crew 27 = .ok (.ireturn, 1) := oq_172 (byt chX10_crew_1 11 rfl)
theorem dX10_crew_28 : decode cX10_crew 28 = .ok (.aload 4, 2) := oq_25 (byt chX10_crew_1 12 rfl) (byt chX10_crew_1 13 rfl) rfl
theorem dX10_crew_30 : decode cX10_crew 30 = .ok (.iload_n 2, 1) := oq_28 (byt chX10_crew_1 14 rfl)
theorem dX10_crew_31 : decode cX10_crew 31 = .ok (.invokevirtual 321, 3) := oq_182 (byt chX10_crew_1 15 rfl) (byt chX10_crew_2 0 rfl) (byt chX10_crew_2 1 rfl) rfl
theorem dX10_crew_34 : decode cX10_crew 34 = .ok (.istore 5, 2) := oq_54 (byt chX10_crew_2 2 rfl) (byt chX10_crew_2 3 rfl) rfl
theorem dX10_crew_36 : decode cX10_crew 36 = .ok (.iload_n 3, 1) := oq_29 (byt chX10_crew_2 4 rfl)
theorem dX10_crew_37 : decode cX10_crew 37 = .ok (.ifCond .ne 9, 3) := oq_154 (byt chX10_crew_2 5 rfl) (byt chX10_crew_2 6 rfl) (byt chX10_crew_2 7 rfl) (by decide +kernel)
theorem dX10_crew_40 : decode cX10_crew 40 = .ok (.iload 5, 2) := oq_21 (byt chX10_crew_2 8 rfl) (byt chX10_crew_2 9 rfl) rfl
theorem dX10_crew_42 : decode cX10_crew 42 = .ok (.iconst (-1), 1) := oq_2 (byt chX10_crew_2 10 rfl)
theorem dX10_crew_43 : decode cX10_crew 43 = .ok (.if_icmp .ne 8, 3) := oq_160 (byt chX10_crew_2 11 rfl) (byt chX10_crew_2 12 rfl) (byt chX10_crew_2 13 rfl) (by decide +kernel)
theorem dX10_crew_46 : decode cX10_crew 46 = .ok (.iload 5, 2) := oq_21 (byt chX10_crew_2 14 rfl) (byt chX10_crew_2 15 rfl) rfl
theorem dX10_crew_48 : decode cX10_crew 48 = .ok (.goto 8, 3) := oq_167 (byt chX10_crew_3 0 rfl) (byt chX10_crew_3 1 rfl) (byt chX10_crew_3 2 rfl) (by decide +kernel)
theorem dX10_crew_51 : decode cX10_crew 51 = .ok (.iload 5, 2) := oq_21 (byt chX10_crew_3 3 rfl) (byt chX10_crew_3 4 rfl) rfl
theorem dX10_crew_53 : decode cX10_crew 53 = .ok (.invokestatic 324, 3) := oq_184 (byt chX10_crew_3 5 rfl) (byt chX10_crew_3 6 rfl) (byt chX10_crew_3 7 rfl) rfl
theorem dX10_crew_56 : decode cX10_crew 56 = .ok (.ireturn, 1) := oq_172 (byt chX10_crew_3 8 rfl)
abbrev mX10_crew : MI := (yX10_crew, cX10_crew, 6, (some .int), noE)
theorem okX10_crew : cok mX10_crew 3 := ⟨tw1141, tw1, by decide, by decide, by decide, by decide +kernel⟩
def fX10_crew (M : Mem) (a0 a1 a2 a3 : Int) : Option Int :=
  if M.2.1 a0 = 9 then if M.2.1 (M.1 a0 0) = 6 then (fX6_townAt M (M.1 a0 0) a1).bind fun r2 => if r2 = -1 then (some (-1)) else (if a2 < 1 then (some (-1)) else (if 36 < a2 then (some (-1)) else (if M.2.1 r2 = 7 then (fX7_crewFor M r2 a2).bind fun r8 => if a3 = 0 then (if r8 = (-1) then (some r8) else ((fJ6_bitCount_0f7a4 M r8).bind fun r13 => some r13)) else (some r8) else none))) else none else none
set_option maxRecDepth 100000 in
set_option maxHeartbeats 4000000 in
theorem kX10_crew (d : Nat) (hd : 2 ≤ d) (M : Mem) (a0 a1 a2 a3 : Int) : Ct mX10_crew d 0 0 [pA a0, pI a1, pI a2, pI a3] M (dI M) (fX10_crew M a0 a1 a2 a3) := by
  obtain ⟨d, rfl⟩ : ∃ k, d = k + 1 := ⟨d - 1, by omega⟩
  refine Ct.of 2 (fun _ _ _ => trivial) (by decide +kernel) rfl ?_
  unfold fX10_crew
  refine v_aload_n dX10_crew_0 rfl ?_
  refine v_if (fun h1 => ?_)
  refine v_get (v := pA (M.1 a0 0)) 9 0 rfl inX10 (by decide) tw421 dX10_crew_1 h1 rfl ?_
  refine v_iload_n dX10_crew_4 rfl ?_
  refine v_if (fun h4 => ?_)
  refine v_cV (mi := mX10_crew) (c0 := 0) (c1 := 0) (As := [pI a1]) (st := []) (kX6_townAt d (by omega) _ _ _) rfl h4 rfl okX6_townAt (Or.inl tw680) tw681 tw682 rfl (Nat.le_of_ble_eq_true rfl) dX10_crew_5 (fun r2 => [pA r2]) (fun r2 => M) (fun _ => rfl) (fun _ => rfl) (fun r2 h3 => ?_) rfl
  refine v_astore (ls' := [some (pA a0), some (pI a1), some (pI a2), some (pI a3), some (pA r2), none]) dX10_crew_8 (by decide) rfl ?_
  refine v_aload dX10_crew_10 rfl ?_
  refine v_ifnull (tgt := 26) dX10_crew_12 (by decide) (fun c5 => ?_) (fun c5 => ?_)
  · refine v_iconst dX10_crew_26 (by decide) ?_
    exact v_ireturn dX10_crew_27 rfl rfl
  · refine v_iload_n dX10_crew_15 rfl ?_
    refine v_iconst dX10_crew_16 (by decide) ?_
    refine v_icmp_lt (tgt := 26) dX10_crew_17 (by decide) (fun c6 => ?_) (fun c6 => ?_)
    · refine v_iconst dX10_crew_26 (by decide) ?_
      exact v_ireturn dX10_crew_27 rfl rfl
    · refine v_iload_n dX10_crew_20 rfl ?_
      refine v_bipush dX10_crew_21 (by decide) ?_
      refine v_icmp_le (tgt := 28) dX10_crew_23 (by decide) (fun c7 => ?_) (fun c7 => ?_)
      · refine v_iconst dX10_crew_26 (by decide) ?_
        exact v_ireturn dX10_crew_27 rfl rfl
      · refine v_aload dX10_crew_28 rfl ?_
        refine v_iload_n dX10_crew_30 rfl ?_
        refine v_if (fun h10 => ?_)
        refine v_cV (mi := mX10_crew) (c0 := 0) (c1 := 0) (As := [pI a2]) (st := []) (kX7_crewFor d (by omega) _ _ _) rfl h10 rfl okX7_crewFor (Or.inl tw1142) tw1143 tw1144 rfl (Nat.le_of_ble_eq_true rfl) dX10_crew_31 (fun r8 => [pI r8]) (fun r8 => M) (fun _ => rfl) (fun _ => rfl) (fun r8 h9 => ?_) rfl
        refine v_istore (ls' := [some (pA a0), some (pI a1), some (pI a2), some (pI a3), some (pA r2), some (pI r8)]) dX10_crew_34 (by decide) rfl ?_
        refine v_iload_n dX10_crew_36 rfl ?_
        refine v_if_ne (tgt := 46) dX10_crew_37 (by decide) (fun c11 => ?_) (fun c11 => ?_)
        · refine v_iload dX10_crew_40 rfl ?_
          refine v_iconst dX10_crew_42 (by decide) ?_
          refine v_icmp_ne (tgt := 51) dX10_crew_43 (by decide) (fun c12 => ?_) (fun c12 => ?_)
          · refine v_iload dX10_crew_46 rfl ?_
            refine v_goto (tgt := 56) dX10_crew_48 (by decide) ?_
            exact v_ireturn dX10_crew_56 rfl rfl
          · refine v_iload dX10_crew_51 rfl ?_
            refine v_cS (mi := mX10_crew) (c0 := 0) (c1 := 0) (As := [pI r8]) (st := []) (kJ6_bitCount_0f7a4 d (by omega) _ _) okJ6_bitCount_0f7a4 (Or.inl tw1156) tw1147 rfl (Nat.le_of_ble_eq_true rfl) dX10_crew_53 (fun r13 => [pI r13]) (fun r13 => M) (fun _ => rfl) (fun _ => rfl) (fun r13 h14 => ?_) rfl
            exact v_ireturn dX10_crew_56 rfl rfl
        · refine v_iload dX10_crew_46 rfl ?_
          refine v_goto (tgt := 56) dX10_crew_48 (by decide) ?_
          exact v_ireturn dX10_crew_56 rfl rfl
theorem chX10_pairs_0 : (cX10_pairs.data.toList.drop 0).take 16 = [42, 180, 0, 12, 27, 182, 0, 92, 78, 45, 198, 0, 8, 28, 2, 162] := by decide +kernel
theorem chX10_pairs_1 : (cX10_pairs.data.toList.drop 16).take 16 = [0, 7, 2, 167, 0, 8, 45, 28, 182, 1, 73, 172] := by decide +kernel
theorem dX10_pairs_0 : decode cX10_pairs 0 = .ok (.aload_n 0, 1) := oq_42 (byt chX10_pairs_0 0 rfl)
theorem dX10_pairs_1 : decode cX10_pairs 1 = .ok (.getfield 12, 3) := oq_180 (byt chX10_pairs_0 1 rfl) (byt chX10_pairs_0 2 rfl) (byt chX10_pairs_0 3 rfl) rfl
theorem dX10_pairs_4 : decode cX10_pairs 4 = .ok (.iload_n 1, 1) := oq_27 (byt chX10_pairs_0 4 rfl)
theorem dX10_pairs_5 : decode cX10_pairs 5 = .ok (.invokevirtual 92, 3) := oq_182 (byt chX10_pairs_0 5 rfl) (byt chX10_pairs_0 6 rfl) (byt chX10_pairs_0 7 rfl) rfl
theorem dX10_pairs_8 : decode cX10_pairs 8 = .ok (.astore_n 3, 1) := oq_78 (byt chX10_pairs_0 8 rfl)
theorem dX10_pairs_9 : decode cX10_pairs 9 = .ok (.aload_n 3, 1) := oq_45 (byt chX10_pairs_0 9 rfl)
theorem dX10_pairs_10 : decode cX10_pairs 10 = .ok (.ifnull 8, 3) := oq_198 (byt chX10_pairs_0 10 rfl) (byt chX10_pairs_0 11 rfl) (byt chX10_pairs_0 12 rfl) (by decide +kernel)
theorem dX10_pairs_13 : decode cX10_pairs 13 = .ok (.iload_n 2, 1) := oq_28 (byt chX10_pairs_0 13 rfl)
theorem dX10_pairs_14 : decode cX10_pairs 14 = .ok (.iconst (-1), 1) := oq_2 (byt chX10_pairs_0 14 rfl)
theorem dX10_pairs_15 : decode cX10_pairs 15 = .ok (.if_icmp .ge 7, 3) := oq_162 (byt chX10_pairs_0 15 rfl) (byt chX10_pairs_1 0 rfl) (byt chX10_pairs_1 1 rfl) (by decide +kernel)
theorem dX10_pairs_18 : decode cX10_pairs 18 = .ok (.iconst (-1), 1) := oq_2 (byt chX10_pairs_1 2 rfl)
theorem dX10_pairs_19 : decode cX10_pairs 19 = .ok (.goto 8, 3) := oq_167 (byt chX10_pairs_1 3 rfl) (byt chX10_pairs_1 4 rfl) (byt chX10_pairs_1 5 rfl) (by decide +kernel)
theorem dX10_pairs_22 : decode cX10_pairs 22 = .ok (.aload_n 3, 1) := oq_45 (byt chX10_pairs_1 6 rfl)
theorem dX10_pairs_23 : decode cX10_pairs 23 = .ok (.iload_n 2, 1) := oq_28 (byt chX10_pairs_1 7 rfl)
theorem dX10_pairs_24 : decode cX10_pairs 24 = .ok (.invokevirtual 329, 3) := oq_182 (byt chX10_pairs_1 8 rfl) (byt chX10_pairs_1 9 rfl) (byt chX10_pairs_1 10 rfl) rfl
theorem dX10_pairs_27 : decode cX10_pairs 27 = .ok (.ireturn, 1) := oq_172 (byt chX10_pairs_1 11 rfl)
abbrev mX10_pairs : MI := (yX10_pairs, cX10_pairs, 4, (some .int), noE)
theorem okX10_pairs : cok mX10_pairs 2 := ⟨tw1160, tw1, by decide, by decide, by decide, by decide +kernel⟩
def fX10_pairs (M : Mem) (a0 a1 a2 : Int) : Option Int :=
  if M.2.1 a0 = 9 then if M.2.1 (M.1 a0 0) = 6 then (fX6_townAt M (M.1 a0 0) a1).bind fun r2 => if r2 = -1 then (some (-1)) else (if a2 < (-1) then (some (-1)) else (if M.2.1 r2 = 7 then (fX7_pairAt M r2 a2).bind fun r7 => some r7 else none)) else none else none
set_option maxRecDepth 100000 in
set_option maxHeartbeats 4000000 in
theorem kX10_pairs (d : Nat) (hd : 4 ≤ d) (M : Mem) (a0 a1 a2 : Int) : Ct mX10_pairs d 0 0 [pA a0, pI a1, pI a2] M (dI M) (fX10_pairs M a0 a1 a2) := by
  obtain ⟨d, rfl⟩ : ∃ k, d = k + 1 := ⟨d - 1, by omega⟩
  refine Ct.of 1 (fun _ _ _ => trivial) (by decide +kernel) rfl ?_
  unfold fX10_pairs
  refine v_aload_n dX10_pairs_0 rfl ?_
  refine v_if (fun h1 => ?_)
  refine v_get (v := pA (M.1 a0 0)) 9 0 rfl inX10 (by decide) tw421 dX10_pairs_1 h1 rfl ?_
  refine v_iload_n dX10_pairs_4 rfl ?_
  refine v_if (fun h4 => ?_)
  refine v_cV (mi := mX10_pairs) (c0 := 0) (c1 := 0) (As := [pI a1]) (st := []) (kX6_townAt d (by omega) _ _ _) rfl h4 rfl okX6_townAt (Or.inl tw680) tw681 tw682 rfl (Nat.le_of_ble_eq_true rfl) dX10_pairs_5 (fun r2 => [pA r2]) (fun r2 => M) (fun _ => rfl) (fun _ => rfl) (fun r2 h3 => ?_) rfl
  refine v_astore_n (ls' := [some (pA a0), some (pI a1), some (pI a2), some (pA r2)]) dX10_pairs_8 (by decide) rfl ?_
  refine v_aload_n dX10_pairs_9 rfl ?_
  refine v_ifnull (tgt := 18) dX10_pairs_10 (by decide) (fun c5 => ?_) (fun c5 => ?_)
  · refine v_iconst dX10_pairs_18 (by decide) ?_
    refine v_goto (tgt := 27) dX10_pairs_19 (by decide) ?_
    exact v_ireturn dX10_pairs_27 rfl rfl
  · refine v_iload_n dX10_pairs_13 rfl ?_
    refine v_iconst dX10_pairs_14 (by decide) ?_
    refine v_icmp_ge (tgt := 22) dX10_pairs_15 (by decide) (fun c6 => ?_) (fun c6 => ?_)
    · refine v_iconst dX10_pairs_18 (by decide) ?_
      refine v_goto (tgt := 27) dX10_pairs_19 (by decide) ?_
      exact v_ireturn dX10_pairs_27 rfl rfl
    · refine v_aload_n dX10_pairs_22 rfl ?_
      refine v_iload_n dX10_pairs_23 rfl ?_
      refine v_if (fun h9 => ?_)
      refine v_cV (mi := mX10_pairs) (c0 := 0) (c1 := 0) (As := [pI a2]) (st := []) (kX7_pairAt d (by omega) _ _ _) rfl h9 rfl okX7_pairAt (Or.inl tw1161) tw1162 tw1163 rfl (Nat.le_of_ble_eq_true rfl) dX10_pairs_24 (fun r7 => [pI r7]) (fun r7 => M) (fun _ => rfl) (fun _ => rfl) (fun r7 h8 => ?_) rfl
      exact v_ireturn dX10_pairs_27 rfl rfl
theorem chX10_count_0 : (cX10_count.data.toList.drop 0).take 16 = [27, 155, 0, 8, 27, 7, 161, 0, 8, 16, 254, 167, 0, 12, 42, 180] := by decide +kernel
theorem chX10_count_1 : (cX10_count.data.toList.drop 16).take 16 = [0, 12, 180, 1, 76, 27, 46, 172] := by decide +kernel
theorem dX10_count_0 : decode cX10_count 0 = .ok (.iload_n 1, 1) := oq_27 (byt chX10_count_0 0 rfl)
theorem dX10_count_1 : decode cX10_count 1 = .ok (.ifCond .lt 8, 3) := oq_155 (byt chX10_count_0 1 rfl) (byt chX10_count_0 2 rfl) (byt chX10_count_0 3 rfl) (by decide +kernel)
theorem dX10_count_4 : decode cX10_count 4 = .ok (.iload_n 1, 1) := oq_27 (byt chX10_count_0 4 rfl)
theorem dX10_count_5 : decode cX10_count 5 = .ok (.iconst 4, 1) := oq_7 (byt chX10_count_0 5 rfl)
theorem dX10_count_6 : decode cX10_count 6 = .ok (.if_icmp .lt 8, 3) := oq_161 (byt chX10_count_0 6 rfl) (byt chX10_count_0 7 rfl) (byt chX10_count_0 8 rfl) (by decide +kernel)
theorem dX10_count_9 : decode cX10_count 9 = .ok (.bipush (-2), 2) := oq_16 (byt chX10_count_0 9 rfl) (byt chX10_count_0 10 rfl) rfl
theorem dX10_count_11 : decode cX10_count 11 = .ok (.goto 12, 3) := oq_167 (byt chX10_count_0 11 rfl) (byt chX10_count_0 12 rfl) (byt chX10_count_0 13 rfl) (by decide +kernel)
theorem dX10_count_14 : decode cX10_count 14 = .ok (.aload_n 0, 1) := oq_42 (byt chX10_count_0 14 rfl)
theorem dX10_count_15 : decode cX10_count 15 = .ok (.getfield 12, 3) := oq_180 (byt chX10_count_0 15 rfl) (byt chX10_count_1 0 rfl) (byt chX10_count_1 1 rfl) rfl
theorem dX10_count_18 : decode cX10_count 18 = .ok (.getfield 332, 3) := oq_180 (byt chX10_count_1 2 rfl) (byt chX10_count_1 3 rfl) (byt chX10_count_1 4 rfl) rfl
theorem dX10_count_21 : decode cX10_count 21 = .ok (.iload_n 1, 1) := oq_27 (byt chX10_count_1 5 rfl)
theorem dX10_count_22 : decode cX10_count 22 = .ok (.iaload, 1) := oq_46 (byt chX10_count_1 6 rfl)
theorem dX10_count_23 : decode cX10_count 23 = .ok (.ireturn, 1) := oq_172 (byt chX10_count_1 7 rfl)
abbrev mX10_count : MI := (yX10_count, cX10_count, 2, (some .int), noE)
theorem okX10_count : cok mX10_count 1 := ⟨tw1172, tw1, by decide, by decide, by decide, by decide +kernel⟩
def fX10_count (M : Mem) (a0 a1 : Int) : Option Int :=
  if a1 < 0 then (some (-2)) else (if a1 < 4 then (if M.2.1 a0 = 9 then if M.2.1 (M.1 a0 0) = 6 then if M.2.1 (M.1 (M.1 a0 0) 4) = 12 ∧ (0 : Int) ≤ a1 ∧ a1 < M.2.2.1 (M.1 (M.1 a0 0) 4) then some (M.1 (M.1 (M.1 a0 0) 4) a1) else none else none else none) else (some (-2)))
set_option maxRecDepth 100000 in
set_option maxHeartbeats 4000000 in
theorem kX10_count (d : Nat) (hd : 0 ≤ d) (M : Mem) (a0 a1 : Int) : Ct mX10_count d 0 0 [pA a0, pI a1] M (dI M) (fX10_count M a0 a1) := by
  refine Ct.of 0 (fun _ _ _ => trivial) (by decide +kernel) rfl ?_
  unfold fX10_count
  refine v_iload_n dX10_count_0 rfl ?_
  refine v_if_lt (tgt := 9) dX10_count_1 (by decide) (fun c1 => ?_) (fun c1 => ?_)
  · refine v_bipush dX10_count_9 (by decide) ?_
    refine v_goto (tgt := 23) dX10_count_11 (by decide) ?_
    exact v_ireturn dX10_count_23 rfl rfl
  · refine v_iload_n dX10_count_4 rfl ?_
    refine v_iconst dX10_count_5 (by decide) ?_
    refine v_icmp_lt (tgt := 14) dX10_count_6 (by decide) (fun c2 => ?_) (fun c2 => ?_)
    · refine v_aload_n dX10_count_14 rfl ?_
      refine v_if (fun h3 => ?_)
      refine v_get (v := pA (M.1 a0 0)) 9 0 rfl inX10 (by decide) tw421 dX10_count_15 h3 rfl ?_
      refine v_if (fun h4 => ?_)
      refine v_get (v := pA (M.1 (M.1 a0 0) 4)) 6 4 rfl inX6 (by decide) tw213 dX10_count_18 h4 rfl ?_
      refine v_iload_n dX10_count_21 rfl ?_
      refine v_if (fun h5 => ?_)
      refine v_iaload h5 dX10_count_22 ?_
      exact v_ireturn dX10_count_23 rfl rfl
    · refine v_bipush dX10_count_9 (by decide) ?_
      refine v_goto (tgt := 23) dX10_count_11 (by decide) ?_
      exact v_ireturn dX10_count_23 rfl rfl
theorem chX10_image_0 : (cX10_image.data.toList.drop 0).take 16 = [27, 155, 0, 8, 27, 6, 161, 0, 5, 3, 172, 42, 180, 0, 16, 27] := by decide +kernel
theorem chX10_image_1 : (cX10_image.data.toList.drop 16).take 16 = [50, 199, 0, 16, 42, 180, 0, 16, 27, 187, 0, 9, 89, 183, 0, 11] := by decide +kernel
theorem chX10_image_2 : (cX10_image.data.toList.drop 32).take 16 = [83, 42, 180, 0, 16, 27, 50, 42, 180, 0, 12, 182, 1, 78, 4, 172] := by decide +kernel
theorem dX10_image_0 : decode cX10_image 0 = .ok (.iload_n 1, 1) := oq_27 (byt chX10_image_0 0 rfl)
theorem dX10_image_1 : decode cX10_image 1 = .ok (.ifCond .lt 8, 3) := oq_155 (byt chX10_image_0 1 rfl) (byt chX10_image_0 2 rfl) (byt chX10_image_0 3 rfl) (by decide +kernel)
theorem dX10_image_4 : decode cX10_image 4 = .ok (.iload_n 1, 1) := oq_27 (byt chX10_image_0 4 rfl)
theorem dX10_image_5 : decode cX10_image 5 = .ok (.iconst 3, 1) := oq_6 (byt chX10_image_0 5 rfl)
theorem dX10_image_6 : decode cX10_image 6 = .ok (.if_icmp .lt 5, 3) := oq_161 (byt chX10_image_0 6 rfl) (byt chX10_image_0 7 rfl) (byt chX10_image_0 8 rfl) (by decide +kernel)
theorem dX10_image_9 : decode cX10_image 9 = .ok (.iconst 0, 1) := oq_3 (byt chX10_image_0 9 rfl)
theorem dX10_image_10 : decode cX10_image 10 = .ok (.ireturn, 1) := oq_172 (byt chX10_image_0 10 rfl)
theorem dX10_image_11 : decode cX10_image 11 = .ok (.aload_n 0, 1) := oq_42 (byt chX10_image_0 11 rfl)
theorem dX10_image_12 : decode cX10_image 12 = .ok (.getfield 16, 3) := oq_180 (byt chX10_image_0 12 rfl) (byt chX10_image_0 13 rfl) (byt chX10_image_0 14 rfl) rfl
theorem dX10_image_15 : decode cX10_image 15 = .ok (.iload_n 1, 1) := oq_27 (byt chX10_image_0 15 rfl)
theorem dX10_image_16 : decode cX10_image 16 = .ok (.aaload, 1) := oq_50 (byt chX10_image_1 0 rfl)
theorem dX10_image_17 : decode cX10_image 17 = .ok (.ifnonnull 16, 3) := oq_199 (byt chX10_image_1 1 rfl) (byt chX10_image_1 2 rfl) (byt chX10_image_1 3 rfl) (by decide +kernel)
theorem dX10_image_20 : decode cX10_image 20 = .ok (.aload_n 0, 1) := oq_42 (byt chX10_image_1 4 rfl)
theorem dX10_image_21 : decode cX10_image 21 = .ok (.getfield 16, 3) := oq_180 (byt chX10_image_1 5 rfl) (byt chX10_image_1 6 rfl) (byt chX10_image_1 7 rfl) rfl
theorem dX10_image_24 : decode cX10_image 24 = .ok (.iload_n 1, 1) := oq_27 (byt chX10_image_1 8 rfl)
theorem dX10_image_25 : decode cX10_image 25 = .ok (.new 9, 3) := oq_187 (byt chX10_image_1 9 rfl) (byt chX10_image_1 10 rfl) (byt chX10_image_1 11 rfl) rfl
theorem dX10_image_28 : decode cX10_image 28 = .ok (.dup, 1) := oq_89 (byt chX10_image_1 12 rfl)
theorem dX10_image_29 : decode cX10_image 29 = .ok (.invokespecial 11, 3) := oq_183 (byt chX10_image_1 13 rfl) (byt chX10_image_1 14 rfl) (byt chX10_image_1 15 rfl) rfl
theorem dX10_image_32 : decode cX10_image 32 = .ok (.aastore, 1) := oq_83 (byt chX10_image_2 0 rfl)
theorem dX10_image_33 : decode cX10_image 33 = .ok (.aload_n 0, 1) := oq_42 (byt chX10_image_2 1 rfl)
theorem dX10_image_34 : decode cX10_image 34 = .ok (.getfield 16, 3) := oq_180 (byt chX10_image_2 2 rfl) (byt chX10_image_2 3 rfl) (byt chX10_image_2 4 rfl) rfl
theorem dX10_image_37 : decode cX10_image 37 = .ok (.iload_n 1, 1) := oq_27 (byt chX10_image_2 5 rfl)
theorem dX10_image_38 : decode cX10_image 38 = .ok (.aaload, 1) := oq_50 (byt chX10_image_2 6 rfl)
theorem dX10_image_39 : decode cX10_image 39 = .ok (.aload_n 0, 1) := oq_42 (byt chX10_image_2 7 rfl)
theorem dX10_image_40 : decode cX10_image 40 = .ok (.getfield 12, 3) := oq_180 (byt chX10_image_2 8 rfl) (byt chX10_image_2 9 rfl) (byt chX10_image_2 10 rfl) rfl
theorem dX10_image_43 : decode cX10_image 43 = .ok (.invokevirtual 334, 3) := oq_182 (byt chX10_image_2 11 rfl) (byt chX10_image_2 12 rfl) (byt chX10_image_2 13 rfl) rfl
theorem dX10_image_46 : decode cX10_image 46 = .ok (.iconst 1, 1) := oq_4 (byt chX10_image_2 14 rfl)
theorem dX10_image_47 : decode cX10_image 47 = .ok (.ireturn, 1) := oq_172 (byt chX10_image_2 15 rfl)
abbrev mX10_image : MI := (yX10_image, cX10_image, 2, (some .boolean), noE)
theorem okX10_image : cok mX10_image 1 := ⟨tw1176, tw1, by decide, by decide, by decide, by decide +kernel⟩
def fX10_image (M : Mem) (a0 a1 : Int) : Option (Int × Mem) :=
  if a1 < 0 then (some (0, M)) else (if a1 < 3 then (if M.2.1 a0 = 9 then if 14 ≤ M.2.1 (M.1 a0 1) ∧ (0 : Int) ≤ a1 ∧ a1 < M.2.2.1 (M.1 a0 1) then jn (fun (t6 : Mem) => if t6.2.1 a0 = 9 then if 14 ≤ t6.2.1 (t6.1 a0 1) ∧ (0 : Int) ≤ a1 ∧ a1 < t6.2.2.1 (t6.1 a0 1) then if t6.2.1 (t6.1 (t6.1 a0 1) a1) = 6 then (fX6_copy t6 (t6.1 (t6.1 a0 1) a1) (t6.1 a0 0)).bind fun r9 => some (1, r9) else none else none else none) (fun (j5 : Mem → Option (Int × Mem)) => if M.1 (M.1 a0 1) a1 = -1 then (bM (mnew M 6 9) fun M13 => if (0 : Int) ≤ (M.2.2.2 : Int) then (fX6_init M13 (M.2.2.2 : Int)).bind fun r16 => if r16.2.1 (M.2.2.2 : Int) = 6 then if r16.2.1 (M.1 a0 1) = 17 ∧ (0 : Int) ≤ a1 ∧ a1 < r16.2.2.1 (M.1 a0 1) then bM (mst r16 (M.1 a0 1) a1 (M.2.2.2 : Int)) fun M21 => j5 M21 else none else none else none) else (j5 M)) else none else none) else (some (0, M)))
set_option maxRecDepth 100000 in
set_option maxHeartbeats 4000000 in
theorem kX10_image (d : Nat) (hd : 4 ≤ d) (M : Mem) (a0 a1 : Int) : Ct mX10_image d 45 1257 [pA a0, pI a1] M dIM (fX10_image M a0 a1) := by
  obtain ⟨d, rfl⟩ : ∃ k, d = k + 1 := ⟨d - 1, by omega⟩
  refine Ct.of 0 (fun _ _ _ => trivial) (by decide +kernel) rfl ?_
  unfold fX10_image
  refine v_iload_n dX10_image_0 rfl ?_
  refine v_if_lt (tgt := 9) dX10_image_1 (by decide) (fun c1 => ?_) (fun c1 => ?_)
  · refine v_iconst dX10_image_9 (by decide) ?_
    exact v_breturn dX10_image_10 rfl (by decide) rfl
  · refine v_iload_n dX10_image_4 rfl ?_
    refine v_iconst dX10_image_5 (by decide) ?_
    refine v_icmp_lt (tgt := 11) dX10_image_6 (by decide) (fun c2 => ?_) (fun c2 => ?_)
    · refine v_aload_n dX10_image_11 rfl ?_
      refine v_if (fun h3 => ?_)
      refine v_get (v := pA (M.1 a0 1)) 9 1 rfl inX10 (by decide) tw422 dX10_image_12 h3 rfl ?_
      refine v_iload_n dX10_image_15 rfl ?_
      refine v_if (fun h4 => ?_)
      refine v_aaload h4 dX10_image_16 ?_
      refine v_joinB (fun (t6 : Mem) => [some (pA a0), some (pI a1)]) (fun (t6 : Mem) => []) (fun (t6 : Mem) => t6) 33 (fun t6 => ?_) (fun j5 hj5 => ?_)
      · refine v_aload_n dX10_image_33 rfl ?_
        refine v_if (fun h7 => ?_)
        refine v_get (v := pA (t6.1 a0 1)) 9 1 rfl inX10 (by decide) tw422 dX10_image_34 h7 rfl ?_
        refine v_iload_n dX10_image_37 rfl ?_
        refine v_if (fun h8 => ?_)
        refine v_aaload h8 dX10_image_38 ?_
        refine v_aload_n dX10_image_39 rfl ?_
        refine v_get (v := pA (t6.1 a0 0)) 9 0 rfl inX10 (by decide) tw421 dX10_image_40 h7 rfl ?_
        refine v_if (fun h11 => ?_)
        refine v_cV (mi := mX10_image) (c0 := 0) (c1 := 0) (As := [pA (t6.1 a0 0)]) (st := []) (kX6_copy d (by omega) _ _ _) rfl h11 rfl okX6_copy (Or.inl tw1177) tw1178 tw1179 rfl (Nat.le_of_ble_eq_true rfl) dX10_image_43 (fun r9 => []) (fun r9 => r9) (fun _ => rfl) (fun _ => rfl) (fun r9 h10 => ?_) rfl
        refine v_iconst dX10_image_46 (by decide) ?_
        exact v_breturn dX10_image_47 rfl (by decide) rfl
      · refine v_ifnonnull (tgt := 33) dX10_image_17 (by decide) (fun c12 => ?_) (fun c12 => ?_)
        · refine v_aload_n dX10_image_20 rfl ?_
          refine v_get (v := pA (M.1 a0 1)) 9 1 rfl inX10 (by decide) tw422 dX10_image_21 h3 rfl ?_
          refine v_iload_n dX10_image_24 rfl ?_
          refine v_new (N := 9) 6 rfl inX6 tw28 tw29 tw2 ftX6 dX10_image_25 ?_
          refine v_bM (fun M13 e14 => ?_)
          have h15 : M13.2.1 (M.2.2.2 : Int) = 6 := by rw [e14]; exact mnew_k
          refine v_dup dX10_image_28 (by intro z hz; cases hz) ?_
          refine v_if (fun h18 => ?_)
          refine v_cI (mi := mX10_image) (c0 := 44) (c1 := 1248) (As := []) (st := [pA (M.2.2.2 : Int), pI a1, pA (M.1 a0 1)]) (kX6_init d (by omega) _ _) h18 okX6_init rfl rfl (Or.inl tw30) tw31 rfl (Nat.le_of_ble_eq_true rfl) dX10_image_29 (fun r16 => [pA (M.2.2.2 : Int), pI a1, pA (M.1 a0 1)]) (fun r16 => r16) (fun _ => rfl) (fun _ => rfl) (fun r16 h17 => ?_) rfl
          refine v_if (fun h19 => ?_)
          refine v_if (fun h20 => ?_)
          refine v_aastore (C := "") (T := TX0) (N := 0) 17 6 (by decide) h20 h19 dX10_image_32 ?_
          refine v_bM (fun M21 e22 => ?_)
          exact v_bw (bc' := 0) (bs' := 0) (Nat.zero_le _) (Nat.zero_le _) (hj5 M21)
        · exact v_bw (bc' := 0) (bs' := 0) (Nat.zero_le _) (Nat.zero_le _) (hj5 M)
    · refine v_iconst dX10_image_9 (by decide) ?_
      exact v_breturn dX10_image_10 rfl (by decide) rfl
theorem chX10_again_0 : (cX10_again.data.toList.drop 0).take 16 = [27, 155, 0, 17, 27, 6, 162, 0, 12, 42, 180, 0, 16, 27, 50, 199] := by decide +kernel
theorem chX10_again_1 : (cX10_again.data.toList.drop 16).take 16 = [0, 5, 3, 172, 42, 180, 0, 12, 42, 180, 0, 16, 27, 50, 182, 1] := by decide +kernel
theorem chX10_again_2 : (cX10_again.data.toList.drop 32).take 16 = [78, 4, 172] := by decide +kernel
theorem dX10_again_0 : decode cX10_again 0 = .ok (.iload_n 1, 1) := oq_27 (byt chX10_again_0 0 rfl)
theorem dX10_again_1 : decode cX10_again 1 = .ok (.ifCond .lt 17, 3) := oq_155 (byt chX10_again_0 1 rfl) (byt chX10_again_0 2 rfl) (byt chX10_again_0 3 rfl) (by decide +kernel)
theorem dX10_again_4 : decode cX10_again 4 = .ok (.iload_n 1, 1) := oq_27 (byt chX10_again_0 4 rfl)
theorem dX10_again_5 : decode cX10_again 5 = .ok (.iconst 3, 1) := oq_6 (byt chX10_again_0 5 rfl)
theorem dX10_again_6 : decode cX10_again 6 = .ok (.if_icmp .ge 12, 3) := oq_162 (byt chX10_again_0 6 rfl) (byt chX10_again_0 7 rfl) (byt chX10_again_0 8 rfl) (by decide +kernel)
theorem dX10_again_9 : decode cX10_again 9 = .ok (.aload_n 0, 1) := oq_42 (byt chX10_again_0 9 rfl)
theorem dX10_again_10 : decode cX10_again 10 = .ok (.getfield 16, 3) := oq_180 (byt chX10_again_0 10 rfl) (byt chX10_again_0 11 rfl) (byt chX10_again_0 12 rfl) rfl
theorem dX10_again_13 : decode cX10_again 13 = .ok (.iload_n 1, 1) := oq_27 (byt chX10_again_0 13 rfl)
theorem dX10_again_14 : decode cX10_again 14 = .ok (.aaload, 1) := oq_50 (byt chX10_again_0 14 rfl)
theorem dX10_again_15 : decode cX10_again 15 = .ok (.ifnonnull 5, 3) := oq_199 (byt chX10_again_0 15 rfl) (byt chX10_again_1 0 rfl) (byt chX10_again_1 1 rfl) (by decide +kernel)
theorem dX10_again_18 : decode cX10_again 18 = .ok (.iconst 0, 1) := oq_3 (byt chX10_again_1 2 rfl)
theorem dX10_again_19 : decode cX10_again 19 = .ok (.ireturn, 1) := oq_172 (byt chX10_again_1 3 rfl)
theorem dX10_again_20 : decode cX10_again 20 = .ok (.aload_n 0, 1) := oq_42 (byt chX10_again_1 4 rfl)
theorem dX10_again_21 : decode cX10_again 21 = .ok (.getfield 12, 3) := oq_180 (byt chX10_again_1 5 rfl) (byt chX10_again_1 6 rfl) (byt chX10_again_1 7 rfl) rfl
theorem dX10_again_24 : decode cX10_again 24 = .ok (.aload_n 0, 1) := oq_42 (byt chX10_again_1 8 rfl)
theorem dX10_again_25 : decode cX10_again 25 = .ok (.getfield 16, 3) := oq_180 (byt chX10_again_1 9 rfl) (byt chX10_again_1 10 rfl) (byt chX10_again_1 11 rfl) rfl
theorem dX10_again_28 : decode cX10_again 28 = .ok (.iload_n 1, 1) := oq_27 (byt chX10_again_1 12 rfl)
theorem dX10_again_29 : decode cX10_again 29 = .ok (.aaload, 1) := oq_50 (byt chX10_again_1 13 rfl)
theorem dX10_again_30 : decode cX10_again 30 = .ok (.invokevirtual 334, 3) := oq_182 (byt chX10_again_1 14 rfl) (byt chX10_again_1 15 rfl) (byt chX10_again_2 0 rfl) rfl
theorem dX10_again_33 : decode cX10_again 33 = .ok (.iconst 1, 1) := oq_4 (byt chX10_again_2 1 rfl)
theorem dX10_again_34 : decode cX10_again 34 = .ok (.ireturn, 1) := oq_172 (byt chX10_again_2 2 rfl)
abbrev mX10_again : MI := (yX10_again, cX10_again, 2, (some .boolean), noE)
theorem okX10_again : cok mX10_again 1 := ⟨tw1186, tw1, by decide, by decide, by decide, by decide +kernel⟩
def fX10_again (M : Mem) (a0 a1 : Int) : Option (Int × Mem) :=
  if a1 < 0 then (some (0, M)) else (if a1 < 3 then (if M.2.1 a0 = 9 then if 14 ≤ M.2.1 (M.1 a0 1) ∧ (0 : Int) ≤ a1 ∧ a1 < M.2.2.1 (M.1 a0 1) then if M.1 (M.1 a0 1) a1 = -1 then (some (0, M)) else (if 14 ≤ M.2.1 (M.1 a0 1) ∧ (0 : Int) ≤ a1 ∧ a1 < M.2.2.1 (M.1 a0 1) then if M.2.1 (M.1 a0 0) = 6 then (fX6_copy M (M.1 a0 0) (M.1 (M.1 a0 1) a1)).bind fun r7 => some (1, r7) else none else none) else none else none) else (some (0, M)))
set_option maxRecDepth 100000 in
set_option maxHeartbeats 4000000 in
theorem kX10_again (d : Nat) (hd : 4 ≤ d) (M : Mem) (a0 a1 : Int) : Ct mX10_again d 0 0 [pA a0, pI a1] M dIM (fX10_again M a0 a1) := by
  obtain ⟨d, rfl⟩ : ∃ k, d = k + 1 := ⟨d - 1, by omega⟩
  refine Ct.of 0 (fun _ _ _ => trivial) (by decide +kernel) rfl ?_
  unfold fX10_again
  refine v_iload_n dX10_again_0 rfl ?_
  refine v_if_lt (tgt := 18) dX10_again_1 (by decide) (fun c1 => ?_) (fun c1 => ?_)
  · refine v_iconst dX10_again_18 (by decide) ?_
    exact v_breturn dX10_again_19 rfl (by decide) rfl
  · refine v_iload_n dX10_again_4 rfl ?_
    refine v_iconst dX10_again_5 (by decide) ?_
    refine v_icmp_ge (tgt := 18) dX10_again_6 (by decide) (fun c2 => ?_) (fun c2 => ?_)
    · refine v_aload_n dX10_again_9 rfl ?_
      refine v_if (fun h3 => ?_)
      refine v_get (v := pA (M.1 a0 1)) 9 1 rfl inX10 (by decide) tw422 dX10_again_10 h3 rfl ?_
      refine v_iload_n dX10_again_13 rfl ?_
      refine v_if (fun h4 => ?_)
      refine v_aaload h4 dX10_again_14 ?_
      refine v_ifnonnull (tgt := 20) dX10_again_15 (by decide) (fun c5 => ?_) (fun c5 => ?_)
      · refine v_iconst dX10_again_18 (by decide) ?_
        exact v_breturn dX10_again_19 rfl (by decide) rfl
      · refine v_aload_n dX10_again_20 rfl ?_
        refine v_get (v := pA (M.1 a0 0)) 9 0 rfl inX10 (by decide) tw421 dX10_again_21 h3 rfl ?_
        refine v_aload_n dX10_again_24 rfl ?_
        refine v_get (v := pA (M.1 a0 1)) 9 1 rfl inX10 (by decide) tw422 dX10_again_25 h3 rfl ?_
        refine v_iload_n dX10_again_28 rfl ?_
        refine v_if (fun h6 => ?_)
        refine v_aaload h6 dX10_again_29 ?_
        refine v_if (fun h9 => ?_)
        refine v_cV (mi := mX10_again) (c0 := 0) (c1 := 0) (As := [pA (M.1 (M.1 a0 1) a1)]) (st := []) (kX6_copy d (by omega) _ _ _) rfl h9 rfl okX6_copy (Or.inl tw1177) tw1178 tw1179 rfl (Nat.le_of_ble_eq_true rfl) dX10_again_30 (fun r7 => []) (fun r7 => r7) (fun _ => rfl) (fun _ => rfl) (fun r7 h8 => ?_) rfl
        refine v_iconst dX10_again_33 (by decide) ?_
        exact v_breturn dX10_again_34 rfl (by decide) rfl
    · refine v_iconst dX10_again_18 (by decide) ?_
      exact v_breturn dX10_again_19 rfl (by decide) rfl
