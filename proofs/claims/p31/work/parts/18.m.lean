theorem dX11_end_0 : decode cX11_end 0 = .ok (.aload_n 0, 1) := by decide +kernel
theorem dX11_end_1 : decode cX11_end 1 = .ok (.iconst 0, 1) := by decide +kernel
theorem dX11_end_2 : decode cX11_end 2 = .ok (.putfield 90, 3) := by decide +kernel
theorem dX11_end_5 : decode cX11_end 5 = .ok (.iload_n 1, 1) := by decide +kernel
theorem dX11_end_6 : decode cX11_end 6 = .ok (.iconst 0, 1) := by decide +kernel
theorem dX11_end_7 : decode cX11_end 7 = .ok (.aload_n 0, 1) := by decide +kernel
theorem dX11_end_8 : decode cX11_end 8 = .ok (.getfield 13, 3) := by decide +kernel
theorem dX11_end_11 : decode cX11_end 11 = .ok (.iconst 0, 1) := by decide +kernel
theorem dX11_end_12 : decode cX11_end 12 = .ok (.iaload, 1) := by decide +kernel
theorem dX11_end_13 : decode cX11_end 13 = .ok (.invokestatic 98, 3) := by decide +kernel
theorem dX11_end_16 : decode cX11_end 16 = .ok (.ifCond .ne 5, 3) := by decide +kernel
theorem dX11_end_19 : decode cX11_end 19 = .ok (.iconst (-1), 1) := by decide +kernel
theorem dX11_end_20 : decode cX11_end 20 = .ok (.ireturn, 1) := by decide +kernel
theorem dX11_end_21 : decode cX11_end 21 = .ok (.aload_n 0, 1) := by decide +kernel
theorem dX11_end_22 : decode cX11_end 22 = .ok (.getfield 13, 3) := by decide +kernel
theorem dX11_end_25 : decode cX11_end 25 = .ok (.iconst 0, 1) := by decide +kernel
theorem dX11_end_26 : decode cX11_end 26 = .ok (.iload_n 1, 1) := by decide +kernel
theorem dX11_end_27 : decode cX11_end 27 = .ok (.iastore, 1) := by decide +kernel
theorem dX11_end_28 : decode cX11_end 28 = .ok (.iload_n 1, 1) := by decide +kernel
theorem dX11_end_29 : decode cX11_end 29 = .ok (.ireturn, 1) := by decide +kernel
abbrev mX11_end : MI := (yX11_end, cX11_end, 2, (some .int), noE)
theorem okX11_end : cok mX11_end 1 := ⟨tw1359, tw11, by decide, by decide, by decide, by decide +kernel⟩
def fX11_end (M : Mem) (a0 a1 : Int) : Option (Int × Mem) :=
  if M.2.1 a0 = 10 then bM (mst M a0 0 0) fun M2 => if M2.2.1 (M2.1 a0 2) = 12 ∧ (0 : Int) ≤ 0 ∧ 0 < M2.2.2.1 (M2.1 a0 2) then (fX11_in M2 a1 0 (M2.1 (M2.1 a0 2) 0)).bind fun r5 => if r5 = 0 then (some ((-1), M2)) else (if M2.2.1 (M2.1 a0 2) = 12 ∧ (0 : Int) ≤ 0 ∧ 0 < M2.2.2.1 (M2.1 a0 2) then bM (mst M2 (M2.1 a0 2) 0 a1) fun M9 => some (a1, M9) else none) else none else none
set_option maxRecDepth 100000 in
set_option maxHeartbeats 4000000 in
theorem kX11_end (d : Nat) (hd : 1 ≤ d) (M : Mem) (a0 a1 : Int) : Ct mX11_end d 0 0 [pA a0, pI a1] M dIM (fX11_end M a0 a1) := by
  obtain ⟨d, rfl⟩ : ∃ k, d = k + 1 := ⟨d - 1, by omega⟩
  refine Ct.of 0 (fun _ _ _ => trivial) (by decide +kernel) rfl ?_
  unfold fX11_end
  refine v_aload_n dX11_end_0 rfl ?_
  refine v_iconst dX11_end_1 (by decide) ?_
  refine v_if (fun h1 => ?_)
  refine v_put (x := 0) 10 0 rfl inX11 (by decide) tw1193 (Or.inl rfl) rfl dX11_end_2 h1 rfl id ?_
  refine v_bM (fun M2 e3 => ?_)
  refine v_iload_n dX11_end_5 rfl ?_
  refine v_iconst dX11_end_6 (by decide) ?_
  refine v_aload_n dX11_end_7 rfl ?_
  refine v_get (v := pA (M2.1 a0 2)) 10 2 rfl inX11 (by decide) tw1195 dX11_end_8 (by rw [e3]; exact h1) rfl ?_
  refine v_iconst dX11_end_11 (by decide) ?_
  refine v_if (fun h4 => ?_)
  refine v_iaload h4 dX11_end_12 ?_
  refine v_cS (mi := mX11_end) (c0 := 0) (c1 := 0) (As := [pI a1, pI 0, pI (M2.1 (M2.1 a0 2) 0)]) (st := []) (kX11_in d (by omega) _ _ _ _) okX11_in (Or.inl tw1360) tw1361 rfl (Nat.le_of_ble_eq_true rfl) dX11_end_13 (fun r5 => [pI r5]) (fun r5 => M2) (fun _ => rfl) (fun _ => rfl) (fun r5 h6 => ?_) rfl
  refine v_if_ne (tgt := 21) dX11_end_16 (by decide) (fun c7 => ?_) (fun c7 => ?_)
  · refine v_iconst dX11_end_19 (by decide) ?_
    exact v_ireturn dX11_end_20 rfl rfl
  · refine v_aload_n dX11_end_21 rfl ?_
    refine v_get (v := pA (M2.1 a0 2)) 10 2 rfl inX11 (by decide) tw1195 dX11_end_22 (by rw [e3]; exact h1) rfl ?_
    refine v_iconst dX11_end_25 (by decide) ?_
    refine v_iload_n dX11_end_26 rfl ?_
    refine v_if (fun h8 => ?_)
    refine v_iastore h8 dX11_end_27 ?_
    refine v_bM (fun M9 e10 => ?_)
    refine v_iload_n dX11_end_28 rfl ?_
    exact v_ireturn dX11_end_29 rfl rfl
theorem dX11_see_0 : decode cX11_see 0 = .ok (.aload_n 0, 1) := by decide +kernel
theorem dX11_see_1 : decode cX11_see 1 = .ok (.getfield 106, 3) := by decide +kernel
theorem dX11_see_4 : decode cX11_see 4 = .ok (.aload_n 0, 1) := by decide +kernel
theorem dX11_see_5 : decode cX11_see 5 = .ok (.getfield 109, 3) := by decide +kernel
theorem dX11_see_8 : decode cX11_see 8 = .ok (.if_icmp .ge 19, 3) := by decide +kernel
theorem dX11_see_11 : decode cX11_see 11 = .ok (.aload_n 0, 1) := by decide +kernel
theorem dX11_see_12 : decode cX11_see 12 = .ok (.getfield 7, 3) := by decide +kernel
theorem dX11_see_15 : decode cX11_see 15 = .ok (.aload_n 0, 1) := by decide +kernel
theorem dX11_see_16 : decode cX11_see 16 = .ok (.getfield 106, 3) := by decide +kernel
theorem dX11_see_19 : decode cX11_see 19 = .ok (.baload, 1) := by decide +kernel
theorem dX11_see_20 : decode cX11_see 20 = .ok (.sipush 255, 3) := by decide +kernel
theorem dX11_see_23 : decode cX11_see 23 = .ok (.iand, 1) := by decide +kernel
theorem dX11_see_24 : decode cX11_see 24 = .ok (.goto 4, 3) := by decide +kernel
theorem dX11_see_27 : decode cX11_see 27 = .ok (.iconst (-1), 1) := by decide +kernel
theorem dX11_see_28 : decode cX11_see 28 = .ok (.ireturn, 1) := by decide +kernel
abbrev mX11_see : MI := (yX11_see, cX11_see, 1, (some .int), noE)
theorem okX11_see : cok mX11_see 0 := ⟨tw1390, tw11, by decide, by decide, by decide, by decide +kernel⟩
def fX11_see (M : Mem) (a0 : Int) : Option Int :=
  if M.2.1 a0 = 10 then if M.1 a0 10 < M.1 a0 11 then (if (M.2.1 (M.1 a0 1) = 11 ∨ M.2.1 (M.1 a0 1) = 13) ∧ (0 : Int) ≤ (M.1 a0 10) ∧ (M.1 a0 10) < M.2.2.1 (M.1 a0 1) then some (bAnd (M.1 (M.1 a0 1) (M.1 a0 10)) 255) else none) else (some (-1)) else none
set_option maxRecDepth 100000 in
set_option maxHeartbeats 4000000 in
theorem kX11_see (d : Nat) (hd : 0 ≤ d) (M : Mem) (a0 : Int) : Ct mX11_see d 0 0 [pA a0] M (dI M) (fX11_see M a0) := by
  refine Ct.of 0 (fun _ _ _ => trivial) (by decide +kernel) rfl ?_
  unfold fX11_see
  refine v_aload_n dX11_see_0 rfl ?_
  refine v_if (fun h1 => ?_)
  refine v_get (v := pI (M.1 a0 10)) 10 10 rfl inX11 (by decide) tw1203 dX11_see_1 h1 rfl ?_
  refine v_aload_n dX11_see_4 rfl ?_
  refine v_get (v := pI (M.1 a0 11)) 10 11 rfl inX11 (by decide) tw1204 dX11_see_5 h1 rfl ?_
  refine v_icmp_ge (tgt := 27) dX11_see_8 (by decide) (fun c2 => ?_) (fun c2 => ?_)
  · refine v_aload_n dX11_see_11 rfl ?_
    refine v_get (v := pA (M.1 a0 1)) 10 1 rfl inX11 (by decide) tw1194 dX11_see_12 h1 rfl ?_
    refine v_aload_n dX11_see_15 rfl ?_
    refine v_get (v := pI (M.1 a0 10)) 10 10 rfl inX11 (by decide) tw1203 dX11_see_16 h1 rfl ?_
    refine v_if (fun h3 => ?_)
    refine v_baload h3 dX11_see_19 ?_
    refine v_sipush dX11_see_20 (by decide) ?_
    refine v_iand dX11_see_23 ?_
    refine v_goto (tgt := 28) dX11_see_24 (by decide) ?_
    exact v_ireturn dX11_see_28 rfl rfl
  · refine v_iconst dX11_see_27 (by decide) ?_
    exact v_ireturn dX11_see_28 rfl rfl
theorem dX11_token_0 : decode cX11_token 0 = .ok (.aload_n 0, 1) := by decide +kernel
theorem dX11_token_1 : decode cX11_token 1 = .ok (.invokevirtual 112, 3) := by decide +kernel
theorem dX11_token_4 : decode cX11_token 4 = .ok (.bipush 10, 2) := by decide +kernel
theorem dX11_token_6 : decode cX11_token 6 = .ok (.if_icmp .eq 12, 3) := by decide +kernel
theorem dX11_token_9 : decode cX11_token 9 = .ok (.aload_n 0, 1) := by decide +kernel
theorem dX11_token_10 : decode cX11_token 10 = .ok (.invokevirtual 112, 3) := by decide +kernel
theorem dX11_token_13 : decode cX11_token 13 = .ok (.bipush 32, 2) := by decide +kernel
theorem dX11_token_15 : decode cX11_token 15 = .ok (.if_icmp .ne 16, 3) := by decide +kernel
theorem dX11_token_18 : decode cX11_token 18 = .ok (.aload_n 0, 1) := by decide +kernel
theorem dX11_token_19 : decode cX11_token 19 = .ok (.dup, 1) := by decide +kernel
theorem dX11_token_20 : decode cX11_token 20 = .ok (.getfield 106, 3) := by decide +kernel
theorem dX11_token_23 : decode cX11_token 23 = .ok (.iconst 1, 1) := by decide +kernel
theorem dX11_token_24 : decode cX11_token 24 = .ok (.iadd, 1) := by decide +kernel
theorem dX11_token_25 : decode cX11_token 25 = .ok (.putfield 106, 3) := by decide +kernel
theorem dX11_token_28 : decode cX11_token 28 = .ok (.goto (-28), 3) := by decide +kernel
theorem dX11_token_31 : decode cX11_token 31 = .ok (.aload_n 0, 1) := by decide +kernel
theorem dX11_token_32 : decode cX11_token 32 = .ok (.aload_n 0, 1) := by decide +kernel
theorem dX11_token_33 : decode cX11_token 33 = .ok (.getfield 106, 3) := by decide +kernel
theorem dX11_token_36 : decode cX11_token 36 = .ok (.putfield 116, 3) := by decide +kernel
theorem dX11_token_39 : decode cX11_token 39 = .ok (.aload_n 0, 1) := by decide +kernel
theorem dX11_token_40 : decode cX11_token 40 = .ok (.invokevirtual 112, 3) := by decide +kernel
theorem dX11_token_43 : decode cX11_token 43 = .ok (.istore_n 1, 1) := by decide +kernel
theorem dX11_token_44 : decode cX11_token 44 = .ok (.aload_n 0, 1) := by decide +kernel
theorem dX11_token_45 : decode cX11_token 45 = .ok (.lconst 0, 1) := by decide +kernel
theorem dX11_token_46 : decode cX11_token 46 = .ok (.putfield 119, 3) := by decide +kernel
theorem dX11_token_49 : decode cX11_token 49 = .ok (.iconst 0, 1) := by decide +kernel
theorem dX11_token_50 : decode cX11_token 50 = .ok (.istore_n 2, 1) := by decide +kernel
theorem dX11_token_51 : decode cX11_token 51 = .ok (.iload_n 1, 1) := by decide +kernel
theorem dX11_token_52 : decode cX11_token 52 = .ok (.ifCond .ge 11, 3) := by decide +kernel
theorem dX11_token_55 : decode cX11_token 55 = .ok (.aload_n 0, 1) := by decide +kernel
theorem dX11_token_56 : decode cX11_token 56 = .ok (.iconst 0, 1) := by decide +kernel
theorem dX11_token_57 : decode cX11_token 57 = .ok (.putfield 123, 3) := by decide +kernel
theorem dX11_token_60 : decode cX11_token 60 = .ok (.goto 206, 3) := by decide +kernel
theorem dX11_token_63 : decode cX11_token 63 = .ok (.iload_n 1, 1) := by decide +kernel
theorem dX11_token_64 : decode cX11_token 64 = .ok (.bipush 97, 2) := by decide +kernel
theorem dX11_token_66 : decode cX11_token 66 = .ok (.bipush 122, 2) := by decide +kernel
theorem dX11_token_68 : decode cX11_token 68 = .ok (.invokestatic 98, 3) := by decide +kernel
theorem dX11_token_71 : decode cX11_token 71 = .ok (.ifCond .eq 76, 3) := by decide +kernel
theorem dX11_token_74 : decode cX11_token 74 = .ok (.aload_n 0, 1) := by decide +kernel
theorem dX11_token_75 : decode cX11_token 75 = .ok (.invokevirtual 112, 3) := by decide +kernel
theorem dX11_token_78 : decode cX11_token 78 = .ok (.bipush 97, 2) := by decide +kernel
theorem dX11_token_80 : decode cX11_token 80 = .ok (.bipush 122, 2) := by decide +kernel
theorem dX11_token_82 : decode cX11_token 82 = .ok (.invokestatic 98, 3) := by decide +kernel
theorem dX11_token_85 : decode cX11_token 85 = .ok (.ifCond .eq 36, 3) := by decide +kernel
theorem dX11_token_88 : decode cX11_token 88 = .ok (.aload_n 0, 1) := by decide +kernel
theorem dX11_token_89 : decode cX11_token 89 = .ok (.aload_n 0, 1) := by decide +kernel
theorem dX11_token_90 : decode cX11_token 90 = .ok (.getfield 119, 3) := by decide +kernel
theorem dX11_token_93 : decode cX11_token 93 = .ok (.bipush 8, 2) := by decide +kernel
theorem dX11_token_95 : decode cX11_token 95 = .ok (.lshl, 1) := by decide +kernel
theorem dX11_token_96 : decode cX11_token 96 = .ok (.aload_n 0, 1) := by decide +kernel
theorem dX11_token_97 : decode cX11_token 97 = .ok (.invokevirtual 112, 3) := by decide +kernel
theorem dX11_token_100 : decode cX11_token 100 = .ok (.i2l, 1) := by decide +kernel
theorem dX11_token_101 : decode cX11_token 101 = .ok (.lor, 1) := by decide +kernel
theorem dX11_token_102 : decode cX11_token 102 = .ok (.putfield 119, 3) := by decide +kernel
theorem dX11_token_105 : decode cX11_token 105 = .ok (.aload_n 0, 1) := by decide +kernel
theorem dX11_token_106 : decode cX11_token 106 = .ok (.dup, 1) := by decide +kernel
theorem dX11_token_107 : decode cX11_token 107 = .ok (.getfield 106, 3) := by decide +kernel
theorem dX11_token_110 : decode cX11_token 110 = .ok (.iconst 1, 1) := by decide +kernel
theorem dX11_token_111 : decode cX11_token 111 = .ok (.iadd, 1) := by decide +kernel
theorem dX11_token_112 : decode cX11_token 112 = .ok (.putfield 106, 3) := by decide +kernel
theorem dX11_token_115 : decode cX11_token 115 = .ok (.iinc 2 1, 3) := by decide +kernel
theorem dX11_token_118 : decode cX11_token 118 = .ok (.goto (-44), 3) := by decide +kernel
theorem dX11_token_121 : decode cX11_token 121 = .ok (.aload_n 0, 1) := by decide +kernel
theorem dX11_token_122 : decode cX11_token 122 = .ok (.iload_n 2, 1) := by decide +kernel
theorem dX11_token_123 : decode cX11_token 123 = .ok (.bipush 8, 2) := by decide +kernel
theorem dX11_token_125 : decode cX11_token 125 = .ok (.if_icmp .le 7, 3) := by decide +kernel
theorem dX11_token_128 : decode cX11_token 128 = .ok (.lconst 0, 1) := by decide +kernel
theorem dX11_token_129 : decode cX11_token 129 = .ok (.goto 7, 3) := by decide +kernel
theorem dX11_token_132 : decode cX11_token 132 = .ok (.aload_n 0, 1) := by decide +kernel
theorem dX11_token_133 : decode cX11_token 133 = .ok (.getfield 119, 3) := by decide +kernel
theorem dX11_token_136 : decode cX11_token 136 = .ok (.putfield 119, 3) := by decide +kernel
theorem dX11_token_139 : decode cX11_token 139 = .ok (.aload_n 0, 1) := by decide +kernel
theorem dX11_token_140 : decode cX11_token 140 = .ok (.iconst 2, 1) := by decide +kernel
theorem dX11_token_141 : decode cX11_token 141 = .ok (.putfield 123, 3) := by decide +kernel
theorem dX11_token_144 : decode cX11_token 144 = .ok (.goto 122, 3) := by decide +kernel
theorem dX11_token_147 : decode cX11_token 147 = .ok (.iload_n 1, 1) := by decide +kernel
theorem dX11_token_148 : decode cX11_token 148 = .ok (.bipush 48, 2) := by decide +kernel
theorem dX11_token_150 : decode cX11_token 150 = .ok (.bipush 57, 2) := by decide +kernel
theorem dX11_token_152 : decode cX11_token 152 = .ok (.invokestatic 98, 3) := by decide +kernel
theorem dX11_token_155 : decode cX11_token 155 = .ok (.ifCond .eq 86, 3) := by decide +kernel
theorem dX11_token_158 : decode cX11_token 158 = .ok (.aload_n 0, 1) := by decide +kernel
theorem dX11_token_159 : decode cX11_token 159 = .ok (.iconst 0, 1) := by decide +kernel
theorem dX11_token_160 : decode cX11_token 160 = .ok (.putfield 126, 3) := by decide +kernel
theorem dX11_token_163 : decode cX11_token 163 = .ok (.aload_n 0, 1) := by decide +kernel
theorem dX11_token_164 : decode cX11_token 164 = .ok (.invokevirtual 112, 3) := by decide +kernel
theorem dX11_token_167 : decode cX11_token 167 = .ok (.bipush 48, 2) := by decide +kernel
theorem dX11_token_169 : decode cX11_token 169 = .ok (.bipush 57, 2) := by decide +kernel
theorem dX11_token_171 : decode cX11_token 171 = .ok (.invokestatic 98, 3) := by decide +kernel
theorem dX11_token_174 : decode cX11_token 174 = .ok (.ifCond .eq 50, 3) := by decide +kernel
theorem dX11_token_177 : decode cX11_token 177 = .ok (.aload_n 0, 1) := by decide +kernel
theorem dX11_token_178 : decode cX11_token 178 = .ok (.iload_n 2, 1) := by decide +kernel
theorem dX11_token_179 : decode cX11_token 179 = .ok (.iconst 2, 1) := by decide +kernel
theorem dX11_token_180 : decode cX11_token 180 = .ok (.if_icmp .ge 21, 3) := by decide +kernel
theorem dX11_token_183 : decode cX11_token 183 = .ok (.bipush 10, 2) := by decide +kernel
theorem dX11_token_185 : decode cX11_token 185 = .ok (.aload_n 0, 1) := by decide +kernel
theorem dX11_token_186 : decode cX11_token 186 = .ok (.getfield 126, 3) := by decide +kernel
theorem dX11_token_189 : decode cX11_token 189 = .ok (.imul, 1) := by decide +kernel
theorem dX11_token_190 : decode cX11_token 190 = .ok (.aload_n 0, 1) := by decide +kernel
theorem dX11_token_191 : decode cX11_token 191 = .ok (.invokevirtual 112, 3) := by decide +kernel
theorem dX11_token_194 : decode cX11_token 194 = .ok (.iadd, 1) := by decide +kernel
theorem dX11_token_195 : decode cX11_token 195 = .ok (.bipush 48, 2) := by decide +kernel
theorem dX11_token_197 : decode cX11_token 197 = .ok (.isub, 1) := by decide +kernel
theorem dX11_token_198 : decode cX11_token 198 = .ok (.goto 7, 3) := by decide +kernel
theorem dX11_token_201 : decode cX11_token 201 = .ok (.aload_n 0, 1) := by decide +kernel
theorem dX11_token_202 : decode cX11_token 202 = .ok (.getfield 126, 3) := by decide +kernel
theorem dX11_token_205 : decode cX11_token 205 = .ok (.putfield 126, 3) := by decide +kernel
theorem dX11_token_208 : decode cX11_token 208 = .ok (.aload_n 0, 1) := by decide +kernel
theorem dX11_token_209 : decode cX11_token 209 = .ok (.dup, 1) := by decide +kernel
theorem dX11_token_210 : decode cX11_token 210 = .ok (.getfield 106, 3) := by decide +kernel
theorem dX11_token_213 : decode cX11_token 213 = .ok (.iconst 1, 1) := by decide +kernel
theorem dX11_token_214 : decode cX11_token 214 = .ok (.iadd, 1) := by decide +kernel
theorem dX11_token_215 : decode cX11_token 215 = .ok (.putfield 106, 3) := by decide +kernel
theorem dX11_token_218 : decode cX11_token 218 = .ok (.iinc 2 1, 3) := by decide +kernel
theorem dX11_token_221 : decode cX11_token 221 = .ok (.goto (-58), 3) := by decide +kernel
theorem dX11_token_224 : decode cX11_token 224 = .ok (.aload_n 0, 1) := by decide +kernel
theorem dX11_token_225 : decode cX11_token 225 = .ok (.iload_n 2, 1) := by decide +kernel
theorem dX11_token_226 : decode cX11_token 226 = .ok (.iconst 2, 1) := by decide +kernel
theorem dX11_token_227 : decode cX11_token 227 = .ok (.if_icmp .le 7, 3) := by decide +kernel
theorem dX11_token_230 : decode cX11_token 230 = .ok (.iconst 1, 1) := by decide +kernel
theorem dX11_token_231 : decode cX11_token 231 = .ok (.goto 4, 3) := by decide +kernel
theorem dX11_token_234 : decode cX11_token 234 = .ok (.iconst 3, 1) := by decide +kernel
theorem dX11_token_235 : decode cX11_token 235 = .ok (.putfield 123, 3) := by decide +kernel
theorem dX11_token_238 : decode cX11_token 238 = .ok (.goto 28, 3) := by decide +kernel
theorem dX11_token_241 : decode cX11_token 241 = .ok (.aload_n 0, 1) := by decide +kernel
theorem dX11_token_242 : decode cX11_token 242 = .ok (.dup, 1) := by decide +kernel
theorem dX11_token_243 : decode cX11_token 243 = .ok (.getfield 106, 3) := by decide +kernel
theorem dX11_token_246 : decode cX11_token 246 = .ok (.iconst 1, 1) := by decide +kernel
theorem dX11_token_247 : decode cX11_token 247 = .ok (.iadd, 1) := by decide +kernel
theorem dX11_token_248 : decode cX11_token 248 = .ok (.putfield 106, 3) := by decide +kernel
theorem dX11_token_251 : decode cX11_token 251 = .ok (.aload_n 0, 1) := by decide +kernel
theorem dX11_token_252 : decode cX11_token 252 = .ok (.iload_n 1, 1) := by decide +kernel
theorem dX11_token_253 : decode cX11_token 253 = .ok (.bipush 59, 2) := by decide +kernel
theorem dX11_token_255 : decode cX11_token 255 = .ok (.if_icmp .ne 7, 3) := by decide +kernel
theorem dX11_token_258 : decode cX11_token 258 = .ok (.iconst 4, 1) := by decide +kernel
theorem dX11_token_259 : decode cX11_token 259 = .ok (.goto 4, 3) := by decide +kernel
theorem dX11_token_262 : decode cX11_token 262 = .ok (.iconst 1, 1) := by decide +kernel
theorem dX11_token_263 : decode cX11_token 263 = .ok (.putfield 123, 3) := by decide +kernel
theorem dX11_token_266 : decode cX11_token 266 = .ok (.return_, 1) := by decide +kernel
abbrev mX11_token : MI := (yX11_token, cX11_token, 3, none, noE)
theorem okX11_token : cok mX11_token 0 := ⟨tw1386, tw11, by decide, by decide, by decide, by decide +kernel⟩
def fX11_token (M : Mem) (a0 : Int) : Option Mem :=
  iterC (fun (rec1 : Mem → Option Mem) (s2 : Mem) => if s2.2.1 a0 = 10 then (fX11_see s2 a0).bind fun r3 => jn (fun (t7 : Unit) => bM (mst s2 a0 10 (w32 ((s2.1 a0 10) + 1))) fun M8 => rec1 M8) (fun (j6 : Unit → Option Mem) => if r3 = 10 then (j6 ()) else ((fX11_see s2 a0).bind fun r11 => if r11 = 32 then (j6 ()) else (bM (mst s2 a0 12 (s2.1 a0 10)) fun M14 => (fX11_see M14 a0).bind fun r16 => bM (mst M14 a0 15 0) fun M18 => if r16 < 0 then (bM (mst M18 a0 13 0) fun M21 => some M21) else ((fX11_in M18 r16 97 122).bind fun r23 => if r23 = 0 then ((fX11_in M18 r16 48 57).bind fun r26 => if r26 = 0 then (bM (mst M18 a0 10 (w32 ((M18.1 a0 10) + 1))) fun M29 => jn (fun (t32 : Int) => bM (mst M29 a0 13 t32) fun M33 => some M33) (fun (j31 : Int → Option Mem) => if r16 = 59 then (j31 4) else (j31 1))) else (bM (mst M18 a0 14 0) fun M36 => iterC (fun (rec38 : (Int × Mem) → Option Mem) (s39 : Int × Mem) => if s39.2.2.1 a0 = 10 then (fX11_see s39.2 a0).bind fun r40 => (fX11_in s39.2 r40 48 57).bind fun r43 => if r43 = 0 then (jn (fun (t47 : Int) => bM (mst s39.2 a0 13 t47) fun M48 => some M48) (fun (j46 : Int → Option Mem) => if 2 < s39.1 then (j46 1) else (j46 3))) else (jn (fun (t52 : Int) => bM (mst s39.2 a0 14 t52) fun M53 => bM (mst M53 a0 10 (w32 ((M53.1 a0 10) + 1))) fun M55 => rec38 (w32 (s39.1 + 1), M55)) (fun (j51 : Int → Option Mem) => if s39.1 < 2 then ((fX11_see s39.2 a0).bind fun r58 => j51 (w32 ((w32 ((w32 (10 * (s39.2.1 a0 14))) + r58)) - 48))) else (j51 (s39.2.1 a0 14)))) else none) BIG (0, M36))) else (iterC (fun (rec60 : (Int × Mem) → Option Mem) (s61 : Int × Mem) => if s61.2.2.1 a0 = 10 then (fX11_see s61.2 a0).bind fun r62 => (fX11_in s61.2 r62 97 122).bind fun r65 => if r65 = 0 then (jn (fun (t69 : Int) => bM (mst s61.2 a0 15 t69) fun M70 => bM (mst M70 a0 13 2) fun M72 => some M72) (fun (j68 : Int → Option Mem) => if 8 < s61.1 then (j68 0) else (j68 (s61.2.1 a0 15)))) else ((fX11_see s61.2 a0).bind fun r75 => bM (mst s61.2 a0 15 (lOr (lShl (s61.2.1 a0 15) 8) r75)) fun M77 => bM (mst M77 a0 10 (w32 ((M77.1 a0 10) + 1))) fun M79 => rec60 (w32 (s61.1 + 1), M79)) else none) BIG (0, M18)))))) else none) BIG M
set_option maxRecDepth 100000 in
set_option maxHeartbeats 4000000 in
theorem kX11_token (d : Nat) (hd : 1 ≤ d) (M : Mem) (a0 : Int) : Ct mX11_token d 0 0 [pA a0] M dV (fX11_token M a0) := by
  obtain ⟨d, rfl⟩ : ∃ k, d = k + 1 := ⟨d - 1, by omega⟩
  refine Ct.of 2 (fun _ _ _ => trivial) (by decide +kernel) rfl ?_
  unfold fX11_token
  refine v_loop (fun (s2 : Mem) => [some (pA a0), none, none]) (fun (s2 : Mem) => s2) (s0 := M) ?_
  intro rec1 hrec1 s2
  refine v_aload_n dX11_token_0 rfl ?_
  refine v_if (fun h5 => ?_)
  refine v_cV (mi := mX11_token) (c0 := 0) (c1 := 0) (As := []) (st := []) (kX11_see d (by omega) _ _) rfl h5 rfl okX11_see (Or.inl tw1387) tw1389 tp33 rfl (Nat.le_of_ble_eq_true rfl) dX11_token_1 (fun r3 => [pI r3]) (fun r3 => s2) (fun _ => rfl) (fun _ => rfl) (fun r3 h4 => ?_) rfl
  refine v_bipush dX11_token_4 (by decide) ?_
  refine v_join (fun (t7 : Unit) => [some (pA a0), none, none]) (fun (t7 : Unit) => []) (fun (t7 : Unit) => s2) 18 (fun t7 => ?_) (fun j6 hj6 => ?_)
  · refine v_aload_n dX11_token_18 rfl ?_
    refine v_dup dX11_token_19 (by intro z hz; cases hz) ?_
    refine v_get (v := pI (s2.1 a0 10)) 10 10 rfl inX11 (by decide) tw1203 dX11_token_20 h5 rfl ?_
    refine v_iconst dX11_token_23 (by decide) ?_
    refine v_iadd dX11_token_24 ?_
    refine v_put (x := w32 ((s2.1 a0 10) + 1)) 10 10 rfl inX11 (by decide) tw1203 (Or.inl rfl) rfl dX11_token_25 h5 rfl id ?_
    refine v_bM (fun M8 e9 => ?_)
    refine v_goto (tgt := 0) dX11_token_28 (by decide) ?_
    exact hrec1 M8
  · refine v_icmp_eq (tgt := 18) dX11_token_6 (by decide) (fun c10 => ?_) (fun c10 => ?_)
    · exact hj6 ()
    · refine v_aload_n dX11_token_9 rfl ?_
      refine v_cV (mi := mX11_token) (c0 := 0) (c1 := 0) (As := []) (st := []) (kX11_see d (by omega) _ _) rfl h5 rfl okX11_see (Or.inl tw1387) tw1389 tp33 rfl (Nat.le_of_ble_eq_true rfl) dX11_token_10 (fun r11 => [pI r11]) (fun r11 => s2) (fun _ => rfl) (fun _ => rfl) (fun r11 h12 => ?_) rfl
      refine v_bipush dX11_token_13 (by decide) ?_
      refine v_icmp_ne (tgt := 31) dX11_token_15 (by decide) (fun c13 => ?_) (fun c13 => ?_)
      · exact hj6 ()
      · refine v_aload_n dX11_token_31 rfl ?_
        refine v_aload_n dX11_token_32 rfl ?_
        refine v_get (v := pI (s2.1 a0 10)) 10 10 rfl inX11 (by decide) tw1203 dX11_token_33 h5 rfl ?_
        refine v_put (x := s2.1 a0 10) 10 12 rfl inX11 (by decide) tw1205 (Or.inl rfl) rfl dX11_token_36 h5 rfl id ?_
        refine v_bM (fun M14 e15 => ?_)
        refine v_aload_n dX11_token_39 rfl ?_
        refine v_cV (mi := mX11_token) (c0 := 0) (c1 := 0) (As := []) (st := []) (kX11_see d (by omega) _ _) rfl (by rw [e15]; exact h5) rfl okX11_see (Or.inl tw1387) tw1389 tp33 rfl (Nat.le_of_ble_eq_true rfl) dX11_token_40 (fun r16 => [pI r16]) (fun r16 => M14) (fun _ => rfl) (fun _ => rfl) (fun r16 h17 => ?_) rfl
        refine v_istore_n (ls' := [some (pA a0), some (pI r16), none]) dX11_token_43 (by decide) rfl ?_
        refine v_aload_n dX11_token_44 rfl ?_
        refine v_lconst0 dX11_token_45 ?_
        refine v_put (x := 0) 10 15 rfl inX11 (by decide) tw1208 (Or.inl rfl) rfl dX11_token_46 (by rw [e15]; exact h5) rfl id ?_
        refine v_bM (fun M18 e19 => ?_)
        refine v_iconst dX11_token_49 (by decide) ?_
        refine v_istore_n (ls' := [some (pA a0), some (pI r16), some (pI 0)]) dX11_token_50 (by decide) rfl ?_
        refine v_iload_n dX11_token_51 rfl ?_
        refine v_if_ge (tgt := 63) dX11_token_52 (by decide) (fun c20 => ?_) (fun c20 => ?_)
        · refine v_aload_n dX11_token_55 rfl ?_
          refine v_iconst dX11_token_56 (by decide) ?_
          refine v_put (x := 0) 10 13 rfl inX11 (by decide) tw1206 (Or.inl rfl) rfl dX11_token_57 (by rw [e19, e15]; exact h5) rfl id ?_
          refine v_bM (fun M21 e22 => ?_)
          refine v_goto (tgt := 266) dX11_token_60 (by decide) ?_
          exact v_return dX11_token_266 rfl rfl
        · refine v_iload_n dX11_token_63 rfl ?_
          refine v_bipush dX11_token_64 (by decide) ?_
          refine v_bipush dX11_token_66 (by decide) ?_
          refine v_cS (mi := mX11_token) (c0 := 0) (c1 := 0) (As := [pI r16, pI 97, pI 122]) (st := []) (kX11_in d (by omega) _ _ _ _) okX11_in (Or.inl tw1360) tw1361 rfl (Nat.le_of_ble_eq_true rfl) dX11_token_68 (fun r23 => [pI r23]) (fun r23 => M18) (fun _ => rfl) (fun _ => rfl) (fun r23 h24 => ?_) rfl
          refine v_if_eq (tgt := 147) dX11_token_71 (by decide) (fun c25 => ?_) (fun c25 => ?_)
          · refine v_iload_n dX11_token_147 rfl ?_
            refine v_bipush dX11_token_148 (by decide) ?_
            refine v_bipush dX11_token_150 (by decide) ?_
            refine v_cS (mi := mX11_token) (c0 := 0) (c1 := 0) (As := [pI r16, pI 48, pI 57]) (st := []) (kX11_in d (by omega) _ _ _ _) okX11_in (Or.inl tw1360) tw1361 rfl (Nat.le_of_ble_eq_true rfl) dX11_token_152 (fun r26 => [pI r26]) (fun r26 => M18) (fun _ => rfl) (fun _ => rfl) (fun r26 h27 => ?_) rfl
            refine v_if_eq (tgt := 241) dX11_token_155 (by decide) (fun c28 => ?_) (fun c28 => ?_)
            · refine v_aload_n dX11_token_241 rfl ?_
              refine v_dup dX11_token_242 (by intro z hz; cases hz) ?_
              refine v_get (v := pI (M18.1 a0 10)) 10 10 rfl inX11 (by decide) tw1203 dX11_token_243 (by rw [e19, e15]; exact h5) rfl ?_
              refine v_iconst dX11_token_246 (by decide) ?_
              refine v_iadd dX11_token_247 ?_
              refine v_put (x := w32 ((M18.1 a0 10) + 1)) 10 10 rfl inX11 (by decide) tw1203 (Or.inl rfl) rfl dX11_token_248 (by rw [e19, e15]; exact h5) rfl id ?_
              refine v_bM (fun M29 e30 => ?_)
              refine v_aload_n dX11_token_251 rfl ?_
              refine v_iload_n dX11_token_252 rfl ?_
              refine v_bipush dX11_token_253 (by decide) ?_
              refine v_join (fun (t32 : Int) => [none, none, none]) (fun (t32 : Int) => [pI t32, pA a0]) (fun (t32 : Int) => M29) 263 (fun t32 => ?_) (fun j31 hj31 => ?_)
              · refine v_put (x := t32) 10 13 rfl inX11 (by decide) tw1206 (Or.inl rfl) rfl dX11_token_263 (by rw [e30, e19, e15]; exact h5) rfl id ?_
                refine v_bM (fun M33 e34 => ?_)
                exact v_return dX11_token_266 rfl rfl
              · refine v_icmp_ne (tgt := 262) dX11_token_255 (by decide) (fun c35 => ?_) (fun c35 => ?_)
                · refine v_iconst dX11_token_258 (by decide) ?_
                  refine v_goto (tgt := 263) dX11_token_259 (by decide) ?_
                  exact v_drop [none, none, none] (ls_n (ls_n (ls_n ls_e))) (hj31 4)
                · refine v_iconst dX11_token_262 (by decide) ?_
                  exact v_drop [none, none, none] (ls_n (ls_n (ls_n ls_e))) (hj31 1)
            · refine v_aload_n dX11_token_158 rfl ?_
              refine v_iconst dX11_token_159 (by decide) ?_
              refine v_put (x := 0) 10 14 rfl inX11 (by decide) tw1207 (Or.inl rfl) rfl dX11_token_160 (by rw [e19, e15]; exact h5) rfl id ?_
              refine v_bM (fun M36 e37 => ?_)
              refine v_drop [some (pA a0), none, some (pI 0)] (ls_s (ls_n (ls_s ls_e))) ?_
              refine v_loop (fun (s39 : Int × Mem) => [some (pA a0), none, some (pI s39.1)]) (fun (s39 : Int × Mem) => s39.2) (s0 := (0, M36)) ?_
              intro rec38 hrec38 s39
              refine v_aload_n dX11_token_163 rfl ?_
              refine v_if (fun h42 => ?_)
              refine v_cV (mi := mX11_token) (c0 := 0) (c1 := 0) (As := []) (st := []) (kX11_see d (by omega) _ _) rfl h42 rfl okX11_see (Or.inl tw1387) tw1389 tp33 rfl (Nat.le_of_ble_eq_true rfl) dX11_token_164 (fun r40 => [pI r40]) (fun r40 => s39.2) (fun _ => rfl) (fun _ => rfl) (fun r40 h41 => ?_) rfl
              refine v_bipush dX11_token_167 (by decide) ?_
              refine v_bipush dX11_token_169 (by decide) ?_
              refine v_cS (mi := mX11_token) (c0 := 0) (c1 := 0) (As := [pI r40, pI 48, pI 57]) (st := []) (kX11_in d (by omega) _ _ _ _) okX11_in (Or.inl tw1360) tw1361 rfl (Nat.le_of_ble_eq_true rfl) dX11_token_171 (fun r43 => [pI r43]) (fun r43 => s39.2) (fun _ => rfl) (fun _ => rfl) (fun r43 h44 => ?_) rfl
              refine v_if_eq (tgt := 224) dX11_token_174 (by decide) (fun c45 => ?_) (fun c45 => ?_)
              · refine v_aload_n dX11_token_224 rfl ?_
                refine v_iload_n dX11_token_225 rfl ?_
                refine v_iconst dX11_token_226 (by decide) ?_
                refine v_join (fun (t47 : Int) => [none, none, none]) (fun (t47 : Int) => [pI t47, pA a0]) (fun (t47 : Int) => s39.2) 235 (fun t47 => ?_) (fun j46 hj46 => ?_)
                · refine v_put (x := t47) 10 13 rfl inX11 (by decide) tw1206 (Or.inl rfl) rfl dX11_token_235 h42 rfl id ?_
                  refine v_bM (fun M48 e49 => ?_)
                  refine v_goto (tgt := 266) dX11_token_238 (by decide) ?_
                  exact v_return dX11_token_266 rfl rfl
                · refine v_icmp_le (tgt := 234) dX11_token_227 (by decide) (fun c50 => ?_) (fun c50 => ?_)
                  · refine v_iconst dX11_token_230 (by decide) ?_
                    refine v_goto (tgt := 235) dX11_token_231 (by decide) ?_
                    exact v_drop [none, none, none] (ls_n (ls_n (ls_n ls_e))) (hj46 1)
                  · refine v_iconst dX11_token_234 (by decide) ?_
                    exact v_drop [none, none, none] (ls_n (ls_n (ls_n ls_e))) (hj46 3)
              · refine v_aload_n dX11_token_177 rfl ?_
                refine v_iload_n dX11_token_178 rfl ?_
                refine v_iconst dX11_token_179 (by decide) ?_
                refine v_join (fun (t52 : Int) => [some (pA a0), none, some (pI s39.1)]) (fun (t52 : Int) => [pI t52, pA a0]) (fun (t52 : Int) => s39.2) 205 (fun t52 => ?_) (fun j51 hj51 => ?_)
                · refine v_put (x := t52) 10 14 rfl inX11 (by decide) tw1207 (Or.inl rfl) rfl dX11_token_205 h42 rfl id ?_
                  refine v_bM (fun M53 e54 => ?_)
                  refine v_aload_n dX11_token_208 rfl ?_
                  refine v_dup dX11_token_209 (by intro z hz; cases hz) ?_
                  refine v_get (v := pI (M53.1 a0 10)) 10 10 rfl inX11 (by decide) tw1203 dX11_token_210 (by rw [e54]; exact h42) rfl ?_
                  refine v_iconst dX11_token_213 (by decide) ?_
                  refine v_iadd dX11_token_214 ?_
                  refine v_put (x := w32 ((M53.1 a0 10) + 1)) 10 10 rfl inX11 (by decide) tw1203 (Or.inl rfl) rfl dX11_token_215 (by rw [e54]; exact h42) rfl id ?_
                  refine v_bM (fun M55 e56 => ?_)
                  refine v_iinc (ls' := [some (pA a0), none, some (pI (w32 (s39.1 + 1)))]) dX11_token_218 (by decide) rfl rfl ?_
                  refine v_goto (tgt := 163) dX11_token_221 (by decide) ?_
                  exact hrec38 (w32 (s39.1 + 1), M55)
                · refine v_icmp_ge (tgt := 201) dX11_token_180 (by decide) (fun c57 => ?_) (fun c57 => ?_)
                  · refine v_bipush dX11_token_183 (by decide) ?_
                    refine v_aload_n dX11_token_185 rfl ?_
                    refine v_get (v := pI (s39.2.1 a0 14)) 10 14 rfl inX11 (by decide) tw1207 dX11_token_186 h42 rfl ?_
                    refine v_imul dX11_token_189 ?_
                    refine v_aload_n dX11_token_190 rfl ?_
                    refine v_cV (mi := mX11_token) (c0 := 0) (c1 := 0) (As := []) (st := [pI (w32 (10 * (s39.2.1 a0 14))), pA a0]) (kX11_see d (by omega) _ _) rfl h42 rfl okX11_see (Or.inl tw1387) tw1389 tp33 rfl (Nat.le_of_ble_eq_true rfl) dX11_token_191 (fun r58 => [pI r58, pI (w32 (10 * (s39.2.1 a0 14))), pA a0]) (fun r58 => s39.2) (fun _ => rfl) (fun _ => rfl) (fun r58 h59 => ?_) rfl
                    refine v_iadd dX11_token_194 ?_
                    refine v_bipush dX11_token_195 (by decide) ?_
                    refine v_isub dX11_token_197 ?_
                    refine v_goto (tgt := 205) dX11_token_198 (by decide) ?_
                    exact hj51 (w32 ((w32 ((w32 (10 * (s39.2.1 a0 14))) + r58)) - 48))
                  · refine v_aload_n dX11_token_201 rfl ?_
                    refine v_get (v := pI (s39.2.1 a0 14)) 10 14 rfl inX11 (by decide) tw1207 dX11_token_202 h42 rfl ?_
                    exact hj51 (s39.2.1 a0 14)
          · refine v_drop [some (pA a0), none, some (pI 0)] (ls_s (ls_n (ls_s ls_e))) ?_
            refine v_loop (fun (s61 : Int × Mem) => [some (pA a0), none, some (pI s61.1)]) (fun (s61 : Int × Mem) => s61.2) (s0 := (0, M18)) ?_
            intro rec60 hrec60 s61
            refine v_aload_n dX11_token_74 rfl ?_
            refine v_if (fun h64 => ?_)
            refine v_cV (mi := mX11_token) (c0 := 0) (c1 := 0) (As := []) (st := []) (kX11_see d (by omega) _ _) rfl h64 rfl okX11_see (Or.inl tw1387) tw1389 tp33 rfl (Nat.le_of_ble_eq_true rfl) dX11_token_75 (fun r62 => [pI r62]) (fun r62 => s61.2) (fun _ => rfl) (fun _ => rfl) (fun r62 h63 => ?_) rfl
            refine v_bipush dX11_token_78 (by decide) ?_
            refine v_bipush dX11_token_80 (by decide) ?_
            refine v_cS (mi := mX11_token) (c0 := 0) (c1 := 0) (As := [pI r62, pI 97, pI 122]) (st := []) (kX11_in d (by omega) _ _ _ _) okX11_in (Or.inl tw1360) tw1361 rfl (Nat.le_of_ble_eq_true rfl) dX11_token_82 (fun r65 => [pI r65]) (fun r65 => s61.2) (fun _ => rfl) (fun _ => rfl) (fun r65 h66 => ?_) rfl
            refine v_if_eq (tgt := 121) dX11_token_85 (by decide) (fun c67 => ?_) (fun c67 => ?_)
            · refine v_aload_n dX11_token_121 rfl ?_
              refine v_iload_n dX11_token_122 rfl ?_
              refine v_bipush dX11_token_123 (by decide) ?_
              refine v_join (fun (t69 : Int) => [some (pA a0), none, none]) (fun (t69 : Int) => [pL t69, pA a0]) (fun (t69 : Int) => s61.2) 136 (fun t69 => ?_) (fun j68 hj68 => ?_)
              · refine v_put (x := t69) 10 15 rfl inX11 (by decide) tw1208 (Or.inl rfl) rfl dX11_token_136 h64 rfl id ?_
                refine v_bM (fun M70 e71 => ?_)
                refine v_aload_n dX11_token_139 rfl ?_
                refine v_iconst dX11_token_140 (by decide) ?_
                refine v_put (x := 2) 10 13 rfl inX11 (by decide) tw1206 (Or.inl rfl) rfl dX11_token_141 (by rw [e71]; exact h64) rfl id ?_
                refine v_bM (fun M72 e73 => ?_)
                refine v_goto (tgt := 266) dX11_token_144 (by decide) ?_
                exact v_return dX11_token_266 rfl rfl
              · refine v_icmp_le (tgt := 132) dX11_token_125 (by decide) (fun c74 => ?_) (fun c74 => ?_)
                · refine v_lconst0 dX11_token_128 ?_
                  refine v_goto (tgt := 136) dX11_token_129 (by decide) ?_
                  exact v_drop [some (pA a0), none, none] (ls_s (ls_n (ls_n ls_e))) (hj68 0)
                · refine v_aload_n dX11_token_132 rfl ?_
                  refine v_get (v := pL (s61.2.1 a0 15)) 10 15 rfl inX11 (by decide) tw1208 dX11_token_133 h64 rfl ?_
                  exact v_drop [some (pA a0), none, none] (ls_s (ls_n (ls_n ls_e))) (hj68 (s61.2.1 a0 15))
            · refine v_aload_n dX11_token_88 rfl ?_
              refine v_aload_n dX11_token_89 rfl ?_
              refine v_get (v := pL (s61.2.1 a0 15)) 10 15 rfl inX11 (by decide) tw1208 dX11_token_90 h64 rfl ?_
              refine v_bipush dX11_token_93 (by decide) ?_
              refine v_lshl dX11_token_95 ?_
              refine v_aload_n dX11_token_96 rfl ?_
              refine v_cV (mi := mX11_token) (c0 := 0) (c1 := 0) (As := []) (st := [pL (lShl (s61.2.1 a0 15) 8), pA a0]) (kX11_see d (by omega) _ _) rfl h64 rfl okX11_see (Or.inl tw1387) tw1389 tp33 rfl (Nat.le_of_ble_eq_true rfl) dX11_token_97 (fun r75 => [pI r75, pL (lShl (s61.2.1 a0 15) 8), pA a0]) (fun r75 => s61.2) (fun _ => rfl) (fun _ => rfl) (fun r75 h76 => ?_) rfl
              refine v_i2l dX11_token_100 ?_
              refine v_lor dX11_token_101 ?_
              refine v_put (x := lOr (lShl (s61.2.1 a0 15) 8) r75) 10 15 rfl inX11 (by decide) tw1208 (Or.inl rfl) rfl dX11_token_102 h64 rfl id ?_
              refine v_bM (fun M77 e78 => ?_)
              refine v_aload_n dX11_token_105 rfl ?_
              refine v_dup dX11_token_106 (by intro z hz; cases hz) ?_
              refine v_get (v := pI (M77.1 a0 10)) 10 10 rfl inX11 (by decide) tw1203 dX11_token_107 (by rw [e78]; exact h64) rfl ?_
              refine v_iconst dX11_token_110 (by decide) ?_
              refine v_iadd dX11_token_111 ?_
              refine v_put (x := w32 ((M77.1 a0 10) + 1)) 10 10 rfl inX11 (by decide) tw1203 (Or.inl rfl) rfl dX11_token_112 (by rw [e78]; exact h64) rfl id ?_
              refine v_bM (fun M79 e80 => ?_)
              refine v_iinc (ls' := [some (pA a0), none, some (pI (w32 (s61.1 + 1)))]) dX11_token_115 (by decide) rfl rfl ?_
              refine v_goto (tgt := 74) dX11_token_118 (by decide) ?_
              exact hrec60 (w32 (s61.1 + 1), M79)
theorem dX11_fails_0 : decode cX11_fails 0 = .ok (.aload_n 0, 1) := by decide +kernel
theorem dX11_fails_1 : decode cX11_fails 1 = .ok (.aload_n 0, 1) := by decide +kernel
theorem dX11_fails_2 : decode cX11_fails 2 = .ok (.getfield 116, 3) := by decide +kernel
theorem dX11_fails_5 : decode cX11_fails 5 = .ok (.putfield 129, 3) := by decide +kernel
theorem dX11_fails_8 : decode cX11_fails 8 = .ok (.iconst 0, 1) := by decide +kernel
theorem dX11_fails_9 : decode cX11_fails 9 = .ok (.ireturn, 1) := by decide +kernel
abbrev mX11_fails : MI := (yX11_fails, cX11_fails, 1, (some .boolean), noE)
theorem okX11_fails : cok mX11_fails 0 := ⟨tw1415, tw11, by decide, by decide, by decide, by decide +kernel⟩
def fX11_fails (M : Mem) (a0 : Int) : Option (Int × Mem) :=
  if M.2.1 a0 = 10 then bM (mst M a0 16 (M.1 a0 12)) fun M2 => some (0, M2) else none
set_option maxRecDepth 100000 in
set_option maxHeartbeats 4000000 in
theorem kX11_fails (d : Nat) (hd : 0 ≤ d) (M : Mem) (a0 : Int) : Ct mX11_fails d 0 0 [pA a0] M dIM (fX11_fails M a0) := by
  refine Ct.of 0 (fun _ _ _ => trivial) (by decide +kernel) rfl ?_
  unfold fX11_fails
  refine v_aload_n dX11_fails_0 rfl ?_
  refine v_aload_n dX11_fails_1 rfl ?_
  refine v_if (fun h1 => ?_)
  refine v_get (v := pI (M.1 a0 12)) 10 12 rfl inX11 (by decide) tw1205 dX11_fails_2 h1 rfl ?_
  refine v_put (x := M.1 a0 12) 10 16 rfl inX11 (by decide) tw1209 (Or.inl rfl) rfl dX11_fails_5 h1 rfl id ?_
  refine v_bM (fun M2 e3 => ?_)
  refine v_iconst dX11_fails_8 (by decide) ?_
  exact v_breturn dX11_fails_9 rfl (by decide) rfl
theorem dX11_later_0 : decode cX11_later 0 = .ok (.aload_n 0, 1) := by decide +kernel
theorem dX11_later_1 : decode cX11_later 1 = .ok (.getfield 132, 3) := by decide +kernel
theorem dX11_later_4 : decode cX11_later 4 = .ok (.ifCond .eq 27, 3) := by decide +kernel
theorem dX11_later_7 : decode cX11_later 7 = .ok (.iload_n 2, 1) := by decide +kernel
theorem dX11_later_8 : decode cX11_later 8 = .ok (.aload_n 0, 1) := by decide +kernel
theorem dX11_later_9 : decode cX11_later 9 = .ok (.getfield 135, 3) := by decide +kernel
theorem dX11_later_12 : decode cX11_later 12 = .ok (.if_icmp .lt 19, 3) := by decide +kernel
theorem dX11_later_15 : decode cX11_later 15 = .ok (.iload_n 2, 1) := by decide +kernel
theorem dX11_later_16 : decode cX11_later 16 = .ok (.aload_n 0, 1) := by decide +kernel
theorem dX11_later_17 : decode cX11_later 17 = .ok (.getfield 135, 3) := by decide +kernel
theorem dX11_later_20 : decode cX11_later 20 = .ok (.if_icmp .ne 21, 3) := by decide +kernel
theorem dX11_later_23 : decode cX11_later 23 = .ok (.iload_n 1, 1) := by decide +kernel
theorem dX11_later_24 : decode cX11_later 24 = .ok (.aload_n 0, 1) := by decide +kernel
theorem dX11_later_25 : decode cX11_later 25 = .ok (.getfield 132, 3) := by decide +kernel
theorem dX11_later_28 : decode cX11_later 28 = .ok (.if_icmp .ge 13, 3) := by decide +kernel
theorem dX11_later_31 : decode cX11_later 31 = .ok (.aload_n 0, 1) := by decide +kernel
theorem dX11_later_32 : decode cX11_later 32 = .ok (.iload_n 1, 1) := by decide +kernel
theorem dX11_later_33 : decode cX11_later 33 = .ok (.putfield 132, 3) := by decide +kernel
theorem dX11_later_36 : decode cX11_later 36 = .ok (.aload_n 0, 1) := by decide +kernel
theorem dX11_later_37 : decode cX11_later 37 = .ok (.iload_n 2, 1) := by decide +kernel
theorem dX11_later_38 : decode cX11_later 38 = .ok (.putfield 135, 3) := by decide +kernel
theorem dX11_later_41 : decode cX11_later 41 = .ok (.return_, 1) := by decide +kernel
abbrev mX11_later : MI := (yX11_later, cX11_later, 3, none, noE)
theorem okX11_later : cok mX11_later 2 := ⟨tw1423, tw11, by decide, by decide, by decide, by decide +kernel⟩
def fX11_later (M : Mem) (a0 a1 a2 : Int) : Option Mem :=
  if M.2.1 a0 = 10 then jn (fun (t3 : Unit) => bM (mst M a0 17 a1) fun M4 => bM (mst M4 a0 18 a2) fun M6 => some M6) (fun (j2 : Unit → Option Mem) => if M.1 a0 17 = 0 then (j2 ()) else (if a2 < M.1 a0 18 then (j2 ()) else (if a2 = M.1 a0 18 then (if a1 < M.1 a0 17 then (j2 ()) else (some M)) else (some M)))) else none
set_option maxRecDepth 100000 in
set_option maxHeartbeats 4000000 in
theorem kX11_later (d : Nat) (hd : 0 ≤ d) (M : Mem) (a0 a1 a2 : Int) : Ct mX11_later d 0 0 [pA a0, pI a1, pI a2] M dV (fX11_later M a0 a1 a2) := by
  refine Ct.of 0 (fun _ _ _ => trivial) (by decide +kernel) rfl ?_
  unfold fX11_later
  refine v_aload_n dX11_later_0 rfl ?_
  refine v_if (fun h1 => ?_)
  refine v_get (v := pI (M.1 a0 17)) 10 17 rfl inX11 (by decide) tw1210 dX11_later_1 h1 rfl ?_
  refine v_join (fun (t3 : Unit) => [some (pA a0), some (pI a1), some (pI a2)]) (fun (t3 : Unit) => []) (fun (t3 : Unit) => M) 31 (fun t3 => ?_) (fun j2 hj2 => ?_)
  · refine v_aload_n dX11_later_31 rfl ?_
    refine v_iload_n dX11_later_32 rfl ?_
    refine v_put (x := a1) 10 17 rfl inX11 (by decide) tw1210 (Or.inl rfl) rfl dX11_later_33 h1 rfl id ?_
    refine v_bM (fun M4 e5 => ?_)
    refine v_aload_n dX11_later_36 rfl ?_
    refine v_iload_n dX11_later_37 rfl ?_
    refine v_put (x := a2) 10 18 rfl inX11 (by decide) tw1211 (Or.inl rfl) rfl dX11_later_38 (by rw [e5]; exact h1) rfl id ?_
    refine v_bM (fun M6 e7 => ?_)
    exact v_return dX11_later_41 rfl rfl
  · refine v_if_eq (tgt := 31) dX11_later_4 (by decide) (fun c8 => ?_) (fun c8 => ?_)
    · exact hj2 ()
    · refine v_iload_n dX11_later_7 rfl ?_
      refine v_aload_n dX11_later_8 rfl ?_
      refine v_get (v := pI (M.1 a0 18)) 10 18 rfl inX11 (by decide) tw1211 dX11_later_9 h1 rfl ?_
      refine v_icmp_lt (tgt := 31) dX11_later_12 (by decide) (fun c9 => ?_) (fun c9 => ?_)
      · exact hj2 ()
      · refine v_iload_n dX11_later_15 rfl ?_
        refine v_aload_n dX11_later_16 rfl ?_
        refine v_get (v := pI (M.1 a0 18)) 10 18 rfl inX11 (by decide) tw1211 dX11_later_17 h1 rfl ?_
        refine v_icmp_ne (tgt := 41) dX11_later_20 (by decide) (fun c10 => ?_) (fun c10 => ?_)
        · refine v_iload_n dX11_later_23 rfl ?_
          refine v_aload_n dX11_later_24 rfl ?_
          refine v_get (v := pI (M.1 a0 17)) 10 17 rfl inX11 (by decide) tw1210 dX11_later_25 h1 rfl ?_
          refine v_icmp_ge (tgt := 41) dX11_later_28 (by decide) (fun c11 => ?_) (fun c11 => ?_)
          · exact hj2 ()
          · exact v_return dX11_later_41 rfl rfl
        · exact v_return dX11_later_41 rfl rfl
theorem dX11_takeBut_0 : decode cX11_takeBut 0 = .ok (.aload_n 0, 1) := by decide +kernel
theorem dX11_takeBut_1 : decode cX11_takeBut 1 = .ok (.getfield 123, 3) := by decide +kernel
theorem dX11_takeBut_4 : decode cX11_takeBut 4 = .ok (.iconst 3, 1) := by decide +kernel
theorem dX11_takeBut_5 : decode cX11_takeBut 5 = .ok (.if_icmp .eq 8, 3) := by decide +kernel
theorem dX11_takeBut_8 : decode cX11_takeBut 8 = .ok (.aload_n 0, 1) := by decide +kernel
theorem dX11_takeBut_9 : decode cX11_takeBut 9 = .ok (.invokevirtual 138, 3) := by decide +kernel
theorem dX11_takeBut_12 : decode cX11_takeBut 12 = .ok (.ireturn, 1) := by decide +kernel
theorem dX11_takeBut_13 : decode cX11_takeBut 13 = .ok (.aload_n 0, 1) := by decide +kernel
theorem dX11_takeBut_14 : decode cX11_takeBut 14 = .ok (.getfield 41, 3) := by decide +kernel
theorem dX11_takeBut_17 : decode cX11_takeBut 17 = .ok (.iload_n 1, 1) := by decide +kernel
theorem dX11_takeBut_18 : decode cX11_takeBut 18 = .ok (.aload_n 0, 1) := by decide +kernel
theorem dX11_takeBut_19 : decode cX11_takeBut 19 = .ok (.getfield 126, 3) := by decide +kernel
theorem dX11_takeBut_22 : decode cX11_takeBut 22 = .ok (.iastore, 1) := by decide +kernel
theorem dX11_takeBut_23 : decode cX11_takeBut 23 = .ok (.aload_n 0, 1) := by decide +kernel
theorem dX11_takeBut_24 : decode cX11_takeBut 24 = .ok (.getfield 126, 3) := by decide +kernel
theorem dX11_takeBut_27 : decode cX11_takeBut 27 = .ok (.iload_n 2, 1) := by decide +kernel
theorem dX11_takeBut_28 : decode cX11_takeBut 28 = .ok (.iload_n 3, 1) := by decide +kernel
theorem dX11_takeBut_29 : decode cX11_takeBut 29 = .ok (.invokestatic 98, 3) := by decide +kernel
theorem dX11_takeBut_32 : decode cX11_takeBut 32 = .ok (.ifCond .eq 12, 3) := by decide +kernel
theorem dX11_takeBut_35 : decode cX11_takeBut 35 = .ok (.aload_n 0, 1) := by decide +kernel
theorem dX11_takeBut_36 : decode cX11_takeBut 36 = .ok (.getfield 126, 3) := by decide +kernel
theorem dX11_takeBut_39 : decode cX11_takeBut 39 = .ok (.iload 4, 2) := by decide +kernel
theorem dX11_takeBut_41 : decode cX11_takeBut 41 = .ok (.if_icmp .ne 17, 3) := by decide +kernel
theorem dX11_takeBut_44 : decode cX11_takeBut 44 = .ok (.aload_n 0, 1) := by decide +kernel
theorem dX11_takeBut_45 : decode cX11_takeBut 45 = .ok (.iconst 2, 1) := by decide +kernel
theorem dX11_takeBut_46 : decode cX11_takeBut 46 = .ok (.aload_n 0, 1) := by decide +kernel
theorem dX11_takeBut_47 : decode cX11_takeBut 47 = .ok (.getfield 116, 3) := by decide +kernel
theorem dX11_takeBut_50 : decode cX11_takeBut 50 = .ok (.invokevirtual 142, 3) := by decide +kernel
theorem dX11_takeBut_53 : decode cX11_takeBut 53 = .ok (.aload_n 0, 1) := by decide +kernel
theorem dX11_takeBut_54 : decode cX11_takeBut 54 = .ok (.iconst 0, 1) := by decide +kernel
theorem dX11_takeBut_55 : decode cX11_takeBut 55 = .ok (.putfield 146, 3) := by decide +kernel
theorem dX11_takeBut_58 : decode cX11_takeBut 58 = .ok (.aload_n 0, 1) := by decide +kernel
theorem dX11_takeBut_59 : decode cX11_takeBut 59 = .ok (.invokevirtual 150, 3) := by decide +kernel
theorem dX11_takeBut_62 : decode cX11_takeBut 62 = .ok (.iconst 1, 1) := by decide +kernel
theorem dX11_takeBut_63 : decode cX11_takeBut 63 = .ok (.ireturn, 1) := by decide +kernel
abbrev mX11_takeBut : MI := (yX11_takeBut, cX11_takeBut, 5, (some .boolean), noE)
theorem okX11_takeBut : cok mX11_takeBut 4 := ⟨tw1439, tw11, by decide, by decide, by decide, by decide +kernel⟩
def fX11_takeBut (M : Mem) (a0 a1 a2 a3 a4 : Int) : Option (Int × Mem) :=
  if M.2.1 a0 = 10 then if M.1 a0 13 = 3 then (if M.2.1 (M.1 a0 20) = 12 ∧ (0 : Int) ≤ a1 ∧ a1 < M.2.2.1 (M.1 a0 20) then bM (mst M (M.1 a0 20) a1 (M.1 a0 14)) fun M4 => (fX11_in M4 (M4.1 a0 14) a2 a3).bind fun r6 => jn (fun (t9 : Mem) => if t9.2.1 a0 = 10 then (fX11_token t9 a0).bind fun r10 => some (1, r10) else none) (fun (j8 : Mem → Option (Int × Mem)) => jn (fun (t14 : Unit) => (fX11_later M4 a0 2 (M4.1 a0 12)).bind fun r15 => if r15.2.1 a0 = 10 then bM (mst r15 a0 23 0) fun M18 => j8 M18 else none) (fun (j13 : Unit → Option (Int × Mem)) => if r6 = 0 then (j13 ()) else (if M4.1 a0 14 = a4 then (j13 ()) else (j8 M4)))) else none) else ((fX11_fails M a0).bind fun r22 => if r22.1 = 0 ∨ r22.1 = 1 then some (r22.1, r22.2) else none) else none
set_option maxRecDepth 100000 in
set_option maxHeartbeats 4000000 in
theorem kX11_takeBut (d : Nat) (hd : 2 ≤ d) (M : Mem) (a0 a1 a2 a3 a4 : Int) : Ct mX11_takeBut d 0 0 [pA a0, pI a1, pI a2, pI a3, pI a4] M dIM (fX11_takeBut M a0 a1 a2 a3 a4) := by
  obtain ⟨d, rfl⟩ : ∃ k, d = k + 1 := ⟨d - 1, by omega⟩
  refine Ct.of 0 (fun _ _ _ => trivial) (by decide +kernel) rfl ?_
  unfold fX11_takeBut
  refine v_aload_n dX11_takeBut_0 rfl ?_
  refine v_if (fun h1 => ?_)
  refine v_get (v := pI (M.1 a0 13)) 10 13 rfl inX11 (by decide) tw1206 dX11_takeBut_1 h1 rfl ?_
  refine v_iconst dX11_takeBut_4 (by decide) ?_
  refine v_icmp_eq (tgt := 13) dX11_takeBut_5 (by decide) (fun c2 => ?_) (fun c2 => ?_)
  · refine v_aload_n dX11_takeBut_13 rfl ?_
    refine v_get (v := pA (M.1 a0 20)) 10 20 rfl inX11 (by decide) tw1213 dX11_takeBut_14 h1 rfl ?_
    refine v_iload_n dX11_takeBut_17 rfl ?_
    refine v_aload_n dX11_takeBut_18 rfl ?_
    refine v_get (v := pI (M.1 a0 14)) 10 14 rfl inX11 (by decide) tw1207 dX11_takeBut_19 h1 rfl ?_
    refine v_if (fun h3 => ?_)
    refine v_iastore h3 dX11_takeBut_22 ?_
    refine v_bM (fun M4 e5 => ?_)
    refine v_aload_n dX11_takeBut_23 rfl ?_
    refine v_get (v := pI (M4.1 a0 14)) 10 14 rfl inX11 (by decide) tw1207 dX11_takeBut_24 (by rw [e5]; exact h1) rfl ?_
    refine v_iload_n dX11_takeBut_27 rfl ?_
    refine v_iload_n dX11_takeBut_28 rfl ?_
    refine v_cS (mi := mX11_takeBut) (c0 := 0) (c1 := 0) (As := [pI (M4.1 a0 14), pI a2, pI a3]) (st := []) (kX11_in d (by omega) _ _ _ _) okX11_in (Or.inl tw1360) tw1361 rfl (Nat.le_of_ble_eq_true rfl) dX11_takeBut_29 (fun r6 => [pI r6]) (fun r6 => M4) (fun _ => rfl) (fun _ => rfl) (fun r6 h7 => ?_) rfl
    refine v_join (fun (t9 : Mem) => [some (pA a0), none, none, none, none]) (fun (t9 : Mem) => []) (fun (t9 : Mem) => t9) 58 (fun t9 => ?_) (fun j8 hj8 => ?_)
    · refine v_aload_n dX11_takeBut_58 rfl ?_
      refine v_if (fun h12 => ?_)
      refine v_cV (mi := mX11_takeBut) (c0 := 0) (c1 := 0) (As := []) (st := []) (kX11_token d (by omega) _ _) rfl h12 rfl okX11_token (Or.inl tw1383) tw1385 tp32 rfl (Nat.le_of_ble_eq_true rfl) dX11_takeBut_59 (fun r10 => []) (fun r10 => r10) (fun _ => rfl) (fun _ => rfl) (fun r10 h11 => ?_) rfl
      refine v_iconst dX11_takeBut_62 (by decide) ?_
      exact v_breturn dX11_takeBut_63 rfl (by decide) rfl
    · refine v_join (fun (t14 : Unit) => [some (pA a0), none, none, none, none]) (fun (t14 : Unit) => []) (fun (t14 : Unit) => M4) 44 (fun t14 => ?_) (fun j13 hj13 => ?_)
      · refine v_aload_n dX11_takeBut_44 rfl ?_
        refine v_iconst dX11_takeBut_45 (by decide) ?_
        refine v_aload_n dX11_takeBut_46 rfl ?_
        refine v_get (v := pI (M4.1 a0 12)) 10 12 rfl inX11 (by decide) tw1205 dX11_takeBut_47 (by rw [e5]; exact h1) rfl ?_
        refine v_cV (mi := mX11_takeBut) (c0 := 0) (c1 := 0) (As := [pI 2, pI (M4.1 a0 12)]) (st := []) (kX11_later d (by omega) _ _ _ _) rfl (by rw [e5]; exact h1) rfl okX11_later (Or.inl tw1420) tw1422 tp39 rfl (Nat.le_of_ble_eq_true rfl) dX11_takeBut_50 (fun r15 => []) (fun r15 => r15) (fun _ => rfl) (fun _ => rfl) (fun r15 h16 => ?_) rfl
        refine v_aload_n dX11_takeBut_53 rfl ?_
        refine v_iconst dX11_takeBut_54 (by decide) ?_
        refine v_if (fun h17 => ?_)
        refine v_put (x := 0) 10 23 rfl inX11 (by decide) tw1216 (Or.inl rfl) rfl dX11_takeBut_55 h17 rfl (fun _ => by first | exact Or.inl rfl | exact Or.inr rfl) ?_
        refine v_bM (fun M18 e19 => ?_)
        exact hj8 M18
      · refine v_if_eq (tgt := 44) dX11_takeBut_32 (by decide) (fun c20 => ?_) (fun c20 => ?_)
        · exact v_drop [some (pA a0), none, none, none, none] (ls_s (ls_n (ls_n (ls_n (ls_n ls_e))))) (hj13 ())
        · refine v_aload_n dX11_takeBut_35 rfl ?_
          refine v_get (v := pI (M4.1 a0 14)) 10 14 rfl inX11 (by decide) tw1207 dX11_takeBut_36 (by rw [e5]; exact h1) rfl ?_
          refine v_iload dX11_takeBut_39 rfl ?_
          refine v_icmp_ne (tgt := 58) dX11_takeBut_41 (by decide) (fun c21 => ?_) (fun c21 => ?_)
          · exact v_drop [some (pA a0), none, none, none, none] (ls_s (ls_n (ls_n (ls_n (ls_n ls_e))))) (hj13 ())
          · exact v_drop [some (pA a0), none, none, none, none] (ls_s (ls_n (ls_n (ls_n (ls_n ls_e))))) (hj8 M4)
  · refine v_aload_n dX11_takeBut_8 rfl ?_
    refine v_cV (mi := mX11_takeBut) (c0 := 0) (c1 := 0) (As := []) (st := []) (kX11_fails d (by omega) _ _) rfl h1 rfl okX11_fails (Or.inl tw1412) tw1414 tp37 rfl (Nat.le_of_ble_eq_true rfl) dX11_takeBut_9 (fun r22 => [pI r22.1]) (fun r22 => r22.2) (fun _ => rfl) (fun _ => rfl) (fun r22 h23 => ?_) rfl
    refine v_if (fun h24 => ?_)
    exact v_breturn dX11_takeBut_12 rfl h24 rfl
theorem dX11_take_0 : decode cX11_take 0 = .ok (.aload_n 0, 1) := by decide +kernel
theorem dX11_take_1 : decode cX11_take 1 = .ok (.iload_n 1, 1) := by decide +kernel
theorem dX11_take_2 : decode cX11_take 2 = .ok (.iload_n 2, 1) := by decide +kernel
theorem dX11_take_3 : decode cX11_take 3 = .ok (.iload_n 3, 1) := by decide +kernel
theorem dX11_take_4 : decode cX11_take 4 = .ok (.iconst (-1), 1) := by decide +kernel
theorem dX11_take_5 : decode cX11_take 5 = .ok (.invokevirtual 153, 3) := by decide +kernel
theorem dX11_take_8 : decode cX11_take 8 = .ok (.ireturn, 1) := by decide +kernel
abbrev mX11_take : MI := (yX11_take, cX11_take, 4, (some .boolean), noE)
theorem okX11_take : cok mX11_take 3 := ⟨tw1435, tw11, by decide, by decide, by decide, by decide +kernel⟩
def fX11_take (M : Mem) (a0 a1 a2 a3 : Int) : Option (Int × Mem) :=
  if M.2.1 a0 = 10 then (fX11_takeBut M a0 a1 a2 a3 (-1)).bind fun r1 => if r1.1 = 0 ∨ r1.1 = 1 then some (r1.1, r1.2) else none else none
set_option maxRecDepth 100000 in
set_option maxHeartbeats 4000000 in
theorem kX11_take (d : Nat) (hd : 3 ≤ d) (M : Mem) (a0 a1 a2 a3 : Int) : Ct mX11_take d 0 0 [pA a0, pI a1, pI a2, pI a3] M dIM (fX11_take M a0 a1 a2 a3) := by
  obtain ⟨d, rfl⟩ : ∃ k, d = k + 1 := ⟨d - 1, by omega⟩
  refine Ct.of 0 (fun _ _ _ => trivial) (by decide +kernel) rfl ?_
  unfold fX11_take
  refine v_aload_n dX11_take_0 rfl ?_
  refine v_iload_n dX11_take_1 rfl ?_
  refine v_iload_n dX11_take_2 rfl ?_
  refine v_iload_n dX11_take_3 rfl ?_
  refine v_iconst dX11_take_4 (by decide) ?_
  refine v_if (fun h3 => ?_)
  refine v_cV (mi := mX11_take) (c0 := 0) (c1 := 0) (As := [pI a1, pI a2, pI a3, pI (-1)]) (st := []) (kX11_takeBut d (by omega) _ _ _ _ _ _) rfl h3 rfl okX11_takeBut (Or.inl tw1436) tw1438 tp43 rfl (Nat.le_of_ble_eq_true rfl) dX11_take_5 (fun r1 => [pI r1.1]) (fun r1 => r1.2) (fun _ => rfl) (fun _ => rfl) (fun r1 h2 => ?_) rfl
  refine v_if (fun h4 => ?_)
  exact v_breturn dX11_take_8 rfl h4 rfl
theorem dX11_takeHouse_0 : decode cX11_takeHouse 0 = .ok (.aload_n 0, 1) := by decide +kernel
theorem dX11_takeHouse_1 : decode cX11_takeHouse 1 = .ok (.iload_n 1, 1) := by decide +kernel
theorem dX11_takeHouse_2 : decode cX11_takeHouse 2 = .ok (.iconst 0, 1) := by decide +kernel
theorem dX11_takeHouse_3 : decode cX11_takeHouse 3 = .ok (.iconst 5, 1) := by decide +kernel
theorem dX11_takeHouse_4 : decode cX11_takeHouse 4 = .ok (.invokevirtual 157, 3) := by decide +kernel
theorem dX11_takeHouse_7 : decode cX11_takeHouse 7 = .ok (.ifCond .ne 5, 3) := by decide +kernel
theorem dX11_takeHouse_10 : decode cX11_takeHouse 10 = .ok (.iconst 0, 1) := by decide +kernel
theorem dX11_takeHouse_11 : decode cX11_takeHouse 11 = .ok (.ireturn, 1) := by decide +kernel
theorem dX11_takeHouse_12 : decode cX11_takeHouse 12 = .ok (.aload_n 0, 1) := by decide +kernel
theorem dX11_takeHouse_13 : decode cX11_takeHouse 13 = .ok (.aload_n 0, 1) := by decide +kernel
theorem dX11_takeHouse_14 : decode cX11_takeHouse 14 = .ok (.getfield 160, 3) := by decide +kernel
theorem dX11_takeHouse_17 : decode cX11_takeHouse 17 = .ok (.aload_n 0, 1) := by decide +kernel
theorem dX11_takeHouse_18 : decode cX11_takeHouse 18 = .ok (.getfield 41, 3) := by decide +kernel
theorem dX11_takeHouse_21 : decode cX11_takeHouse 21 = .ok (.iload_n 1, 1) := by decide +kernel
theorem dX11_takeHouse_22 : decode cX11_takeHouse 22 = .ok (.iaload, 1) := by decide +kernel
theorem dX11_takeHouse_23 : decode cX11_takeHouse 23 = .ok (.invokestatic 163, 3) := by decide +kernel
theorem dX11_takeHouse_26 : decode cX11_takeHouse 26 = .ok (.putfield 160, 3) := by decide +kernel
theorem dX11_takeHouse_29 : decode cX11_takeHouse 29 = .ok (.iconst 1, 1) := by decide +kernel
theorem dX11_takeHouse_30 : decode cX11_takeHouse 30 = .ok (.ireturn, 1) := by decide +kernel
abbrev mX11_takeHouse : MI := (yX11_takeHouse, cX11_takeHouse, 2, (some .boolean), noE)
theorem okX11_takeHouse : cok mX11_takeHouse 1 := ⟨tw1431, tw11, by decide, by decide, by decide, by decide +kernel⟩
def fX11_takeHouse (M : Mem) (a0 a1 : Int) : Option (Int × Mem) :=
  if M.2.1 a0 = 10 then (fX11_take M a0 a1 0 5).bind fun r1 => if r1.1 = 0 then (some (0, r1.2)) else (if r1.2.2.1 a0 = 10 then if r1.2.2.1 (r1.2.1 a0 20) = 12 ∧ (0 : Int) ≤ a1 ∧ a1 < r1.2.2.2.1 (r1.2.1 a0 20) then (fX11_greater r1.2 (r1.2.1 a0 21) (r1.2.1 (r1.2.1 a0 20) a1)).bind fun r7 => bM (mst r1.2 a0 21 r7) fun M9 => some (1, M9) else none else none) else none
set_option maxRecDepth 100000 in
set_option maxHeartbeats 4000000 in
theorem kX11_takeHouse (d : Nat) (hd : 4 ≤ d) (M : Mem) (a0 a1 : Int) : Ct mX11_takeHouse d 0 0 [pA a0, pI a1] M dIM (fX11_takeHouse M a0 a1) := by
  obtain ⟨d, rfl⟩ : ∃ k, d = k + 1 := ⟨d - 1, by omega⟩
  refine Ct.of 0 (fun _ _ _ => trivial) (by decide +kernel) rfl ?_
  unfold fX11_takeHouse
  refine v_aload_n dX11_takeHouse_0 rfl ?_
  refine v_iload_n dX11_takeHouse_1 rfl ?_
  refine v_iconst dX11_takeHouse_2 (by decide) ?_
  refine v_iconst dX11_takeHouse_3 (by decide) ?_
  refine v_if (fun h3 => ?_)
  refine v_cV (mi := mX11_takeHouse) (c0 := 0) (c1 := 0) (As := [pI a1, pI 0, pI 5]) (st := []) (kX11_take d (by omega) _ _ _ _ _) rfl h3 rfl okX11_take (Or.inl tw1432) tw1434 tp42 rfl (Nat.le_of_ble_eq_true rfl) dX11_takeHouse_4 (fun r1 => [pI r1.1]) (fun r1 => r1.2) (fun _ => rfl) (fun _ => rfl) (fun r1 h2 => ?_) rfl
  refine v_if_ne (tgt := 12) dX11_takeHouse_7 (by decide) (fun c4 => ?_) (fun c4 => ?_)
  · refine v_iconst dX11_takeHouse_10 (by decide) ?_
    exact v_breturn dX11_takeHouse_11 rfl (by decide) rfl
  · refine v_aload_n dX11_takeHouse_12 rfl ?_
    refine v_aload_n dX11_takeHouse_13 rfl ?_
    refine v_if (fun h5 => ?_)
    refine v_get (v := pI (r1.2.1 a0 21)) 10 21 rfl inX11 (by decide) tw1214 dX11_takeHouse_14 h5 rfl ?_
    refine v_aload_n dX11_takeHouse_17 rfl ?_
    refine v_get (v := pA (r1.2.1 a0 20)) 10 20 rfl inX11 (by decide) tw1213 dX11_takeHouse_18 h5 rfl ?_
    refine v_iload_n dX11_takeHouse_21 rfl ?_
    refine v_if (fun h6 => ?_)
    refine v_iaload h6 dX11_takeHouse_22 ?_
    refine v_cS (mi := mX11_takeHouse) (c0 := 0) (c1 := 0) (As := [pI (r1.2.1 a0 21), pI (r1.2.1 (r1.2.1 a0 20) a1)]) (st := [pA a0]) (kX11_greater d (by omega) _ _ _) okX11_greater (Or.inl tw1440) tw1441 rfl (Nat.le_of_ble_eq_true rfl) dX11_takeHouse_23 (fun r7 => [pI r7, pA a0]) (fun r7 => r1.2) (fun _ => rfl) (fun _ => rfl) (fun r7 h8 => ?_) rfl
    refine v_put (x := r7) 10 21 rfl inX11 (by decide) tw1214 (Or.inl rfl) rfl dX11_takeHouse_26 h5 rfl id ?_
    refine v_bM (fun M9 e10 => ?_)
    refine v_iconst dX11_takeHouse_29 (by decide) ?_
    exact v_breturn dX11_takeHouse_30 rfl (by decide) rfl
theorem dX11_full_0 : decode cX11_full 0 = .ok (.aload_n 0, 1) := by decide +kernel
theorem dX11_full_1 : decode cX11_full 1 = .ok (.getfield 38, 3) := by decide +kernel
theorem dX11_full_4 : decode cX11_full 4 = .ok (.iload_n 1, 1) := by decide +kernel
theorem dX11_full_5 : decode cX11_full 5 = .ok (.iaload, 1) := by decide +kernel
theorem dX11_full_6 : decode cX11_full 6 = .ok (.iload_n 2, 1) := by decide +kernel
theorem dX11_full_7 : decode cX11_full 7 = .ok (.if_icmp .ne 9, 3) := by decide +kernel
theorem dX11_full_10 : decode cX11_full 10 = .ok (.aload_n 0, 1) := by decide +kernel
theorem dX11_full_11 : decode cX11_full 11 = .ok (.iconst 3, 1) := by decide +kernel
theorem dX11_full_12 : decode cX11_full 12 = .ok (.iload_n 3, 1) := by decide +kernel
theorem dX11_full_13 : decode cX11_full 13 = .ok (.invokevirtual 142, 3) := by decide +kernel
theorem dX11_full_16 : decode cX11_full 16 = .ok (.return_, 1) := by decide +kernel
abbrev mX11_full : MI := (yX11_full, cX11_full, 4, none, noE)
theorem okX11_full : cok mX11_full 3 := ⟨tw1419, tw11, by decide, by decide, by decide, by decide +kernel⟩
def fX11_full (M : Mem) (a0 a1 a2 a3 : Int) : Option Mem :=
  if M.2.1 a0 = 10 then if M.2.1 (M.1 a0 19) = 12 ∧ (0 : Int) ≤ a1 ∧ a1 < M.2.2.1 (M.1 a0 19) then if M.1 (M.1 a0 19) a1 = a2 then ((fX11_later M a0 3 a3).bind fun r4 => some r4) else (some M) else none else none
set_option maxRecDepth 100000 in
set_option maxHeartbeats 4000000 in
theorem kX11_full (d : Nat) (hd : 1 ≤ d) (M : Mem) (a0 a1 a2 a3 : Int) : Ct mX11_full d 0 0 [pA a0, pI a1, pI a2, pI a3] M dV (fX11_full M a0 a1 a2 a3) := by
  obtain ⟨d, rfl⟩ : ∃ k, d = k + 1 := ⟨d - 1, by omega⟩
  refine Ct.of 0 (fun _ _ _ => trivial) (by decide +kernel) rfl ?_
  unfold fX11_full
  refine v_aload_n dX11_full_0 rfl ?_
  refine v_if (fun h1 => ?_)
  refine v_get (v := pA (M.1 a0 19)) 10 19 rfl inX11 (by decide) tw1212 dX11_full_1 h1 rfl ?_
  refine v_iload_n dX11_full_4 rfl ?_
  refine v_if (fun h2 => ?_)
  refine v_iaload h2 dX11_full_5 ?_
  refine v_iload_n dX11_full_6 rfl ?_
  refine v_icmp_ne (tgt := 16) dX11_full_7 (by decide) (fun c3 => ?_) (fun c3 => ?_)
  · refine v_aload_n dX11_full_10 rfl ?_
    refine v_iconst dX11_full_11 (by decide) ?_
    refine v_iload_n dX11_full_12 rfl ?_
    refine v_cV (mi := mX11_full) (c0 := 0) (c1 := 0) (As := [pI 3, pI a3]) (st := []) (kX11_later d (by omega) _ _ _ _) rfl h1 rfl okX11_later (Or.inl tw1420) tw1422 tp39 rfl (Nat.le_of_ble_eq_true rfl) dX11_full_13 (fun r4 => []) (fun r4 => r4) (fun _ => rfl) (fun _ => rfl) (fun r4 h5 => ?_) rfl
    exact v_return dX11_full_16 rfl rfl
  · exact v_return dX11_full_16 rfl rfl
theorem dX11_keep_0 : decode cX11_keep 0 = .ok (.aload_n 0, 1) := by decide +kernel
theorem dX11_keep_1 : decode cX11_keep 1 = .ok (.getfield 38, 3) := by decide +kernel
theorem dX11_keep_4 : decode cX11_keep 4 = .ok (.iload_n 1, 1) := by decide +kernel
theorem dX11_keep_5 : decode cX11_keep 5 = .ok (.iaload, 1) := by decide +kernel
theorem dX11_keep_6 : decode cX11_keep 6 = .ok (.istore 5, 2) := by decide +kernel
theorem dX11_keep_8 : decode cX11_keep 8 = .ok (.iload 5, 2) := by decide +kernel
theorem dX11_keep_10 : decode cX11_keep 10 = .ok (.iload 4, 2) := by decide +kernel
theorem dX11_keep_12 : decode cX11_keep 12 = .ok (.if_icmp .ne 4, 3) := by decide +kernel
theorem dX11_keep_15 : decode cX11_keep 15 = .ok (.return_, 1) := by decide +kernel
theorem dX11_keep_16 : decode cX11_keep 16 = .ok (.iconst 0, 1) := by decide +kernel
theorem dX11_keep_17 : decode cX11_keep 17 = .ok (.istore 6, 2) := by decide +kernel
theorem dX11_keep_19 : decode cX11_keep 19 = .ok (.iload 6, 2) := by decide +kernel
theorem dX11_keep_21 : decode cX11_keep 21 = .ok (.iload_n 3, 1) := by decide +kernel
theorem dX11_keep_22 : decode cX11_keep 22 = .ok (.if_icmp .ge 30, 3) := by decide +kernel
theorem dX11_keep_25 : decode cX11_keep 25 = .ok (.aload_n 0, 1) := by decide +kernel
theorem dX11_keep_26 : decode cX11_keep 26 = .ok (.getfield 38, 3) := by decide +kernel
theorem dX11_keep_29 : decode cX11_keep 29 = .ok (.iload_n 2, 1) := by decide +kernel
theorem dX11_keep_30 : decode cX11_keep 30 = .ok (.iload_n 3, 1) := by decide +kernel
theorem dX11_keep_31 : decode cX11_keep 31 = .ok (.iload 5, 2) := by decide +kernel
theorem dX11_keep_33 : decode cX11_keep 33 = .ok (.imul, 1) := by decide +kernel
theorem dX11_keep_34 : decode cX11_keep 34 = .ok (.iadd, 1) := by decide +kernel
theorem dX11_keep_35 : decode cX11_keep 35 = .ok (.iload 6, 2) := by decide +kernel
theorem dX11_keep_37 : decode cX11_keep 37 = .ok (.iadd, 1) := by decide +kernel
theorem dX11_keep_38 : decode cX11_keep 38 = .ok (.aload_n 0, 1) := by decide +kernel
theorem dX11_keep_39 : decode cX11_keep 39 = .ok (.getfield 41, 3) := by decide +kernel
theorem dX11_keep_42 : decode cX11_keep 42 = .ok (.iload 6, 2) := by decide +kernel
theorem dX11_keep_44 : decode cX11_keep 44 = .ok (.iaload, 1) := by decide +kernel
theorem dX11_keep_45 : decode cX11_keep 45 = .ok (.iastore, 1) := by decide +kernel
theorem dX11_keep_46 : decode cX11_keep 46 = .ok (.iinc 6 1, 3) := by decide +kernel
theorem dX11_keep_49 : decode cX11_keep 49 = .ok (.goto (-30), 3) := by decide +kernel
theorem dX11_keep_52 : decode cX11_keep 52 = .ok (.aload_n 0, 1) := by decide +kernel
theorem dX11_keep_53 : decode cX11_keep 53 = .ok (.getfield 38, 3) := by decide +kernel
theorem dX11_keep_56 : decode cX11_keep 56 = .ok (.iload_n 1, 1) := by decide +kernel
theorem dX11_keep_57 : decode cX11_keep 57 = .ok (.dup2, 1) := by decide +kernel
theorem dX11_keep_58 : decode cX11_keep 58 = .ok (.iaload, 1) := by decide +kernel
theorem dX11_keep_59 : decode cX11_keep 59 = .ok (.iconst 1, 1) := by decide +kernel
theorem dX11_keep_60 : decode cX11_keep 60 = .ok (.iadd, 1) := by decide +kernel
theorem dX11_keep_61 : decode cX11_keep 61 = .ok (.iastore, 1) := by decide +kernel
theorem dX11_keep_62 : decode cX11_keep 62 = .ok (.return_, 1) := by decide +kernel
abbrev mX11_keep : MI := (yX11_keep, cX11_keep, 7, none, noE)
theorem okX11_keep : cok mX11_keep 4 := ⟨tw1462, tw11, by decide, by decide, by decide, by decide +kernel⟩
def fX11_keep (M : Mem) (a0 a1 a2 a3 a4 : Int) : Option Mem :=
  if M.2.1 a0 = 10 then if M.2.1 (M.1 a0 19) = 12 ∧ (0 : Int) ≤ a1 ∧ a1 < M.2.2.1 (M.1 a0 19) then if M.1 (M.1 a0 19) a1 = a4 then (some M) else (iterC (fun (rec4 : (Int × Mem) → Option Mem) (s5 : Int × Mem) => if s5.1 < a3 then (if s5.2.2.1 a0 = 10 then if s5.2.2.1 (s5.2.1 a0 20) = 12 ∧ (0 : Int) ≤ s5.1 ∧ s5.1 < s5.2.2.2.1 (s5.2.1 a0 20) then if s5.2.2.1 (s5.2.1 a0 19) = 12 ∧ (0 : Int) ≤ (w32 ((w32 (a2 + (w32 (a3 * (M.1 (M.1 a0 19) a1))))) + s5.1)) ∧ (w32 ((w32 (a2 + (w32 (a3 * (M.1 (M.1 a0 19) a1))))) + s5.1)) < s5.2.2.2.1 (s5.2.1 a0 19) then bM (mst s5.2 (s5.2.1 a0 19) (w32 ((w32 (a2 + (w32 (a3 * (M.1 (M.1 a0 19) a1))))) + s5.1)) (s5.2.1 (s5.2.1 a0 20) s5.1)) fun M10 => rec4 (w32 (s5.1 + 1), M10) else none else none else none) else (if s5.2.2.1 a0 = 10 then if s5.2.2.1 (s5.2.1 a0 19) = 12 ∧ (0 : Int) ≤ a1 ∧ a1 < s5.2.2.2.1 (s5.2.1 a0 19) then if s5.2.2.1 (s5.2.1 a0 19) = 12 ∧ (0 : Int) ≤ a1 ∧ a1 < s5.2.2.2.1 (s5.2.1 a0 19) then bM (mst s5.2 (s5.2.1 a0 19) a1 (w32 ((s5.2.1 (s5.2.1 a0 19) a1) + 1))) fun M15 => some M15 else none else none else none)) BIG (0, M)) else none else none
set_option maxRecDepth 100000 in
set_option maxHeartbeats 4000000 in
theorem kX11_keep (d : Nat) (hd : 0 ≤ d) (M : Mem) (a0 a1 a2 a3 a4 : Int) : Ct mX11_keep d 0 0 [pA a0, pI a1, pI a2, pI a3, pI a4] M dV (fX11_keep M a0 a1 a2 a3 a4) := by
  refine Ct.of 2 (fun _ _ _ => trivial) (by decide +kernel) rfl ?_
  unfold fX11_keep
  refine v_aload_n dX11_keep_0 rfl ?_
  refine v_if (fun h1 => ?_)
  refine v_get (v := pA (M.1 a0 19)) 10 19 rfl inX11 (by decide) tw1212 dX11_keep_1 h1 rfl ?_
  refine v_iload_n dX11_keep_4 rfl ?_
  refine v_if (fun h2 => ?_)
  refine v_iaload h2 dX11_keep_5 ?_
  refine v_istore (ls' := [some (pA a0), some (pI a1), some (pI a2), some (pI a3), some (pI a4), some (pI (M.1 (M.1 a0 19) a1)), none]) dX11_keep_6 (by decide) rfl ?_
  refine v_iload dX11_keep_8 rfl ?_
  refine v_iload dX11_keep_10 rfl ?_
  refine v_icmp_ne (tgt := 16) dX11_keep_12 (by decide) (fun c3 => ?_) (fun c3 => ?_)
  · exact v_return dX11_keep_15 rfl rfl
  · refine v_iconst dX11_keep_16 (by decide) ?_
    refine v_istore (ls' := [some (pA a0), some (pI a1), some (pI a2), some (pI a3), some (pI a4), some (pI (M.1 (M.1 a0 19) a1)), some (pI 0)]) dX11_keep_17 (by decide) rfl ?_
    refine v_drop [some (pA a0), some (pI a1), some (pI a2), some (pI a3), none, some (pI (M.1 (M.1 a0 19) a1)), some (pI 0)] (ls_s (ls_s (ls_s (ls_s (ls_n (ls_s (ls_s ls_e))))))) ?_
    refine v_loop (fun (s5 : Int × Mem) => [some (pA a0), some (pI a1), some (pI a2), some (pI a3), none, some (pI (M.1 (M.1 a0 19) a1)), some (pI s5.1)]) (fun (s5 : Int × Mem) => s5.2) (s0 := (0, M)) ?_
    intro rec4 hrec4 s5
    refine v_iload dX11_keep_19 rfl ?_
    refine v_iload_n dX11_keep_21 rfl ?_
    refine v_icmp_ge (tgt := 52) dX11_keep_22 (by decide) (fun c6 => ?_) (fun c6 => ?_)
    · refine v_aload_n dX11_keep_25 rfl ?_
      refine v_if (fun h7 => ?_)
      refine v_get (v := pA (s5.2.1 a0 19)) 10 19 rfl inX11 (by decide) tw1212 dX11_keep_26 h7 rfl ?_
      refine v_iload_n dX11_keep_29 rfl ?_
      refine v_iload_n dX11_keep_30 rfl ?_
      refine v_iload dX11_keep_31 rfl ?_
      refine v_imul dX11_keep_33 ?_
      refine v_iadd dX11_keep_34 ?_
      refine v_iload dX11_keep_35 rfl ?_
      refine v_iadd dX11_keep_37 ?_
      refine v_aload_n dX11_keep_38 rfl ?_
      refine v_get (v := pA (s5.2.1 a0 20)) 10 20 rfl inX11 (by decide) tw1213 dX11_keep_39 h7 rfl ?_
      refine v_iload dX11_keep_42 rfl ?_
      refine v_if (fun h8 => ?_)
      refine v_iaload h8 dX11_keep_44 ?_
      refine v_if (fun h9 => ?_)
      refine v_iastore h9 dX11_keep_45 ?_
      refine v_bM (fun M10 e11 => ?_)
      refine v_iinc (ls' := [some (pA a0), some (pI a1), some (pI a2), some (pI a3), none, some (pI (M.1 (M.1 a0 19) a1)), some (pI (w32 (s5.1 + 1)))]) dX11_keep_46 (by decide) rfl rfl ?_
      refine v_goto (tgt := 19) dX11_keep_49 (by decide) ?_
      exact hrec4 (w32 (s5.1 + 1), M10)
    · refine v_aload_n dX11_keep_52 rfl ?_
      refine v_if (fun h12 => ?_)
      refine v_get (v := pA (s5.2.1 a0 19)) 10 19 rfl inX11 (by decide) tw1212 dX11_keep_53 h12 rfl ?_
      refine v_iload_n dX11_keep_56 rfl ?_
      refine v_dup2 dX11_keep_57 (by intro z hz; cases hz) (by intro z hz; cases hz) ?_
      refine v_if (fun h13 => ?_)
      refine v_iaload h13 dX11_keep_58 ?_
      refine v_iconst dX11_keep_59 (by decide) ?_
      refine v_iadd dX11_keep_60 ?_
      refine v_if (fun h14 => ?_)
      refine v_iastore h14 dX11_keep_61 ?_
      refine v_bM (fun M15 e16 => ?_)
      exact v_return dX11_keep_62 rfl rfl
theorem dX11_lay_0 : decode cX11_lay 0 = .ok (.aload_n 0, 1) := by decide +kernel
theorem dX11_lay_1 : decode cX11_lay 1 = .ok (.getfield 146, 3) := by decide +kernel
theorem dX11_lay_4 : decode cX11_lay 4 = .ok (.ifCond .eq 10, 3) := by decide +kernel
theorem dX11_lay_7 : decode cX11_lay 7 = .ok (.aload_n 0, 1) := by decide +kernel
theorem dX11_lay_8 : decode cX11_lay 8 = .ok (.getfield 38, 3) := by decide +kernel
theorem dX11_lay_11 : decode cX11_lay 11 = .ok (.iload_n 1, 1) := by decide +kernel
theorem dX11_lay_12 : decode cX11_lay 12 = .ok (.iload_n 2, 1) := by decide +kernel
theorem dX11_lay_13 : decode cX11_lay 13 = .ok (.iastore, 1) := by decide +kernel
theorem dX11_lay_14 : decode cX11_lay 14 = .ok (.return_, 1) := by decide +kernel
abbrev mX11_lay : MI := (yX11_lay, cX11_lay, 3, none, noE)
theorem okX11_lay : cok mX11_lay 2 := ⟨tw1446, tw11, by decide, by decide, by decide, by decide +kernel⟩
def fX11_lay (M : Mem) (a0 a1 a2 : Int) : Option Mem :=
  if M.2.1 a0 = 10 then if M.1 a0 23 = 0 then (some M) else (if M.2.1 (M.1 a0 19) = 12 ∧ (0 : Int) ≤ a1 ∧ a1 < M.2.2.1 (M.1 a0 19) then bM (mst M (M.1 a0 19) a1 a2) fun M4 => some M4 else none) else none
set_option maxRecDepth 100000 in
set_option maxHeartbeats 4000000 in
theorem kX11_lay (d : Nat) (hd : 0 ≤ d) (M : Mem) (a0 a1 a2 : Int) : Ct mX11_lay d 0 0 [pA a0, pI a1, pI a2] M dV (fX11_lay M a0 a1 a2) := by
  refine Ct.of 0 (fun _ _ _ => trivial) (by decide +kernel) rfl ?_
  unfold fX11_lay
  refine v_aload_n dX11_lay_0 rfl ?_
  refine v_if (fun h1 => ?_)
  refine v_get (v := pI (M.1 a0 23)) 10 23 rfl inX11 (by decide) tw1216 dX11_lay_1 h1 rfl ?_
  refine v_if_eq (tgt := 14) dX11_lay_4 (by decide) (fun c2 => ?_) (fun c2 => ?_)
  · exact v_return dX11_lay_14 rfl rfl
  · refine v_aload_n dX11_lay_7 rfl ?_
    refine v_get (v := pA (M.1 a0 19)) 10 19 rfl inX11 (by decide) tw1212 dX11_lay_8 h1 rfl ?_
    refine v_iload_n dX11_lay_11 rfl ?_
    refine v_iload_n dX11_lay_12 rfl ?_
    refine v_if (fun h3 => ?_)
    refine v_iastore h3 dX11_lay_13 ?_
    refine v_bM (fun M4 e5 => ?_)
    exact v_return dX11_lay_14 rfl rfl
theorem dX11_goodsLine_0 : decode cX11_goodsLine 0 = .ok (.aload_n 0, 1) := by decide +kernel
theorem dX11_goodsLine_1 : decode cX11_goodsLine 1 = .ok (.iconst 0, 1) := by decide +kernel
theorem dX11_goodsLine_2 : decode cX11_goodsLine 2 = .ok (.invokevirtual 167, 3) := by decide +kernel
theorem dX11_goodsLine_5 : decode cX11_goodsLine 5 = .ok (.ifCond .eq 24, 3) := by decide +kernel
theorem dX11_goodsLine_8 : decode cX11_goodsLine 8 = .ok (.aload_n 0, 1) := by decide +kernel
theorem dX11_goodsLine_9 : decode cX11_goodsLine 9 = .ok (.iconst 1, 1) := by decide +kernel
theorem dX11_goodsLine_10 : decode cX11_goodsLine 10 = .ok (.iconst 0, 1) := by decide +kernel
theorem dX11_goodsLine_11 : decode cX11_goodsLine 11 = .ok (.iconst 4, 1) := by decide +kernel
theorem dX11_goodsLine_12 : decode cX11_goodsLine 12 = .ok (.invokevirtual 157, 3) := by decide +kernel
theorem dX11_goodsLine_15 : decode cX11_goodsLine 15 = .ok (.ifCond .eq 14, 3) := by decide +kernel
theorem dX11_goodsLine_18 : decode cX11_goodsLine 18 = .ok (.aload_n 0, 1) := by decide +kernel
theorem dX11_goodsLine_19 : decode cX11_goodsLine 19 = .ok (.iconst 2, 1) := by decide +kernel
theorem dX11_goodsLine_20 : decode cX11_goodsLine 20 = .ok (.iconst 0, 1) := by decide +kernel
theorem dX11_goodsLine_21 : decode cX11_goodsLine 21 = .ok (.bipush 9, 2) := by decide +kernel
theorem dX11_goodsLine_23 : decode cX11_goodsLine 23 = .ok (.invokevirtual 157, 3) := by decide +kernel
theorem dX11_goodsLine_26 : decode cX11_goodsLine 26 = .ok (.ifCond .ne 5, 3) := by decide +kernel
theorem dX11_goodsLine_29 : decode cX11_goodsLine 29 = .ok (.iconst 0, 1) := by decide +kernel
theorem dX11_goodsLine_30 : decode cX11_goodsLine 30 = .ok (.ireturn, 1) := by decide +kernel
theorem dX11_goodsLine_31 : decode cX11_goodsLine 31 = .ok (.aload_n 0, 1) := by decide +kernel
theorem dX11_goodsLine_32 : decode cX11_goodsLine 32 = .ok (.iload_n 1, 1) := by decide +kernel
theorem dX11_goodsLine_33 : decode cX11_goodsLine 33 = .ok (.iconst 5, 1) := by decide +kernel
theorem dX11_goodsLine_34 : decode cX11_goodsLine 34 = .ok (.aload_n 0, 1) := by decide +kernel
theorem dX11_goodsLine_35 : decode cX11_goodsLine 35 = .ok (.getfield 41, 3) := by decide +kernel
theorem dX11_goodsLine_38 : decode cX11_goodsLine 38 = .ok (.iconst 0, 1) := by decide +kernel
theorem dX11_goodsLine_39 : decode cX11_goodsLine 39 = .ok (.iaload, 1) := by decide +kernel
theorem dX11_goodsLine_40 : decode cX11_goodsLine 40 = .ok (.imul, 1) := by decide +kernel
theorem dX11_goodsLine_41 : decode cX11_goodsLine 41 = .ok (.iadd, 1) := by decide +kernel
theorem dX11_goodsLine_42 : decode cX11_goodsLine 42 = .ok (.aload_n 0, 1) := by decide +kernel
theorem dX11_goodsLine_43 : decode cX11_goodsLine 43 = .ok (.getfield 41, 3) := by decide +kernel
theorem dX11_goodsLine_46 : decode cX11_goodsLine 46 = .ok (.iconst 1, 1) := by decide +kernel
theorem dX11_goodsLine_47 : decode cX11_goodsLine 47 = .ok (.iaload, 1) := by decide +kernel
theorem dX11_goodsLine_48 : decode cX11_goodsLine 48 = .ok (.iadd, 1) := by decide +kernel
theorem dX11_goodsLine_49 : decode cX11_goodsLine 49 = .ok (.aload_n 0, 1) := by decide +kernel
theorem dX11_goodsLine_50 : decode cX11_goodsLine 50 = .ok (.getfield 41, 3) := by decide +kernel
theorem dX11_goodsLine_53 : decode cX11_goodsLine 53 = .ok (.iconst 2, 1) := by decide +kernel
theorem dX11_goodsLine_54 : decode cX11_goodsLine 54 = .ok (.iaload, 1) := by decide +kernel
theorem dX11_goodsLine_55 : decode cX11_goodsLine 55 = .ok (.invokevirtual 171, 3) := by decide +kernel
theorem dX11_goodsLine_58 : decode cX11_goodsLine 58 = .ok (.iconst 1, 1) := by decide +kernel
theorem dX11_goodsLine_59 : decode cX11_goodsLine 59 = .ok (.ireturn, 1) := by decide +kernel
abbrev mX11_goodsLine : MI := (yX11_goodsLine, cX11_goodsLine, 2, (some .boolean), noE)
theorem okX11_goodsLine : cok mX11_goodsLine 1 := ⟨tw1427, tw11, by decide, by decide, by decide, by decide +kernel⟩
def fX11_goodsLine (M : Mem) (a0 a1 : Int) : Option (Int × Mem) :=
  if M.2.1 a0 = 10 then (fX11_takeHouse M a0 0).bind fun r1 => if r1.1 = 0 then (some (0, r1.2)) else (if r1.2.2.1 a0 = 10 then (fX11_take r1.2 a0 1 0 4).bind fun r5 => if r5.1 = 0 then (some (0, r5.2)) else (if r5.2.2.1 a0 = 10 then (fX11_take r5.2 a0 2 0 9).bind fun r9 => if r9.1 = 0 then (some (0, r9.2)) else (if r9.2.2.1 a0 = 10 then if r9.2.2.1 (r9.2.1 a0 20) = 12 ∧ (0 : Int) ≤ 0 ∧ 0 < r9.2.2.2.1 (r9.2.1 a0 20) then if r9.2.2.1 (r9.2.1 a0 20) = 12 ∧ (0 : Int) ≤ 1 ∧ 1 < r9.2.2.2.1 (r9.2.1 a0 20) then if r9.2.2.1 (r9.2.1 a0 20) = 12 ∧ (0 : Int) ≤ 2 ∧ 2 < r9.2.2.2.1 (r9.2.1 a0 20) then (fX11_lay r9.2 a0 (w32 ((w32 (a1 + (w32 (5 * (r9.2.1 (r9.2.1 a0 20) 0))))) + (r9.2.1 (r9.2.1 a0 20) 1))) (r9.2.1 (r9.2.1 a0 20) 2)).bind fun r17 => some (1, r17) else none else none else none else none) else none) else none) else none
set_option maxRecDepth 100000 in
set_option maxHeartbeats 4000000 in
theorem kX11_goodsLine (d : Nat) (hd : 5 ≤ d) (M : Mem) (a0 a1 : Int) : Ct mX11_goodsLine d 0 0 [pA a0, pI a1] M dIM (fX11_goodsLine M a0 a1) := by
  obtain ⟨d, rfl⟩ : ∃ k, d = k + 1 := ⟨d - 1, by omega⟩
  refine Ct.of 0 (fun _ _ _ => trivial) (by decide +kernel) rfl ?_
  unfold fX11_goodsLine
  refine v_aload_n dX11_goodsLine_0 rfl ?_
  refine v_iconst dX11_goodsLine_1 (by decide) ?_
  refine v_if (fun h3 => ?_)
  refine v_cV (mi := mX11_goodsLine) (c0 := 0) (c1 := 0) (As := [pI 0]) (st := []) (kX11_takeHouse d (by omega) _ _ _) rfl h3 rfl okX11_takeHouse (Or.inl tw1428) tw1430 tp41 rfl (Nat.le_of_ble_eq_true rfl) dX11_goodsLine_2 (fun r1 => [pI r1.1]) (fun r1 => r1.2) (fun _ => rfl) (fun _ => rfl) (fun r1 h2 => ?_) rfl
  refine v_if_eq (tgt := 29) dX11_goodsLine_5 (by decide) (fun c4 => ?_) (fun c4 => ?_)
  · refine v_iconst dX11_goodsLine_29 (by decide) ?_
    exact v_breturn dX11_goodsLine_30 rfl (by decide) rfl
  · refine v_aload_n dX11_goodsLine_8 rfl ?_
    refine v_iconst dX11_goodsLine_9 (by decide) ?_
    refine v_iconst dX11_goodsLine_10 (by decide) ?_
    refine v_iconst dX11_goodsLine_11 (by decide) ?_
    refine v_if (fun h7 => ?_)
    refine v_cV (mi := mX11_goodsLine) (c0 := 0) (c1 := 0) (As := [pI 1, pI 0, pI 4]) (st := []) (kX11_take d (by omega) _ _ _ _ _) rfl h7 rfl okX11_take (Or.inl tw1432) tw1434 tp42 rfl (Nat.le_of_ble_eq_true rfl) dX11_goodsLine_12 (fun r5 => [pI r5.1]) (fun r5 => r5.2) (fun _ => rfl) (fun _ => rfl) (fun r5 h6 => ?_) rfl
    refine v_if_eq (tgt := 29) dX11_goodsLine_15 (by decide) (fun c8 => ?_) (fun c8 => ?_)
    · refine v_iconst dX11_goodsLine_29 (by decide) ?_
      exact v_breturn dX11_goodsLine_30 rfl (by decide) rfl
    · refine v_aload_n dX11_goodsLine_18 rfl ?_
      refine v_iconst dX11_goodsLine_19 (by decide) ?_
      refine v_iconst dX11_goodsLine_20 (by decide) ?_
      refine v_bipush dX11_goodsLine_21 (by decide) ?_
      refine v_if (fun h11 => ?_)
      refine v_cV (mi := mX11_goodsLine) (c0 := 0) (c1 := 0) (As := [pI 2, pI 0, pI 9]) (st := []) (kX11_take d (by omega) _ _ _ _ _) rfl h11 rfl okX11_take (Or.inl tw1432) tw1434 tp42 rfl (Nat.le_of_ble_eq_true rfl) dX11_goodsLine_23 (fun r9 => [pI r9.1]) (fun r9 => r9.2) (fun _ => rfl) (fun _ => rfl) (fun r9 h10 => ?_) rfl
      refine v_if_ne (tgt := 31) dX11_goodsLine_26 (by decide) (fun c12 => ?_) (fun c12 => ?_)
      · refine v_iconst dX11_goodsLine_29 (by decide) ?_
        exact v_breturn dX11_goodsLine_30 rfl (by decide) rfl
      · refine v_aload_n dX11_goodsLine_31 rfl ?_
        refine v_iload_n dX11_goodsLine_32 rfl ?_
        refine v_iconst dX11_goodsLine_33 (by decide) ?_
        refine v_aload_n dX11_goodsLine_34 rfl ?_
        refine v_if (fun h13 => ?_)
        refine v_get (v := pA (r9.2.1 a0 20)) 10 20 rfl inX11 (by decide) tw1213 dX11_goodsLine_35 h13 rfl ?_
        refine v_iconst dX11_goodsLine_38 (by decide) ?_
        refine v_if (fun h14 => ?_)
        refine v_iaload h14 dX11_goodsLine_39 ?_
        refine v_imul dX11_goodsLine_40 ?_
        refine v_iadd dX11_goodsLine_41 ?_
        refine v_aload_n dX11_goodsLine_42 rfl ?_
        refine v_get (v := pA (r9.2.1 a0 20)) 10 20 rfl inX11 (by decide) tw1213 dX11_goodsLine_43 h13 rfl ?_
        refine v_iconst dX11_goodsLine_46 (by decide) ?_
        refine v_if (fun h15 => ?_)
        refine v_iaload h15 dX11_goodsLine_47 ?_
        refine v_iadd dX11_goodsLine_48 ?_
        refine v_aload_n dX11_goodsLine_49 rfl ?_
        refine v_get (v := pA (r9.2.1 a0 20)) 10 20 rfl inX11 (by decide) tw1213 dX11_goodsLine_50 h13 rfl ?_
        refine v_iconst dX11_goodsLine_53 (by decide) ?_
        refine v_if (fun h16 => ?_)
        refine v_iaload h16 dX11_goodsLine_54 ?_
        refine v_cV (mi := mX11_goodsLine) (c0 := 0) (c1 := 0) (As := [pI (w32 ((w32 (a1 + (w32 (5 * (r9.2.1 (r9.2.1 a0 20) 0))))) + (r9.2.1 (r9.2.1 a0 20) 1))), pI (r9.2.1 (r9.2.1 a0 20) 2)]) (st := []) (kX11_lay d (by omega) _ _ _ _) rfl h13 rfl okX11_lay (Or.inl tw1443) tw1445 tp44 rfl (Nat.le_of_ble_eq_true rfl) dX11_goodsLine_55 (fun r17 => []) (fun r17 => r17) (fun _ => rfl) (fun _ => rfl) (fun r17 h18 => ?_) rfl
        refine v_iconst dX11_goodsLine_58 (by decide) ?_
        exact v_breturn dX11_goodsLine_59 rfl (by decide) rfl
theorem dX11_sonLine_0 : decode cX11_sonLine 0 = .ok (.aload_n 0, 1) := by decide +kernel
theorem dX11_sonLine_1 : decode cX11_sonLine 1 = .ok (.iconst 0, 1) := by decide +kernel
theorem dX11_sonLine_2 : decode cX11_sonLine 2 = .ok (.iconst 0, 1) := by decide +kernel
theorem dX11_sonLine_3 : decode cX11_sonLine 3 = .ok (.iconst 3, 1) := by decide +kernel
theorem dX11_sonLine_4 : decode cX11_sonLine 4 = .ok (.invokevirtual 157, 3) := by decide +kernel
theorem dX11_sonLine_7 : decode cX11_sonLine 7 = .ok (.ifCond .eq 19, 3) := by decide +kernel
theorem dX11_sonLine_10 : decode cX11_sonLine 10 = .ok (.aload_n 0, 1) := by decide +kernel
theorem dX11_sonLine_11 : decode cX11_sonLine 11 = .ok (.iconst 1, 1) := by decide +kernel
theorem dX11_sonLine_12 : decode cX11_sonLine 12 = .ok (.iconst 0, 1) := by decide +kernel
theorem dX11_sonLine_13 : decode cX11_sonLine 13 = .ok (.iconst 3, 1) := by decide +kernel
theorem dX11_sonLine_14 : decode cX11_sonLine 14 = .ok (.aload_n 0, 1) := by decide +kernel
theorem dX11_sonLine_15 : decode cX11_sonLine 15 = .ok (.getfield 41, 3) := by decide +kernel
theorem dX11_sonLine_18 : decode cX11_sonLine 18 = .ok (.iconst 0, 1) := by decide +kernel
theorem dX11_sonLine_19 : decode cX11_sonLine 19 = .ok (.iaload, 1) := by decide +kernel
theorem dX11_sonLine_20 : decode cX11_sonLine 20 = .ok (.invokevirtual 153, 3) := by decide +kernel
theorem dX11_sonLine_23 : decode cX11_sonLine 23 = .ok (.ifCond .ne 5, 3) := by decide +kernel
theorem dX11_sonLine_26 : decode cX11_sonLine 26 = .ok (.iconst 0, 1) := by decide +kernel
theorem dX11_sonLine_27 : decode cX11_sonLine 27 = .ok (.ireturn, 1) := by decide +kernel
theorem dX11_sonLine_28 : decode cX11_sonLine 28 = .ok (.aload_n 0, 1) := by decide +kernel
theorem dX11_sonLine_29 : decode cX11_sonLine 29 = .ok (.aload_n 0, 1) := by decide +kernel
theorem dX11_sonLine_30 : decode cX11_sonLine 30 = .ok (.getfield 174, 3) := by decide +kernel
theorem dX11_sonLine_33 : decode cX11_sonLine 33 = .ok (.aload_n 0, 1) := by decide +kernel
theorem dX11_sonLine_34 : decode cX11_sonLine 34 = .ok (.getfield 41, 3) := by decide +kernel
theorem dX11_sonLine_37 : decode cX11_sonLine 37 = .ok (.iconst 0, 1) := by decide +kernel
theorem dX11_sonLine_38 : decode cX11_sonLine 38 = .ok (.iaload, 1) := by decide +kernel
theorem dX11_sonLine_39 : decode cX11_sonLine 39 = .ok (.aload_n 0, 1) := by decide +kernel
theorem dX11_sonLine_40 : decode cX11_sonLine 40 = .ok (.getfield 41, 3) := by decide +kernel
theorem dX11_sonLine_43 : decode cX11_sonLine 43 = .ok (.iconst 1, 1) := by decide +kernel
theorem dX11_sonLine_44 : decode cX11_sonLine 44 = .ok (.iaload, 1) := by decide +kernel
theorem dX11_sonLine_45 : decode cX11_sonLine 45 = .ok (.invokestatic 163, 3) := by decide +kernel
theorem dX11_sonLine_48 : decode cX11_sonLine 48 = .ok (.invokestatic 163, 3) := by decide +kernel
theorem dX11_sonLine_51 : decode cX11_sonLine 51 = .ok (.putfield 174, 3) := by decide +kernel
theorem dX11_sonLine_54 : decode cX11_sonLine 54 = .ok (.aload_n 0, 1) := by decide +kernel
theorem dX11_sonLine_55 : decode cX11_sonLine 55 = .ok (.bipush 88, 2) := by decide +kernel
theorem dX11_sonLine_57 : decode cX11_sonLine 57 = .ok (.aload_n 0, 1) := by decide +kernel
theorem dX11_sonLine_58 : decode cX11_sonLine 58 = .ok (.getfield 41, 3) := by decide +kernel
theorem dX11_sonLine_61 : decode cX11_sonLine 61 = .ok (.iconst 0, 1) := by decide +kernel
theorem dX11_sonLine_62 : decode cX11_sonLine 62 = .ok (.iaload, 1) := by decide +kernel
theorem dX11_sonLine_63 : decode cX11_sonLine 63 = .ok (.iadd, 1) := by decide +kernel
theorem dX11_sonLine_64 : decode cX11_sonLine 64 = .ok (.aload_n 0, 1) := by decide +kernel
theorem dX11_sonLine_65 : decode cX11_sonLine 65 = .ok (.getfield 41, 3) := by decide +kernel
theorem dX11_sonLine_68 : decode cX11_sonLine 68 = .ok (.iconst 1, 1) := by decide +kernel
theorem dX11_sonLine_69 : decode cX11_sonLine 69 = .ok (.iaload, 1) := by decide +kernel
theorem dX11_sonLine_70 : decode cX11_sonLine 70 = .ok (.invokevirtual 171, 3) := by decide +kernel
theorem dX11_sonLine_73 : decode cX11_sonLine 73 = .ok (.iconst 1, 1) := by decide +kernel
theorem dX11_sonLine_74 : decode cX11_sonLine 74 = .ok (.ireturn, 1) := by decide +kernel
abbrev mX11_sonLine : MI := (yX11_sonLine, cX11_sonLine, 1, (some .boolean), noE)
theorem okX11_sonLine : cok mX11_sonLine 0 := ⟨tw1458, tw11, by decide, by decide, by decide, by decide +kernel⟩
def fX11_sonLine (M : Mem) (a0 : Int) : Option (Int × Mem) :=
  if M.2.1 a0 = 10 then (fX11_take M a0 0 0 3).bind fun r1 => if r1.1 = 0 then (some (0, r1.2)) else (if r1.2.2.1 a0 = 10 then if r1.2.2.1 (r1.2.1 a0 20) = 12 ∧ (0 : Int) ≤ 0 ∧ 0 < r1.2.2.2.1 (r1.2.1 a0 20) then (fX11_takeBut r1.2 a0 1 0 3 (r1.2.1 (r1.2.1 a0 20) 0)).bind fun r7 => if r7.1 = 0 then (some (0, r7.2)) else (if r7.2.2.1 a0 = 10 then if r7.2.2.1 (r7.2.1 a0 20) = 12 ∧ (0 : Int) ≤ 0 ∧ 0 < r7.2.2.2.1 (r7.2.1 a0 20) then if r7.2.2.1 (r7.2.1 a0 20) = 12 ∧ (0 : Int) ≤ 1 ∧ 1 < r7.2.2.2.1 (r7.2.1 a0 20) then (fX11_greater r7.2 (r7.2.1 (r7.2.1 a0 20) 0) (r7.2.1 (r7.2.1 a0 20) 1)).bind fun r13 => (fX11_greater r7.2 (r7.2.1 a0 22) r13).bind fun r15 => bM (mst r7.2 a0 22 r15) fun M17 => if M17.2.1 (M17.1 a0 20) = 12 ∧ (0 : Int) ≤ 0 ∧ 0 < M17.2.2.1 (M17.1 a0 20) then if M17.2.1 (M17.1 a0 20) = 12 ∧ (0 : Int) ≤ 1 ∧ 1 < M17.2.2.1 (M17.1 a0 20) then (fX11_lay M17 a0 (w32 (88 + (M17.1 (M17.1 a0 20) 0))) (M17.1 (M17.1 a0 20) 1)).bind fun r21 => some (1, r21) else none else none else none else none else none) else none else none) else none
set_option maxRecDepth 100000 in
set_option maxHeartbeats 4000000 in
theorem kX11_sonLine (d : Nat) (hd : 4 ≤ d) (M : Mem) (a0 : Int) : Ct mX11_sonLine d 0 0 [pA a0] M dIM (fX11_sonLine M a0) := by
  obtain ⟨d, rfl⟩ : ∃ k, d = k + 1 := ⟨d - 1, by omega⟩
  refine Ct.of 0 (fun _ _ _ => trivial) (by decide +kernel) rfl ?_
  unfold fX11_sonLine
  refine v_aload_n dX11_sonLine_0 rfl ?_
  refine v_iconst dX11_sonLine_1 (by decide) ?_
  refine v_iconst dX11_sonLine_2 (by decide) ?_
  refine v_iconst dX11_sonLine_3 (by decide) ?_
  refine v_if (fun h3 => ?_)
  refine v_cV (mi := mX11_sonLine) (c0 := 0) (c1 := 0) (As := [pI 0, pI 0, pI 3]) (st := []) (kX11_take d (by omega) _ _ _ _ _) rfl h3 rfl okX11_take (Or.inl tw1432) tw1434 tp42 rfl (Nat.le_of_ble_eq_true rfl) dX11_sonLine_4 (fun r1 => [pI r1.1]) (fun r1 => r1.2) (fun _ => rfl) (fun _ => rfl) (fun r1 h2 => ?_) rfl
  refine v_if_eq (tgt := 26) dX11_sonLine_7 (by decide) (fun c4 => ?_) (fun c4 => ?_)
  · refine v_iconst dX11_sonLine_26 (by decide) ?_
    exact v_breturn dX11_sonLine_27 rfl (by decide) rfl
  · refine v_aload_n dX11_sonLine_10 rfl ?_
    refine v_iconst dX11_sonLine_11 (by decide) ?_
    refine v_iconst dX11_sonLine_12 (by decide) ?_
    refine v_iconst dX11_sonLine_13 (by decide) ?_
    refine v_aload_n dX11_sonLine_14 rfl ?_
    refine v_if (fun h5 => ?_)
    refine v_get (v := pA (r1.2.1 a0 20)) 10 20 rfl inX11 (by decide) tw1213 dX11_sonLine_15 h5 rfl ?_
    refine v_iconst dX11_sonLine_18 (by decide) ?_
    refine v_if (fun h6 => ?_)
    refine v_iaload h6 dX11_sonLine_19 ?_
    refine v_cV (mi := mX11_sonLine) (c0 := 0) (c1 := 0) (As := [pI 1, pI 0, pI 3, pI (r1.2.1 (r1.2.1 a0 20) 0)]) (st := []) (kX11_takeBut d (by omega) _ _ _ _ _ _) rfl h5 rfl okX11_takeBut (Or.inl tw1436) tw1438 tp43 rfl (Nat.le_of_ble_eq_true rfl) dX11_sonLine_20 (fun r7 => [pI r7.1]) (fun r7 => r7.2) (fun _ => rfl) (fun _ => rfl) (fun r7 h8 => ?_) rfl
    refine v_if_ne (tgt := 28) dX11_sonLine_23 (by decide) (fun c9 => ?_) (fun c9 => ?_)
    · refine v_iconst dX11_sonLine_26 (by decide) ?_
      exact v_breturn dX11_sonLine_27 rfl (by decide) rfl
    · refine v_aload_n dX11_sonLine_28 rfl ?_
      refine v_aload_n dX11_sonLine_29 rfl ?_
      refine v_if (fun h10 => ?_)
      refine v_get (v := pI (r7.2.1 a0 22)) 10 22 rfl inX11 (by decide) tw1215 dX11_sonLine_30 h10 rfl ?_
      refine v_aload_n dX11_sonLine_33 rfl ?_
      refine v_get (v := pA (r7.2.1 a0 20)) 10 20 rfl inX11 (by decide) tw1213 dX11_sonLine_34 h10 rfl ?_
      refine v_iconst dX11_sonLine_37 (by decide) ?_
      refine v_if (fun h11 => ?_)
      refine v_iaload h11 dX11_sonLine_38 ?_
      refine v_aload_n dX11_sonLine_39 rfl ?_
      refine v_get (v := pA (r7.2.1 a0 20)) 10 20 rfl inX11 (by decide) tw1213 dX11_sonLine_40 h10 rfl ?_
      refine v_iconst dX11_sonLine_43 (by decide) ?_
      refine v_if (fun h12 => ?_)
      refine v_iaload h12 dX11_sonLine_44 ?_
      refine v_cS (mi := mX11_sonLine) (c0 := 0) (c1 := 0) (As := [pI (r7.2.1 (r7.2.1 a0 20) 0), pI (r7.2.1 (r7.2.1 a0 20) 1)]) (st := [pI (r7.2.1 a0 22), pA a0]) (kX11_greater d (by omega) _ _ _) okX11_greater (Or.inl tw1440) tw1441 rfl (Nat.le_of_ble_eq_true rfl) dX11_sonLine_45 (fun r13 => [pI r13, pI (r7.2.1 a0 22), pA a0]) (fun r13 => r7.2) (fun _ => rfl) (fun _ => rfl) (fun r13 h14 => ?_) rfl
      refine v_cS (mi := mX11_sonLine) (c0 := 0) (c1 := 0) (As := [pI (r7.2.1 a0 22), pI r13]) (st := [pA a0]) (kX11_greater d (by omega) _ _ _) okX11_greater (Or.inl tw1440) tw1441 rfl (Nat.le_of_ble_eq_true rfl) dX11_sonLine_48 (fun r15 => [pI r15, pA a0]) (fun r15 => r7.2) (fun _ => rfl) (fun _ => rfl) (fun r15 h16 => ?_) rfl
      refine v_put (x := r15) 10 22 rfl inX11 (by decide) tw1215 (Or.inl rfl) rfl dX11_sonLine_51 h10 rfl id ?_
      refine v_bM (fun M17 e18 => ?_)
      refine v_aload_n dX11_sonLine_54 rfl ?_
      refine v_bipush dX11_sonLine_55 (by decide) ?_
      refine v_aload_n dX11_sonLine_57 rfl ?_
      refine v_get (v := pA (M17.1 a0 20)) 10 20 rfl inX11 (by decide) tw1213 dX11_sonLine_58 (by rw [e18]; exact h10) rfl ?_
      refine v_iconst dX11_sonLine_61 (by decide) ?_
      refine v_if (fun h19 => ?_)
      refine v_iaload h19 dX11_sonLine_62 ?_
      refine v_iadd dX11_sonLine_63 ?_
      refine v_aload_n dX11_sonLine_64 rfl ?_
      refine v_get (v := pA (M17.1 a0 20)) 10 20 rfl inX11 (by decide) tw1213 dX11_sonLine_65 (by rw [e18]; exact h10) rfl ?_
      refine v_iconst dX11_sonLine_68 (by decide) ?_
      refine v_if (fun h20 => ?_)
      refine v_iaload h20 dX11_sonLine_69 ?_
      refine v_cV (mi := mX11_sonLine) (c0 := 0) (c1 := 0) (As := [pI (w32 (88 + (M17.1 (M17.1 a0 20) 0))), pI (M17.1 (M17.1 a0 20) 1)]) (st := []) (kX11_lay d (by omega) _ _ _ _) rfl (by rw [e18]; exact h10) rfl okX11_lay (Or.inl tw1443) tw1445 tp44 rfl (Nat.le_of_ble_eq_true rfl) dX11_sonLine_70 (fun r21 => []) (fun r21 => r21) (fun _ => rfl) (fun _ => rfl) (fun r21 h22 => ?_) rfl
      refine v_iconst dX11_sonLine_73 (by decide) ?_
      exact v_breturn dX11_sonLine_74 rfl (by decide) rfl
theorem dX11_houseLine_0 : decode cX11_houseLine 0 = .ok (.aload_n 0, 1) := by decide +kernel
theorem dX11_houseLine_1 : decode cX11_houseLine 1 = .ok (.iconst 0, 1) := by decide +kernel
theorem dX11_houseLine_2 : decode cX11_houseLine 2 = .ok (.invokevirtual 167, 3) := by decide +kernel
theorem dX11_houseLine_5 : decode cX11_houseLine 5 = .ok (.ifCond .ne 5, 3) := by decide +kernel
theorem dX11_houseLine_8 : decode cX11_houseLine 8 = .ok (.iconst 0, 1) := by decide +kernel
theorem dX11_houseLine_9 : decode cX11_houseLine 9 = .ok (.ireturn, 1) := by decide +kernel
theorem dX11_houseLine_10 : decode cX11_houseLine 10 = .ok (.lload_n 1, 1) := by decide +kernel
theorem dX11_houseLine_11 : decode cX11_houseLine 11 = .ok (.ldc2_w 177, 3) := by decide +kernel
theorem dX11_houseLine_14 : decode cX11_houseLine 14 = .ok (.lcmp, 1) := by decide +kernel
theorem dX11_houseLine_15 : decode cX11_houseLine 15 = .ok (.ifCond .ne 37, 3) := by decide +kernel
theorem dX11_houseLine_18 : decode cX11_houseLine 18 = .ok (.aload_n 0, 1) := by decide +kernel
theorem dX11_houseLine_19 : decode cX11_houseLine 19 = .ok (.iconst 1, 1) := by decide +kernel
theorem dX11_houseLine_20 : decode cX11_houseLine 20 = .ok (.iconst 0, 1) := by decide +kernel
theorem dX11_houseLine_21 : decode cX11_houseLine 21 = .ok (.bipush 9, 2) := by decide +kernel
theorem dX11_houseLine_23 : decode cX11_houseLine 23 = .ok (.invokevirtual 157, 3) := by decide +kernel
theorem dX11_houseLine_26 : decode cX11_houseLine 26 = .ok (.ifCond .ne 5, 3) := by decide +kernel
theorem dX11_houseLine_29 : decode cX11_houseLine 29 = .ok (.iconst 0, 1) := by decide +kernel
theorem dX11_houseLine_30 : decode cX11_houseLine 30 = .ok (.ireturn, 1) := by decide +kernel
theorem dX11_houseLine_31 : decode cX11_houseLine 31 = .ok (.aload_n 0, 1) := by decide +kernel
theorem dX11_houseLine_32 : decode cX11_houseLine 32 = .ok (.bipush 62, 2) := by decide +kernel
theorem dX11_houseLine_34 : decode cX11_houseLine 34 = .ok (.aload_n 0, 1) := by decide +kernel
theorem dX11_houseLine_35 : decode cX11_houseLine 35 = .ok (.getfield 41, 3) := by decide +kernel
theorem dX11_houseLine_38 : decode cX11_houseLine 38 = .ok (.iconst 0, 1) := by decide +kernel
theorem dX11_houseLine_39 : decode cX11_houseLine 39 = .ok (.iaload, 1) := by decide +kernel
theorem dX11_houseLine_40 : decode cX11_houseLine 40 = .ok (.iadd, 1) := by decide +kernel
theorem dX11_houseLine_41 : decode cX11_houseLine 41 = .ok (.aload_n 0, 1) := by decide +kernel
theorem dX11_houseLine_42 : decode cX11_houseLine 42 = .ok (.getfield 41, 3) := by decide +kernel
theorem dX11_houseLine_45 : decode cX11_houseLine 45 = .ok (.iconst 1, 1) := by decide +kernel
theorem dX11_houseLine_46 : decode cX11_houseLine 46 = .ok (.iaload, 1) := by decide +kernel
theorem dX11_houseLine_47 : decode cX11_houseLine 47 = .ok (.invokevirtual 171, 3) := by decide +kernel
theorem dX11_houseLine_50 : decode cX11_houseLine 50 = .ok (.iconst 1, 1) := by decide +kernel
theorem dX11_houseLine_51 : decode cX11_houseLine 51 = .ok (.ireturn, 1) := by decide +kernel
theorem dX11_houseLine_52 : decode cX11_houseLine 52 = .ok (.aload_n 0, 1) := by decide +kernel
theorem dX11_houseLine_53 : decode cX11_houseLine 53 = .ok (.iconst 1, 1) := by decide +kernel
theorem dX11_houseLine_54 : decode cX11_houseLine 54 = .ok (.invokevirtual 167, 3) := by decide +kernel
theorem dX11_houseLine_57 : decode cX11_houseLine 57 = .ok (.ifCond .ne 5, 3) := by decide +kernel
theorem dX11_houseLine_60 : decode cX11_houseLine 60 = .ok (.iconst 0, 1) := by decide +kernel
theorem dX11_houseLine_61 : decode cX11_houseLine 61 = .ok (.ireturn, 1) := by decide +kernel
theorem dX11_houseLine_62 : decode cX11_houseLine 62 = .ok (.aload_n 0, 1) := by decide +kernel
theorem dX11_houseLine_63 : decode cX11_houseLine 63 = .ok (.bipush 68, 2) := by decide +kernel
theorem dX11_houseLine_65 : decode cX11_houseLine 65 = .ok (.aload_n 0, 1) := by decide +kernel
theorem dX11_houseLine_66 : decode cX11_houseLine 66 = .ok (.getfield 41, 3) := by decide +kernel
theorem dX11_houseLine_69 : decode cX11_houseLine 69 = .ok (.iconst 0, 1) := by decide +kernel
theorem dX11_houseLine_70 : decode cX11_houseLine 70 = .ok (.iaload, 1) := by decide +kernel
theorem dX11_houseLine_71 : decode cX11_houseLine 71 = .ok (.iadd, 1) := by decide +kernel
theorem dX11_houseLine_72 : decode cX11_houseLine 72 = .ok (.aload_n 0, 1) := by decide +kernel
theorem dX11_houseLine_73 : decode cX11_houseLine 73 = .ok (.getfield 41, 3) := by decide +kernel
theorem dX11_houseLine_76 : decode cX11_houseLine 76 = .ok (.iconst 1, 1) := by decide +kernel
theorem dX11_houseLine_77 : decode cX11_houseLine 77 = .ok (.iaload, 1) := by decide +kernel
theorem dX11_houseLine_78 : decode cX11_houseLine 78 = .ok (.invokevirtual 171, 3) := by decide +kernel
theorem dX11_houseLine_81 : decode cX11_houseLine 81 = .ok (.iconst 1, 1) := by decide +kernel
theorem dX11_houseLine_82 : decode cX11_houseLine 82 = .ok (.ireturn, 1) := by decide +kernel
abbrev mX11_houseLine : MI := (yX11_houseLine, cX11_houseLine, 3, (some .boolean), noE)
theorem okX11_houseLine : cok mX11_houseLine 1 := ⟨tw1450, tw11, by decide, by decide, by decide, by decide +kernel⟩
def fX11_houseLine (M : Mem) (a0 a1 : Int) : Option (Int × Mem) :=
  if M.2.1 a0 = 10 then (fX11_takeHouse M a0 0).bind fun r1 => if r1.1 = 0 then (some (0, r1.2)) else (if lcmp a1 512736125800 = 0 then (if r1.2.2.1 a0 = 10 then (fX11_take r1.2 a0 1 0 9).bind fun r6 => if r6.1 = 0 then (some (0, r6.2)) else (if r6.2.2.1 a0 = 10 then if r6.2.2.1 (r6.2.1 a0 20) = 12 ∧ (0 : Int) ≤ 0 ∧ 0 < r6.2.2.2.1 (r6.2.1 a0 20) then if r6.2.2.1 (r6.2.1 a0 20) = 12 ∧ (0 : Int) ≤ 1 ∧ 1 < r6.2.2.2.1 (r6.2.1 a0 20) then (fX11_lay r6.2 a0 (w32 (62 + (r6.2.1 (r6.2.1 a0 20) 0))) (r6.2.1 (r6.2.1 a0 20) 1)).bind fun r13 => some (1, r13) else none else none else none) else none) else (if r1.2.2.1 a0 = 10 then (fX11_takeHouse r1.2 a0 1).bind fun r15 => if r15.1 = 0 then (some (0, r15.2)) else (if r15.2.2.1 a0 = 10 then if r15.2.2.1 (r15.2.1 a0 20) = 12 ∧ (0 : Int) ≤ 0 ∧ 0 < r15.2.2.2.1 (r15.2.1 a0 20) then if r15.2.2.1 (r15.2.1 a0 20) = 12 ∧ (0 : Int) ≤ 1 ∧ 1 < r15.2.2.2.1 (r15.2.1 a0 20) then (fX11_lay r15.2 a0 (w32 (68 + (r15.2.1 (r15.2.1 a0 20) 0))) (r15.2.1 (r15.2.1 a0 20) 1)).bind fun r22 => some (1, r22) else none else none else none) else none)) else none
set_option maxRecDepth 100000 in
set_option maxHeartbeats 4000000 in
theorem kX11_houseLine (d : Nat) (hd : 5 ≤ d) (M : Mem) (a0 a1 : Int) : Ct mX11_houseLine d 0 0 [pA a0, pL a1] M dIM (fX11_houseLine M a0 a1) := by
  obtain ⟨d, rfl⟩ : ∃ k, d = k + 1 := ⟨d - 1, by omega⟩
  refine Ct.of 0 (fun _ _ _ => trivial) (by decide +kernel) rfl ?_
  unfold fX11_houseLine
  refine v_aload_n dX11_houseLine_0 rfl ?_
  refine v_iconst dX11_houseLine_1 (by decide) ?_
  refine v_if (fun h3 => ?_)
  refine v_cV (mi := mX11_houseLine) (c0 := 0) (c1 := 0) (As := [pI 0]) (st := []) (kX11_takeHouse d (by omega) _ _ _) rfl h3 rfl okX11_takeHouse (Or.inl tw1428) tw1430 tp41 rfl (Nat.le_of_ble_eq_true rfl) dX11_houseLine_2 (fun r1 => [pI r1.1]) (fun r1 => r1.2) (fun _ => rfl) (fun _ => rfl) (fun r1 h2 => ?_) rfl
  refine v_if_ne (tgt := 10) dX11_houseLine_5 (by decide) (fun c4 => ?_) (fun c4 => ?_)
  · refine v_iconst dX11_houseLine_8 (by decide) ?_
    exact v_breturn dX11_houseLine_9 rfl (by decide) rfl
  · refine v_lload_n dX11_houseLine_10 rfl ?_
    refine v_ldc2 (n := 512736125800) dX11_houseLine_11 (by decide) tw1406 ?_
    refine v_lcmp dX11_houseLine_14 ?_
    refine v_if_ne (tgt := 52) dX11_houseLine_15 (by decide) (fun c5 => ?_) (fun c5 => ?_)
    · refine v_aload_n dX11_houseLine_18 rfl ?_
      refine v_iconst dX11_houseLine_19 (by decide) ?_
      refine v_iconst dX11_houseLine_20 (by decide) ?_
      refine v_bipush dX11_houseLine_21 (by decide) ?_
      refine v_if (fun h8 => ?_)
      refine v_cV (mi := mX11_houseLine) (c0 := 0) (c1 := 0) (As := [pI 1, pI 0, pI 9]) (st := []) (kX11_take d (by omega) _ _ _ _ _) rfl h8 rfl okX11_take (Or.inl tw1432) tw1434 tp42 rfl (Nat.le_of_ble_eq_true rfl) dX11_houseLine_23 (fun r6 => [pI r6.1]) (fun r6 => r6.2) (fun _ => rfl) (fun _ => rfl) (fun r6 h7 => ?_) rfl
      refine v_if_ne (tgt := 31) dX11_houseLine_26 (by decide) (fun c9 => ?_) (fun c9 => ?_)
      · refine v_iconst dX11_houseLine_29 (by decide) ?_
        exact v_breturn dX11_houseLine_30 rfl (by decide) rfl
      · refine v_aload_n dX11_houseLine_31 rfl ?_
        refine v_bipush dX11_houseLine_32 (by decide) ?_
        refine v_aload_n dX11_houseLine_34 rfl ?_
        refine v_if (fun h10 => ?_)
        refine v_get (v := pA (r6.2.1 a0 20)) 10 20 rfl inX11 (by decide) tw1213 dX11_houseLine_35 h10 rfl ?_
        refine v_iconst dX11_houseLine_38 (by decide) ?_
        refine v_if (fun h11 => ?_)
        refine v_iaload h11 dX11_houseLine_39 ?_
        refine v_iadd dX11_houseLine_40 ?_
        refine v_aload_n dX11_houseLine_41 rfl ?_
        refine v_get (v := pA (r6.2.1 a0 20)) 10 20 rfl inX11 (by decide) tw1213 dX11_houseLine_42 h10 rfl ?_
        refine v_iconst dX11_houseLine_45 (by decide) ?_
        refine v_if (fun h12 => ?_)
        refine v_iaload h12 dX11_houseLine_46 ?_
        refine v_cV (mi := mX11_houseLine) (c0 := 0) (c1 := 0) (As := [pI (w32 (62 + (r6.2.1 (r6.2.1 a0 20) 0))), pI (r6.2.1 (r6.2.1 a0 20) 1)]) (st := []) (kX11_lay d (by omega) _ _ _ _) rfl h10 rfl okX11_lay (Or.inl tw1443) tw1445 tp44 rfl (Nat.le_of_ble_eq_true rfl) dX11_houseLine_47 (fun r13 => []) (fun r13 => r13) (fun _ => rfl) (fun _ => rfl) (fun r13 h14 => ?_) rfl
        refine v_iconst dX11_houseLine_50 (by decide) ?_
        exact v_breturn dX11_houseLine_51 rfl (by decide) rfl
    · refine v_aload_n dX11_houseLine_52 rfl ?_
      refine v_iconst dX11_houseLine_53 (by decide) ?_
      refine v_if (fun h17 => ?_)
      refine v_cV (mi := mX11_houseLine) (c0 := 0) (c1 := 0) (As := [pI 1]) (st := []) (kX11_takeHouse d (by omega) _ _ _) rfl h17 rfl okX11_takeHouse (Or.inl tw1428) tw1430 tp41 rfl (Nat.le_of_ble_eq_true rfl) dX11_houseLine_54 (fun r15 => [pI r15.1]) (fun r15 => r15.2) (fun _ => rfl) (fun _ => rfl) (fun r15 h16 => ?_) rfl
      refine v_if_ne (tgt := 62) dX11_houseLine_57 (by decide) (fun c18 => ?_) (fun c18 => ?_)
      · refine v_iconst dX11_houseLine_60 (by decide) ?_
        exact v_breturn dX11_houseLine_61 rfl (by decide) rfl
      · refine v_aload_n dX11_houseLine_62 rfl ?_
        refine v_bipush dX11_houseLine_63 (by decide) ?_
        refine v_aload_n dX11_houseLine_65 rfl ?_
        refine v_if (fun h19 => ?_)
        refine v_get (v := pA (r15.2.1 a0 20)) 10 20 rfl inX11 (by decide) tw1213 dX11_houseLine_66 h19 rfl ?_
        refine v_iconst dX11_houseLine_69 (by decide) ?_
        refine v_if (fun h20 => ?_)
        refine v_iaload h20 dX11_houseLine_70 ?_
        refine v_iadd dX11_houseLine_71 ?_
        refine v_aload_n dX11_houseLine_72 rfl ?_
        refine v_get (v := pA (r15.2.1 a0 20)) 10 20 rfl inX11 (by decide) tw1213 dX11_houseLine_73 h19 rfl ?_
        refine v_iconst dX11_houseLine_76 (by decide) ?_
        refine v_if (fun h21 => ?_)
        refine v_iaload h21 dX11_houseLine_77 ?_
        refine v_cV (mi := mX11_houseLine) (c0 := 0) (c1 := 0) (As := [pI (w32 (68 + (r15.2.1 (r15.2.1 a0 20) 0))), pI (r15.2.1 (r15.2.1 a0 20) 1)]) (st := []) (kX11_lay d (by omega) _ _ _ _) rfl h19 rfl okX11_lay (Or.inl tw1443) tw1445 tp44 rfl (Nat.le_of_ble_eq_true rfl) dX11_houseLine_78 (fun r22 => []) (fun r22 => r22) (fun _ => rfl) (fun _ => rfl) (fun r22 h23 => ?_) rfl
        refine v_iconst dX11_houseLine_81 (by decide) ?_
        exact v_breturn dX11_houseLine_82 rfl (by decide) rfl
theorem dX11_goodLine_0 : decode cX11_goodLine 0 = .ok (.aload_n 0, 1) := by decide +kernel
theorem dX11_goodLine_1 : decode cX11_goodLine 1 = .ok (.iconst 0, 1) := by decide +kernel
theorem dX11_goodLine_2 : decode cX11_goodLine 2 = .ok (.iconst 0, 1) := by decide +kernel
theorem dX11_goodLine_3 : decode cX11_goodLine 3 = .ok (.iconst 4, 1) := by decide +kernel
theorem dX11_goodLine_4 : decode cX11_goodLine 4 = .ok (.invokevirtual 157, 3) := by decide +kernel
theorem dX11_goodLine_7 : decode cX11_goodLine 7 = .ok (.ifCond .eq 26, 3) := by decide +kernel
theorem dX11_goodLine_10 : decode cX11_goodLine 10 = .ok (.aload_n 0, 1) := by decide +kernel
theorem dX11_goodLine_11 : decode cX11_goodLine 11 = .ok (.iconst 1, 1) := by decide +kernel
theorem dX11_goodLine_12 : decode cX11_goodLine 12 = .ok (.lload_n 1, 1) := by decide +kernel
theorem dX11_goodLine_13 : decode cX11_goodLine 13 = .ok (.ldc2_w 179, 3) := by decide +kernel
theorem dX11_goodLine_16 : decode cX11_goodLine 16 = .ok (.lcmp, 1) := by decide +kernel
theorem dX11_goodLine_17 : decode cX11_goodLine 17 = .ok (.ifCond .ne 7, 3) := by decide +kernel
theorem dX11_goodLine_20 : decode cX11_goodLine 20 = .ok (.iconst 1, 1) := by decide +kernel
theorem dX11_goodLine_21 : decode cX11_goodLine 21 = .ok (.goto 4, 3) := by decide +kernel
theorem dX11_goodLine_24 : decode cX11_goodLine 24 = .ok (.iconst 0, 1) := by decide +kernel
theorem dX11_goodLine_25 : decode cX11_goodLine 25 = .ok (.bipush 9, 2) := by decide +kernel
theorem dX11_goodLine_27 : decode cX11_goodLine 27 = .ok (.invokevirtual 157, 3) := by decide +kernel
theorem dX11_goodLine_30 : decode cX11_goodLine 30 = .ok (.ifCond .ne 5, 3) := by decide +kernel
theorem dX11_goodLine_33 : decode cX11_goodLine 33 = .ok (.iconst 0, 1) := by decide +kernel
theorem dX11_goodLine_34 : decode cX11_goodLine 34 = .ok (.ireturn, 1) := by decide +kernel
theorem dX11_goodLine_35 : decode cX11_goodLine 35 = .ok (.aload_n 0, 1) := by decide +kernel
theorem dX11_goodLine_36 : decode cX11_goodLine 36 = .ok (.lload_n 1, 1) := by decide +kernel
theorem dX11_goodLine_37 : decode cX11_goodLine 37 = .ok (.ldc2_w 179, 3) := by decide +kernel
theorem dX11_goodLine_40 : decode cX11_goodLine 40 = .ok (.lcmp, 1) := by decide +kernel
theorem dX11_goodLine_41 : decode cX11_goodLine 41 = .ok (.ifCond .ne 8, 3) := by decide +kernel
theorem dX11_goodLine_44 : decode cX11_goodLine 44 = .ok (.bipush 74, 2) := by decide +kernel
theorem dX11_goodLine_46 : decode cX11_goodLine 46 = .ok (.goto 5, 3) := by decide +kernel
theorem dX11_goodLine_49 : decode cX11_goodLine 49 = .ok (.bipush 79, 2) := by decide +kernel
theorem dX11_goodLine_51 : decode cX11_goodLine 51 = .ok (.aload_n 0, 1) := by decide +kernel
theorem dX11_goodLine_52 : decode cX11_goodLine 52 = .ok (.getfield 41, 3) := by decide +kernel
theorem dX11_goodLine_55 : decode cX11_goodLine 55 = .ok (.iconst 0, 1) := by decide +kernel
theorem dX11_goodLine_56 : decode cX11_goodLine 56 = .ok (.iaload, 1) := by decide +kernel
theorem dX11_goodLine_57 : decode cX11_goodLine 57 = .ok (.iadd, 1) := by decide +kernel
theorem dX11_goodLine_58 : decode cX11_goodLine 58 = .ok (.aload_n 0, 1) := by decide +kernel
theorem dX11_goodLine_59 : decode cX11_goodLine 59 = .ok (.getfield 41, 3) := by decide +kernel
theorem dX11_goodLine_62 : decode cX11_goodLine 62 = .ok (.iconst 1, 1) := by decide +kernel
theorem dX11_goodLine_63 : decode cX11_goodLine 63 = .ok (.iaload, 1) := by decide +kernel
theorem dX11_goodLine_64 : decode cX11_goodLine 64 = .ok (.invokevirtual 171, 3) := by decide +kernel
theorem dX11_goodLine_67 : decode cX11_goodLine 67 = .ok (.iconst 1, 1) := by decide +kernel
theorem dX11_goodLine_68 : decode cX11_goodLine 68 = .ok (.ireturn, 1) := by decide +kernel
abbrev mX11_goodLine : MI := (yX11_goodLine, cX11_goodLine, 3, (some .boolean), noE)
theorem okX11_goodLine : cok mX11_goodLine 1 := ⟨tw1454, tw11, by decide, by decide, by decide, by decide +kernel⟩
def fX11_goodLine (M : Mem) (a0 a1 : Int) : Option (Int × Mem) :=
  if M.2.1 a0 = 10 then (fX11_take M a0 0 0 4).bind fun r1 => if r1.1 = 0 then (some (0, r1.2)) else (jn (fun (t6 : Int) => if r1.2.2.1 a0 = 10 then (fX11_take r1.2 a0 1 t6 9).bind fun r7 => if r7.1 = 0 then (some (0, r7.2)) else (jn (fun (t12 : Int) => if r7.2.2.1 a0 = 10 then if r7.2.2.1 (r7.2.1 a0 20) = 12 ∧ (0 : Int) ≤ 0 ∧ 0 < r7.2.2.2.1 (r7.2.1 a0 20) then if r7.2.2.1 (r7.2.1 a0 20) = 12 ∧ (0 : Int) ≤ 1 ∧ 1 < r7.2.2.2.1 (r7.2.1 a0 20) then (fX11_lay r7.2 a0 (w32 (t12 + (r7.2.1 (r7.2.1 a0 20) 0))) (r7.2.1 (r7.2.1 a0 20) 1)).bind fun r16 => some (1, r16) else none else none else none) (fun (j11 : Int → Option (Int × Mem)) => if lcmp a1 131277443786868 = 0 then (j11 74) else (j11 79))) else none) (fun (j5 : Int → Option (Int × Mem)) => if lcmp a1 131277443786868 = 0 then (j5 1) else (j5 0))) else none
set_option maxRecDepth 100000 in
set_option maxHeartbeats 4000000 in
theorem kX11_goodLine (d : Nat) (hd : 4 ≤ d) (M : Mem) (a0 a1 : Int) : Ct mX11_goodLine d 0 0 [pA a0, pL a1] M dIM (fX11_goodLine M a0 a1) := by
  obtain ⟨d, rfl⟩ : ∃ k, d = k + 1 := ⟨d - 1, by omega⟩
  refine Ct.of 0 (fun _ _ _ => trivial) (by decide +kernel) rfl ?_
  unfold fX11_goodLine
  refine v_aload_n dX11_goodLine_0 rfl ?_
  refine v_iconst dX11_goodLine_1 (by decide) ?_
  refine v_iconst dX11_goodLine_2 (by decide) ?_
  refine v_iconst dX11_goodLine_3 (by decide) ?_
  refine v_if (fun h3 => ?_)
  refine v_cV (mi := mX11_goodLine) (c0 := 0) (c1 := 0) (As := [pI 0, pI 0, pI 4]) (st := []) (kX11_take d (by omega) _ _ _ _ _) rfl h3 rfl okX11_take (Or.inl tw1432) tw1434 tp42 rfl (Nat.le_of_ble_eq_true rfl) dX11_goodLine_4 (fun r1 => [pI r1.1]) (fun r1 => r1.2) (fun _ => rfl) (fun _ => rfl) (fun r1 h2 => ?_) rfl
  refine v_if_eq (tgt := 33) dX11_goodLine_7 (by decide) (fun c4 => ?_) (fun c4 => ?_)
  · refine v_iconst dX11_goodLine_33 (by decide) ?_
    exact v_breturn dX11_goodLine_34 rfl (by decide) rfl
  · refine v_aload_n dX11_goodLine_10 rfl ?_
    refine v_iconst dX11_goodLine_11 (by decide) ?_
    refine v_lload_n dX11_goodLine_12 rfl ?_
    refine v_ldc2 (n := 131277443786868) dX11_goodLine_13 (by decide) tw1408 ?_
    refine v_lcmp dX11_goodLine_16 ?_
    refine v_join (fun (t6 : Int) => [some (pA a0), some (pL a1), none]) (fun (t6 : Int) => [pI t6, pI 1, pA a0]) (fun (t6 : Int) => r1.2) 25 (fun t6 => ?_) (fun j5 hj5 => ?_)
    · refine v_bipush dX11_goodLine_25 (by decide) ?_
      refine v_if (fun h9 => ?_)
      refine v_cV (mi := mX11_goodLine) (c0 := 0) (c1 := 0) (As := [pI 1, pI t6, pI 9]) (st := []) (kX11_take d (by omega) _ _ _ _ _) rfl h9 rfl okX11_take (Or.inl tw1432) tw1434 tp42 rfl (Nat.le_of_ble_eq_true rfl) dX11_goodLine_27 (fun r7 => [pI r7.1]) (fun r7 => r7.2) (fun _ => rfl) (fun _ => rfl) (fun r7 h8 => ?_) rfl
      refine v_if_ne (tgt := 35) dX11_goodLine_30 (by decide) (fun c10 => ?_) (fun c10 => ?_)
      · refine v_iconst dX11_goodLine_33 (by decide) ?_
        exact v_breturn dX11_goodLine_34 rfl (by decide) rfl
      · refine v_aload_n dX11_goodLine_35 rfl ?_
        refine v_lload_n dX11_goodLine_36 rfl ?_
        refine v_ldc2 (n := 131277443786868) dX11_goodLine_37 (by decide) tw1408 ?_
        refine v_lcmp dX11_goodLine_40 ?_
        refine v_join (fun (t12 : Int) => [some (pA a0), none, none]) (fun (t12 : Int) => [pI t12, pA a0]) (fun (t12 : Int) => r7.2) 51 (fun t12 => ?_) (fun j11 hj11 => ?_)
        · refine v_aload_n dX11_goodLine_51 rfl ?_
          refine v_if (fun h13 => ?_)
          refine v_get (v := pA (r7.2.1 a0 20)) 10 20 rfl inX11 (by decide) tw1213 dX11_goodLine_52 h13 rfl ?_
          refine v_iconst dX11_goodLine_55 (by decide) ?_
          refine v_if (fun h14 => ?_)
          refine v_iaload h14 dX11_goodLine_56 ?_
          refine v_iadd dX11_goodLine_57 ?_
          refine v_aload_n dX11_goodLine_58 rfl ?_
          refine v_get (v := pA (r7.2.1 a0 20)) 10 20 rfl inX11 (by decide) tw1213 dX11_goodLine_59 h13 rfl ?_
          refine v_iconst dX11_goodLine_62 (by decide) ?_
          refine v_if (fun h15 => ?_)
          refine v_iaload h15 dX11_goodLine_63 ?_
          refine v_cV (mi := mX11_goodLine) (c0 := 0) (c1 := 0) (As := [pI (w32 (t12 + (r7.2.1 (r7.2.1 a0 20) 0))), pI (r7.2.1 (r7.2.1 a0 20) 1)]) (st := []) (kX11_lay d (by omega) _ _ _ _) rfl h13 rfl okX11_lay (Or.inl tw1443) tw1445 tp44 rfl (Nat.le_of_ble_eq_true rfl) dX11_goodLine_64 (fun r16 => []) (fun r16 => r16) (fun _ => rfl) (fun _ => rfl) (fun r16 h17 => ?_) rfl
          refine v_iconst dX11_goodLine_67 (by decide) ?_
          exact v_breturn dX11_goodLine_68 rfl (by decide) rfl
        · refine v_if_ne (tgt := 49) dX11_goodLine_41 (by decide) (fun c18 => ?_) (fun c18 => ?_)
          · refine v_bipush dX11_goodLine_44 (by decide) ?_
            refine v_goto (tgt := 51) dX11_goodLine_46 (by decide) ?_
            exact v_drop [some (pA a0), none, none] (ls_s (ls_n (ls_n ls_e))) (hj11 74)
          · refine v_bipush dX11_goodLine_49 (by decide) ?_
            exact v_drop [some (pA a0), none, none] (ls_s (ls_n (ls_n ls_e))) (hj11 79)
    · refine v_if_ne (tgt := 24) dX11_goodLine_17 (by decide) (fun c19 => ?_) (fun c19 => ?_)
      · refine v_iconst dX11_goodLine_20 (by decide) ?_
        refine v_goto (tgt := 25) dX11_goodLine_21 (by decide) ?_
        exact hj5 1
      · refine v_iconst dX11_goodLine_24 (by decide) ?_
        exact hj5 0
theorem dX11_townLine_0 : decode cX11_townLine 0 = .ok (.lload_n 1, 1) := by decide +kernel
theorem dX11_townLine_1 : decode cX11_townLine 1 = .ok (.ldc2_w 181, 3) := by decide +kernel
theorem dX11_townLine_4 : decode cX11_townLine 4 = .ok (.lcmp, 1) := by decide +kernel
theorem dX11_townLine_5 : decode cX11_townLine 5 = .ok (.ifCond .eq 72, 3) := by decide +kernel
theorem dX11_townLine_8 : decode cX11_townLine 8 = .ok (.lload_n 1, 1) := by decide +kernel
theorem dX11_townLine_9 : decode cX11_townLine 9 = .ok (.ldc2_w 183, 3) := by decide +kernel
theorem dX11_townLine_12 : decode cX11_townLine 12 = .ok (.lcmp, 1) := by decide +kernel
theorem dX11_townLine_13 : decode cX11_townLine 13 = .ok (.ifCond .eq 64, 3) := by decide +kernel
theorem dX11_townLine_16 : decode cX11_townLine 16 = .ok (.lload_n 1, 1) := by decide +kernel
theorem dX11_townLine_17 : decode cX11_townLine 17 = .ok (.ldc2_w 185, 3) := by decide +kernel
theorem dX11_townLine_20 : decode cX11_townLine 20 = .ok (.lcmp, 1) := by decide +kernel
theorem dX11_townLine_21 : decode cX11_townLine 21 = .ok (.ifCond .eq 56, 3) := by decide +kernel
theorem dX11_townLine_24 : decode cX11_townLine 24 = .ok (.lload_n 1, 1) := by decide +kernel
theorem dX11_townLine_25 : decode cX11_townLine 25 = .ok (.ldc2_w 177, 3) := by decide +kernel
theorem dX11_townLine_28 : decode cX11_townLine 28 = .ok (.lcmp, 1) := by decide +kernel
theorem dX11_townLine_29 : decode cX11_townLine 29 = .ok (.ifCond .eq 48, 3) := by decide +kernel
theorem dX11_townLine_32 : decode cX11_townLine 32 = .ok (.lload_n 1, 1) := by decide +kernel
theorem dX11_townLine_33 : decode cX11_townLine 33 = .ok (.ldc2_w 187, 3) := by decide +kernel
theorem dX11_townLine_36 : decode cX11_townLine 36 = .ok (.lcmp, 1) := by decide +kernel
theorem dX11_townLine_37 : decode cX11_townLine 37 = .ok (.ifCond .eq 40, 3) := by decide +kernel
theorem dX11_townLine_40 : decode cX11_townLine 40 = .ok (.lload_n 1, 1) := by decide +kernel
theorem dX11_townLine_41 : decode cX11_townLine 41 = .ok (.ldc2_w 179, 3) := by decide +kernel
theorem dX11_townLine_44 : decode cX11_townLine 44 = .ok (.lcmp, 1) := by decide +kernel
theorem dX11_townLine_45 : decode cX11_townLine 45 = .ok (.ifCond .eq 32, 3) := by decide +kernel
theorem dX11_townLine_48 : decode cX11_townLine 48 = .ok (.lload_n 1, 1) := by decide +kernel
theorem dX11_townLine_49 : decode cX11_townLine 49 = .ok (.ldc2_w 189, 3) := by decide +kernel
theorem dX11_townLine_52 : decode cX11_townLine 52 = .ok (.lcmp, 1) := by decide +kernel
theorem dX11_townLine_53 : decode cX11_townLine 53 = .ok (.ifCond .eq 24, 3) := by decide +kernel
theorem dX11_townLine_56 : decode cX11_townLine 56 = .ok (.lload_n 1, 1) := by decide +kernel
theorem dX11_townLine_57 : decode cX11_townLine 57 = .ok (.ldc2_w 191, 3) := by decide +kernel
theorem dX11_townLine_60 : decode cX11_townLine 60 = .ok (.lcmp, 1) := by decide +kernel
theorem dX11_townLine_61 : decode cX11_townLine 61 = .ok (.ifCond .eq 16, 3) := by decide +kernel
theorem dX11_townLine_64 : decode cX11_townLine 64 = .ok (.lload_n 1, 1) := by decide +kernel
theorem dX11_townLine_65 : decode cX11_townLine 65 = .ok (.ldc2_w 193, 3) := by decide +kernel
theorem dX11_townLine_68 : decode cX11_townLine 68 = .ok (.lcmp, 1) := by decide +kernel
theorem dX11_townLine_69 : decode cX11_townLine 69 = .ok (.ifCond .eq 8, 3) := by decide +kernel
theorem dX11_townLine_72 : decode cX11_townLine 72 = .ok (.aload_n 0, 1) := by decide +kernel
theorem dX11_townLine_73 : decode cX11_townLine 73 = .ok (.invokevirtual 138, 3) := by decide +kernel
theorem dX11_townLine_76 : decode cX11_townLine 76 = .ok (.ireturn, 1) := by decide +kernel
theorem dX11_townLine_77 : decode cX11_townLine 77 = .ok (.lload_n 1, 1) := by decide +kernel
theorem dX11_townLine_78 : decode cX11_townLine 78 = .ok (.ldc2_w 193, 3) := by decide +kernel
theorem dX11_townLine_81 : decode cX11_townLine 81 = .ok (.lcmp, 1) := by decide +kernel
theorem dX11_townLine_82 : decode cX11_townLine 82 = .ok (.ifCond .ne 10, 3) := by decide +kernel
theorem dX11_townLine_85 : decode cX11_townLine 85 = .ok (.aload_n 0, 1) := by decide +kernel
theorem dX11_townLine_86 : decode cX11_townLine 86 = .ok (.iconst 1, 1) := by decide +kernel
theorem dX11_townLine_87 : decode cX11_townLine 87 = .ok (.iconst 4, 1) := by decide +kernel
theorem dX11_townLine_88 : decode cX11_townLine 88 = .ok (.iload_n 3, 1) := by decide +kernel
theorem dX11_townLine_89 : decode cX11_townLine 89 = .ok (.invokevirtual 195, 3) := by decide +kernel
theorem dX11_townLine_92 : decode cX11_townLine 92 = .ok (.aload_n 0, 1) := by decide +kernel
theorem dX11_townLine_93 : decode cX11_townLine 93 = .ok (.invokevirtual 150, 3) := by decide +kernel
theorem dX11_townLine_96 : decode cX11_townLine 96 = .ok (.lload_n 1, 1) := by decide +kernel
theorem dX11_townLine_97 : decode cX11_townLine 97 = .ok (.ldc2_w 183, 3) := by decide +kernel
theorem dX11_townLine_100 : decode cX11_townLine 100 = .ok (.lcmp, 1) := by decide +kernel
theorem dX11_townLine_101 : decode cX11_townLine 101 = .ok (.ifCond .eq 11, 3) := by decide +kernel
theorem dX11_townLine_104 : decode cX11_townLine 104 = .ok (.lload_n 1, 1) := by decide +kernel
theorem dX11_townLine_105 : decode cX11_townLine 105 = .ok (.ldc2_w 185, 3) := by decide +kernel
theorem dX11_townLine_108 : decode cX11_townLine 108 = .ok (.lcmp, 1) := by decide +kernel
theorem dX11_townLine_109 : decode cX11_townLine 109 = .ok (.ifCond .ne 22, 3) := by decide +kernel
theorem dX11_townLine_112 : decode cX11_townLine 112 = .ok (.aload_n 0, 1) := by decide +kernel
theorem dX11_townLine_113 : decode cX11_townLine 113 = .ok (.lload_n 1, 1) := by decide +kernel
theorem dX11_townLine_114 : decode cX11_townLine 114 = .ok (.ldc2_w 183, 3) := by decide +kernel
theorem dX11_townLine_117 : decode cX11_townLine 117 = .ok (.lcmp, 1) := by decide +kernel
theorem dX11_townLine_118 : decode cX11_townLine 118 = .ok (.ifCond .ne 7, 3) := by decide +kernel
theorem dX11_townLine_121 : decode cX11_townLine 121 = .ok (.iconst 2, 1) := by decide +kernel
theorem dX11_townLine_122 : decode cX11_townLine 122 = .ok (.goto 5, 3) := by decide +kernel
theorem dX11_townLine_125 : decode cX11_townLine 125 = .ok (.bipush 32, 2) := by decide +kernel
theorem dX11_townLine_127 : decode cX11_townLine 127 = .ok (.invokevirtual 199, 3) := by decide +kernel
theorem dX11_townLine_130 : decode cX11_townLine 130 = .ok (.ireturn, 1) := by decide +kernel
theorem dX11_townLine_131 : decode cX11_townLine 131 = .ok (.lload_n 1, 1) := by decide +kernel
theorem dX11_townLine_132 : decode cX11_townLine 132 = .ok (.ldc2_w 177, 3) := by decide +kernel
theorem dX11_townLine_135 : decode cX11_townLine 135 = .ok (.lcmp, 1) := by decide +kernel
theorem dX11_townLine_136 : decode cX11_townLine 136 = .ok (.ifCond .eq 11, 3) := by decide +kernel
theorem dX11_townLine_139 : decode cX11_townLine 139 = .ok (.lload_n 1, 1) := by decide +kernel
theorem dX11_townLine_140 : decode cX11_townLine 140 = .ok (.ldc2_w 187, 3) := by decide +kernel
theorem dX11_townLine_143 : decode cX11_townLine 143 = .ok (.lcmp, 1) := by decide +kernel
theorem dX11_townLine_144 : decode cX11_townLine 144 = .ok (.ifCond .ne 9, 3) := by decide +kernel
theorem dX11_townLine_147 : decode cX11_townLine 147 = .ok (.aload_n 0, 1) := by decide +kernel
theorem dX11_townLine_148 : decode cX11_townLine 148 = .ok (.lload_n 1, 1) := by decide +kernel
theorem dX11_townLine_149 : decode cX11_townLine 149 = .ok (.invokevirtual 202, 3) := by decide +kernel
theorem dX11_townLine_152 : decode cX11_townLine 152 = .ok (.ireturn, 1) := by decide +kernel
theorem dX11_townLine_153 : decode cX11_townLine 153 = .ok (.lload_n 1, 1) := by decide +kernel
theorem dX11_townLine_154 : decode cX11_townLine 154 = .ok (.ldc2_w 179, 3) := by decide +kernel
theorem dX11_townLine_157 : decode cX11_townLine 157 = .ok (.lcmp, 1) := by decide +kernel
theorem dX11_townLine_158 : decode cX11_townLine 158 = .ok (.ifCond .eq 11, 3) := by decide +kernel
theorem dX11_townLine_161 : decode cX11_townLine 161 = .ok (.lload_n 1, 1) := by decide +kernel
theorem dX11_townLine_162 : decode cX11_townLine 162 = .ok (.ldc2_w 189, 3) := by decide +kernel
theorem dX11_townLine_165 : decode cX11_townLine 165 = .ok (.lcmp, 1) := by decide +kernel
theorem dX11_townLine_166 : decode cX11_townLine 166 = .ok (.ifCond .ne 9, 3) := by decide +kernel
theorem dX11_townLine_169 : decode cX11_townLine 169 = .ok (.aload_n 0, 1) := by decide +kernel
theorem dX11_townLine_170 : decode cX11_townLine 170 = .ok (.lload_n 1, 1) := by decide +kernel
theorem dX11_townLine_171 : decode cX11_townLine 171 = .ok (.invokevirtual 206, 3) := by decide +kernel
theorem dX11_townLine_174 : decode cX11_townLine 174 = .ok (.ireturn, 1) := by decide +kernel
theorem dX11_townLine_175 : decode cX11_townLine 175 = .ok (.lload_n 1, 1) := by decide +kernel
theorem dX11_townLine_176 : decode cX11_townLine 176 = .ok (.ldc2_w 191, 3) := by decide +kernel
theorem dX11_townLine_179 : decode cX11_townLine 179 = .ok (.lcmp, 1) := by decide +kernel
theorem dX11_townLine_180 : decode cX11_townLine 180 = .ok (.ifCond .ne 8, 3) := by decide +kernel
theorem dX11_townLine_183 : decode cX11_townLine 183 = .ok (.aload_n 0, 1) := by decide +kernel
theorem dX11_townLine_184 : decode cX11_townLine 184 = .ok (.invokevirtual 209, 3) := by decide +kernel
theorem dX11_townLine_187 : decode cX11_townLine 187 = .ok (.ireturn, 1) := by decide +kernel
theorem dX11_townLine_188 : decode cX11_townLine 188 = .ok (.aload_n 0, 1) := by decide +kernel
theorem dX11_townLine_189 : decode cX11_townLine 189 = .ok (.iconst 0, 1) := by decide +kernel
theorem dX11_townLine_190 : decode cX11_townLine 190 = .ok (.iconst 1, 1) := by decide +kernel
theorem dX11_townLine_191 : decode cX11_townLine 191 = .ok (.lload_n 1, 1) := by decide +kernel
theorem dX11_townLine_192 : decode cX11_townLine 192 = .ok (.ldc2_w 181, 3) := by decide +kernel
theorem dX11_townLine_195 : decode cX11_townLine 195 = .ok (.lcmp, 1) := by decide +kernel
theorem dX11_townLine_196 : decode cX11_townLine 196 = .ok (.ifCond .ne 8, 3) := by decide +kernel
theorem dX11_townLine_199 : decode cX11_townLine 199 = .ok (.bipush 6, 2) := by decide +kernel
theorem dX11_townLine_201 : decode cX11_townLine 201 = .ok (.goto 5, 3) := by decide +kernel
theorem dX11_townLine_204 : decode cX11_townLine 204 = .ok (.bipush 9, 2) := by decide +kernel
theorem dX11_townLine_206 : decode cX11_townLine 206 = .ok (.invokevirtual 157, 3) := by decide +kernel
theorem dX11_townLine_209 : decode cX11_townLine 209 = .ok (.ifCond .ne 5, 3) := by decide +kernel
theorem dX11_townLine_212 : decode cX11_townLine 212 = .ok (.iconst 0, 1) := by decide +kernel
theorem dX11_townLine_213 : decode cX11_townLine 213 = .ok (.ireturn, 1) := by decide +kernel
theorem dX11_townLine_214 : decode cX11_townLine 214 = .ok (.lload_n 1, 1) := by decide +kernel
theorem dX11_townLine_215 : decode cX11_townLine 215 = .ok (.ldc2_w 181, 3) := by decide +kernel
theorem dX11_townLine_218 : decode cX11_townLine 218 = .ok (.lcmp, 1) := by decide +kernel
theorem dX11_townLine_219 : decode cX11_townLine 219 = .ok (.ifCond .ne 18, 3) := by decide +kernel
theorem dX11_townLine_222 : decode cX11_townLine 222 = .ok (.aload_n 0, 1) := by decide +kernel
theorem dX11_townLine_223 : decode cX11_townLine 223 = .ok (.getfield 38, 3) := by decide +kernel
theorem dX11_townLine_226 : decode cX11_townLine 226 = .ok (.iconst 0, 1) := by decide +kernel
theorem dX11_townLine_227 : decode cX11_townLine 227 = .ok (.aload_n 0, 1) := by decide +kernel
theorem dX11_townLine_228 : decode cX11_townLine 228 = .ok (.getfield 41, 3) := by decide +kernel
theorem dX11_townLine_231 : decode cX11_townLine 231 = .ok (.iconst 0, 1) := by decide +kernel
theorem dX11_townLine_232 : decode cX11_townLine 232 = .ok (.iaload, 1) := by decide +kernel
theorem dX11_townLine_233 : decode cX11_townLine 233 = .ok (.iastore, 1) := by decide +kernel
theorem dX11_townLine_234 : decode cX11_townLine 234 = .ok (.goto 12, 3) := by decide +kernel
theorem dX11_townLine_237 : decode cX11_townLine 237 = .ok (.aload_n 0, 1) := by decide +kernel
theorem dX11_townLine_238 : decode cX11_townLine 238 = .ok (.iconst 1, 1) := by decide +kernel
theorem dX11_townLine_239 : decode cX11_townLine 239 = .ok (.bipush 84, 2) := by decide +kernel
theorem dX11_townLine_241 : decode cX11_townLine 241 = .ok (.iconst 1, 1) := by decide +kernel
theorem dX11_townLine_242 : decode cX11_townLine 242 = .ok (.iconst 4, 1) := by decide +kernel
theorem dX11_townLine_243 : decode cX11_townLine 243 = .ok (.invokevirtual 212, 3) := by decide +kernel
theorem dX11_townLine_246 : decode cX11_townLine 246 = .ok (.iconst 1, 1) := by decide +kernel
theorem dX11_townLine_247 : decode cX11_townLine 247 = .ok (.ireturn, 1) := by decide +kernel
abbrev mX11_townLine : MI := (yX11_townLine, cX11_townLine, 4, (some .boolean), noE)
theorem okX11_townLine : cok mX11_townLine 2 := ⟨tw1402, tw11, by decide, by decide, by decide, by decide +kernel⟩
def fX11_townLine (M : Mem) (a0 a1 a2 : Int) : Option (Int × Mem) :=
  jn (fun (t2 : Unit) => jn (fun (t4 : Mem) => if t4.2.1 a0 = 10 then (fX11_token t4 a0).bind fun r5 => jn (fun (t9 : Unit) => jn (fun (t11 : Int) => if r5.2.1 a0 = 10 then (fX11_goodsLine r5 a0 t11).bind fun r12 => if r12.1 = 0 ∨ r12.1 = 1 then some (r12.1, r12.2) else none else none) (fun (j10 : Int → Option (Int × Mem)) => if lcmp a1 6840691 = 0 then (j10 2) else (j10 32))) (fun (j8 : Unit → Option (Int × Mem)) => if lcmp a1 6840691 = 0 then (j8 ()) else (if lcmp a1 474147546227 = 0 then (j8 ()) else (jn (fun (t20 : Unit) => if r5.2.1 a0 = 10 then (fX11_houseLine r5 a0 a1).bind fun r21 => if r21.1 = 0 ∨ r21.1 = 1 then some (r21.1, r21.2) else none else none) (fun (j19 : Unit → Option (Int × Mem)) => if lcmp a1 512736125800 = 0 then (j19 ()) else (if lcmp a1 123563851081075 = 0 then (j19 ()) else (jn (fun (t28 : Unit) => if r5.2.1 a0 = 10 then (fX11_goodLine r5 a0 a1).bind fun r29 => if r29.1 = 0 ∨ r29.1 = 1 then some (r29.1, r29.2) else none else none) (fun (j27 : Unit → Option (Int × Mem)) => if lcmp a1 131277443786868 = 0 then (j27 ()) else (if lcmp a1 512970880104 = 0 then (j27 ()) else (if lcmp a1 7565166 = 0 then (if r5.2.1 a0 = 10 then (fX11_sonLine r5 a0).bind fun r36 => if r36.1 = 0 ∨ r36.1 = 1 then some (r36.1, r36.2) else none else none) else (jn (fun (t41 : Int) => if r5.2.1 a0 = 10 then (fX11_take r5 a0 0 1 t41).bind fun r42 => if r42.1 = 0 then (some (0, r42.2)) else (if lcmp a1 114827921155443 = 0 then (if r42.2.2.1 a0 = 10 then if r42.2.2.1 (r42.2.1 a0 20) = 12 ∧ (0 : Int) ≤ 0 ∧ 0 < r42.2.2.2.1 (r42.2.1 a0 20) then if r42.2.2.1 (r42.2.1 a0 19) = 12 ∧ (0 : Int) ≤ 0 ∧ 0 < r42.2.2.2.1 (r42.2.1 a0 19) then bM (mst r42.2 (r42.2.1 a0 19) 0 (r42.2.1 (r42.2.1 a0 20) 0)) fun M50 => some (1, M50) else none else none else none) else (if r42.2.2.1 a0 = 10 then (fX11_keep r42.2 a0 1 84 1 4).bind fun r52 => some (1, r52) else none)) else none) (fun (j40 : Int → Option (Int × Mem)) => if lcmp a1 114827921155443 = 0 then (j40 6) else (j40 9)))))))))))) else none) (fun (j3 : Mem → Option (Int × Mem)) => if lcmp a1 499967944038 = 0 then (if M.2.1 a0 = 10 then (fX11_full M a0 1 4 a2).bind fun r57 => j3 r57 else none) else (j3 M))) (fun (j1 : Unit → Option (Int × Mem)) => if lcmp a1 114827921155443 = 0 then (j1 ()) else (if lcmp a1 6840691 = 0 then (j1 ()) else (if lcmp a1 474147546227 = 0 then (j1 ()) else (if lcmp a1 512736125800 = 0 then (j1 ()) else (if lcmp a1 123563851081075 = 0 then (j1 ()) else (if lcmp a1 131277443786868 = 0 then (j1 ()) else (if lcmp a1 512970880104 = 0 then (j1 ()) else (if lcmp a1 7565166 = 0 then (j1 ()) else (if lcmp a1 499967944038 = 0 then (j1 ()) else (if M.2.1 a0 = 10 then (fX11_fails M a0).bind fun r69 => if r69.1 = 0 ∨ r69.1 = 1 then some (r69.1, r69.2) else none else none))))))))))
set_option maxRecDepth 100000 in
set_option maxHeartbeats 4000000 in
theorem kX11_townLine (d : Nat) (hd : 6 ≤ d) (M : Mem) (a0 a1 a2 : Int) : Ct mX11_townLine d 0 0 [pA a0, pL a1, pI a2] M dIM (fX11_townLine M a0 a1 a2) := by
  obtain ⟨d, rfl⟩ : ∃ k, d = k + 1 := ⟨d - 1, by omega⟩
  refine Ct.of 0 (fun _ _ _ => trivial) (by decide +kernel) rfl ?_
  unfold fX11_townLine
  refine v_lload_n dX11_townLine_0 rfl ?_
  refine v_ldc2 (n := 114827921155443) dX11_townLine_1 (by decide) tw1403 ?_
  refine v_lcmp dX11_townLine_4 ?_
  refine v_join (fun (t2 : Unit) => [some (pA a0), some (pL a1), none, some (pI a2)]) (fun (t2 : Unit) => []) (fun (t2 : Unit) => M) 77 (fun t2 => ?_) (fun j1 hj1 => ?_)
  · refine v_lload_n dX11_townLine_77 rfl ?_
    refine v_ldc2 (n := 499967944038) dX11_townLine_78 (by decide) tw1411 ?_
    refine v_lcmp dX11_townLine_81 ?_
    refine v_join (fun (t4 : Mem) => [some (pA a0), some (pL a1), none, none]) (fun (t4 : Mem) => []) (fun (t4 : Mem) => t4) 92 (fun t4 => ?_) (fun j3 hj3 => ?_)
    · refine v_aload_n dX11_townLine_92 rfl ?_
      refine v_if (fun h7 => ?_)
      refine v_cV (mi := mX11_townLine) (c0 := 0) (c1 := 0) (As := []) (st := []) (kX11_token d (by omega) _ _) rfl h7 rfl okX11_token (Or.inl tw1383) tw1385 tp32 rfl (Nat.le_of_ble_eq_true rfl) dX11_townLine_93 (fun r5 => []) (fun r5 => r5) (fun _ => rfl) (fun _ => rfl) (fun r5 h6 => ?_) rfl
      refine v_lload_n dX11_townLine_96 rfl ?_
      refine v_ldc2 (n := 6840691) dX11_townLine_97 (by decide) tw1404 ?_
      refine v_lcmp dX11_townLine_100 ?_
      refine v_join (fun (t9 : Unit) => [some (pA a0), some (pL a1), none, none]) (fun (t9 : Unit) => []) (fun (t9 : Unit) => r5) 112 (fun t9 => ?_) (fun j8 hj8 => ?_)
      · refine v_aload_n dX11_townLine_112 rfl ?_
        refine v_lload_n dX11_townLine_113 rfl ?_
        refine v_ldc2 (n := 6840691) dX11_townLine_114 (by decide) tw1404 ?_
        refine v_lcmp dX11_townLine_117 ?_
        refine v_join (fun (t11 : Int) => [none, none, none, none]) (fun (t11 : Int) => [pI t11, pA a0]) (fun (t11 : Int) => r5) 127 (fun t11 => ?_) (fun j10 hj10 => ?_)
        · refine v_if (fun h14 => ?_)
          refine v_cV (mi := mX11_townLine) (c0 := 0) (c1 := 0) (As := [pI t11]) (st := []) (kX11_goodsLine d (by omega) _ _ _) rfl h14 rfl okX11_goodsLine (Or.inl tw1424) tw1426 tp40 rfl (Nat.le_of_ble_eq_true rfl) dX11_townLine_127 (fun r12 => [pI r12.1]) (fun r12 => r12.2) (fun _ => rfl) (fun _ => rfl) (fun r12 h13 => ?_) rfl
          refine v_if (fun h15 => ?_)
          exact v_breturn dX11_townLine_130 rfl h15 rfl
        · refine v_if_ne (tgt := 125) dX11_townLine_118 (by decide) (fun c16 => ?_) (fun c16 => ?_)
          · refine v_iconst dX11_townLine_121 (by decide) ?_
            refine v_goto (tgt := 127) dX11_townLine_122 (by decide) ?_
            exact v_drop [none, none, none, none] (ls_n (ls_n (ls_n (ls_n ls_e)))) (hj10 2)
          · refine v_bipush dX11_townLine_125 (by decide) ?_
            exact v_drop [none, none, none, none] (ls_n (ls_n (ls_n (ls_n ls_e)))) (hj10 32)
      · refine v_if_eq (tgt := 112) dX11_townLine_101 (by decide) (fun c17 => ?_) (fun c17 => ?_)
        · exact hj8 ()
        · refine v_lload_n dX11_townLine_104 rfl ?_
          refine v_ldc2 (n := 474147546227) dX11_townLine_105 (by decide) tw1405 ?_
          refine v_lcmp dX11_townLine_108 ?_
          refine v_if_ne (tgt := 131) dX11_townLine_109 (by decide) (fun c18 => ?_) (fun c18 => ?_)
          · exact hj8 ()
          · refine v_lload_n dX11_townLine_131 rfl ?_
            refine v_ldc2 (n := 512736125800) dX11_townLine_132 (by decide) tw1406 ?_
            refine v_lcmp dX11_townLine_135 ?_
            refine v_join (fun (t20 : Unit) => [some (pA a0), some (pL a1), none, none]) (fun (t20 : Unit) => []) (fun (t20 : Unit) => r5) 147 (fun t20 => ?_) (fun j19 hj19 => ?_)
            · refine v_aload_n dX11_townLine_147 rfl ?_
              refine v_lload_n dX11_townLine_148 rfl ?_
              refine v_if (fun h23 => ?_)
              refine v_cV (mi := mX11_townLine) (c0 := 0) (c1 := 0) (As := [pL a1]) (st := []) (kX11_houseLine d (by omega) _ _ _) rfl h23 rfl okX11_houseLine (Or.inl tw1447) tw1449 tp45 rfl (Nat.le_of_ble_eq_true rfl) dX11_townLine_149 (fun r21 => [pI r21.1]) (fun r21 => r21.2) (fun _ => rfl) (fun _ => rfl) (fun r21 h22 => ?_) rfl
              refine v_if (fun h24 => ?_)
              exact v_breturn dX11_townLine_152 rfl h24 rfl
            · refine v_if_eq (tgt := 147) dX11_townLine_136 (by decide) (fun c25 => ?_) (fun c25 => ?_)
              · exact hj19 ()
              · refine v_lload_n dX11_townLine_139 rfl ?_
                refine v_ldc2 (n := 123563851081075) dX11_townLine_140 (by decide) tw1407 ?_
                refine v_lcmp dX11_townLine_143 ?_
                refine v_if_ne (tgt := 153) dX11_townLine_144 (by decide) (fun c26 => ?_) (fun c26 => ?_)
                · exact hj19 ()
                · refine v_lload_n dX11_townLine_153 rfl ?_
                  refine v_ldc2 (n := 131277443786868) dX11_townLine_154 (by decide) tw1408 ?_
                  refine v_lcmp dX11_townLine_157 ?_
                  refine v_join (fun (t28 : Unit) => [some (pA a0), some (pL a1), none, none]) (fun (t28 : Unit) => []) (fun (t28 : Unit) => r5) 169 (fun t28 => ?_) (fun j27 hj27 => ?_)
                  · refine v_aload_n dX11_townLine_169 rfl ?_
                    refine v_lload_n dX11_townLine_170 rfl ?_
                    refine v_if (fun h31 => ?_)
                    refine v_cV (mi := mX11_townLine) (c0 := 0) (c1 := 0) (As := [pL a1]) (st := []) (kX11_goodLine d (by omega) _ _ _) rfl h31 rfl okX11_goodLine (Or.inl tw1451) tw1453 tp46 rfl (Nat.le_of_ble_eq_true rfl) dX11_townLine_171 (fun r29 => [pI r29.1]) (fun r29 => r29.2) (fun _ => rfl) (fun _ => rfl) (fun r29 h30 => ?_) rfl
                    refine v_if (fun h32 => ?_)
                    exact v_breturn dX11_townLine_174 rfl h32 rfl
                  · refine v_if_eq (tgt := 169) dX11_townLine_158 (by decide) (fun c33 => ?_) (fun c33 => ?_)
                    · exact hj27 ()
                    · refine v_lload_n dX11_townLine_161 rfl ?_
                      refine v_ldc2 (n := 512970880104) dX11_townLine_162 (by decide) tw1409 ?_
                      refine v_lcmp dX11_townLine_165 ?_
                      refine v_if_ne (tgt := 175) dX11_townLine_166 (by decide) (fun c34 => ?_) (fun c34 => ?_)
                      · exact hj27 ()
                      · refine v_lload_n dX11_townLine_175 rfl ?_
                        refine v_ldc2 (n := 7565166) dX11_townLine_176 (by decide) tw1410 ?_
                        refine v_lcmp dX11_townLine_179 ?_
                        refine v_if_ne (tgt := 188) dX11_townLine_180 (by decide) (fun c35 => ?_) (fun c35 => ?_)
                        · refine v_aload_n dX11_townLine_183 rfl ?_
                          refine v_if (fun h38 => ?_)
                          refine v_cV (mi := mX11_townLine) (c0 := 0) (c1 := 0) (As := []) (st := []) (kX11_sonLine d (by omega) _ _) rfl h38 rfl okX11_sonLine (Or.inl tw1455) tw1457 tp47 rfl (Nat.le_of_ble_eq_true rfl) dX11_townLine_184 (fun r36 => [pI r36.1]) (fun r36 => r36.2) (fun _ => rfl) (fun _ => rfl) (fun r36 h37 => ?_) rfl
                          refine v_if (fun h39 => ?_)
                          exact v_breturn dX11_townLine_187 rfl h39 rfl
                        · refine v_aload_n dX11_townLine_188 rfl ?_
                          refine v_iconst dX11_townLine_189 (by decide) ?_
                          refine v_iconst dX11_townLine_190 (by decide) ?_
                          refine v_lload_n dX11_townLine_191 rfl ?_
                          refine v_ldc2 (n := 114827921155443) dX11_townLine_192 (by decide) tw1403 ?_
                          refine v_lcmp dX11_townLine_195 ?_
                          refine v_join (fun (t41 : Int) => [some (pA a0), some (pL a1), none, none]) (fun (t41 : Int) => [pI t41, pI 1, pI 0, pA a0]) (fun (t41 : Int) => r5) 206 (fun t41 => ?_) (fun j40 hj40 => ?_)
                          · refine v_if (fun h44 => ?_)
                            refine v_cV (mi := mX11_townLine) (c0 := 0) (c1 := 0) (As := [pI 0, pI 1, pI t41]) (st := []) (kX11_take d (by omega) _ _ _ _ _) rfl h44 rfl okX11_take (Or.inl tw1432) tw1434 tp42 rfl (Nat.le_of_ble_eq_true rfl) dX11_townLine_206 (fun r42 => [pI r42.1]) (fun r42 => r42.2) (fun _ => rfl) (fun _ => rfl) (fun r42 h43 => ?_) rfl
                            refine v_if_ne (tgt := 214) dX11_townLine_209 (by decide) (fun c45 => ?_) (fun c45 => ?_)
                            · refine v_iconst dX11_townLine_212 (by decide) ?_
                              exact v_breturn dX11_townLine_213 rfl (by decide) rfl
                            · refine v_lload_n dX11_townLine_214 rfl ?_
                              refine v_ldc2 (n := 114827921155443) dX11_townLine_215 (by decide) tw1403 ?_
                              refine v_lcmp dX11_townLine_218 ?_
                              refine v_if_ne (tgt := 237) dX11_townLine_219 (by decide) (fun c46 => ?_) (fun c46 => ?_)
                              · refine v_aload_n dX11_townLine_222 rfl ?_
                                refine v_if (fun h47 => ?_)
                                refine v_get (v := pA (r42.2.1 a0 19)) 10 19 rfl inX11 (by decide) tw1212 dX11_townLine_223 h47 rfl ?_
                                refine v_iconst dX11_townLine_226 (by decide) ?_
                                refine v_aload_n dX11_townLine_227 rfl ?_
                                refine v_get (v := pA (r42.2.1 a0 20)) 10 20 rfl inX11 (by decide) tw1213 dX11_townLine_228 h47 rfl ?_
                                refine v_iconst dX11_townLine_231 (by decide) ?_
                                refine v_if (fun h48 => ?_)
                                refine v_iaload h48 dX11_townLine_232 ?_
                                refine v_if (fun h49 => ?_)
                                refine v_iastore h49 dX11_townLine_233 ?_
                                refine v_bM (fun M50 e51 => ?_)
                                refine v_goto (tgt := 246) dX11_townLine_234 (by decide) ?_
                                refine v_iconst dX11_townLine_246 (by decide) ?_
                                exact v_breturn dX11_townLine_247 rfl (by decide) rfl
                              · refine v_aload_n dX11_townLine_237 rfl ?_
                                refine v_iconst dX11_townLine_238 (by decide) ?_
                                refine v_bipush dX11_townLine_239 (by decide) ?_
                                refine v_iconst dX11_townLine_241 (by decide) ?_
                                refine v_iconst dX11_townLine_242 (by decide) ?_
                                refine v_if (fun h54 => ?_)
                                refine v_cV (mi := mX11_townLine) (c0 := 0) (c1 := 0) (As := [pI 1, pI 84, pI 1, pI 4]) (st := []) (kX11_keep d (by omega) _ _ _ _ _ _) rfl h54 rfl okX11_keep (Or.inl tw1459) tw1461 tp48 rfl (Nat.le_of_ble_eq_true rfl) dX11_townLine_243 (fun r52 => []) (fun r52 => r52) (fun _ => rfl) (fun _ => rfl) (fun r52 h53 => ?_) rfl
                                refine v_iconst dX11_townLine_246 (by decide) ?_
                                exact v_breturn dX11_townLine_247 rfl (by decide) rfl
                          · refine v_if_ne (tgt := 204) dX11_townLine_196 (by decide) (fun c55 => ?_) (fun c55 => ?_)
                            · refine v_bipush dX11_townLine_199 (by decide) ?_
                              refine v_goto (tgt := 206) dX11_townLine_201 (by decide) ?_
                              exact hj40 6
                            · refine v_bipush dX11_townLine_204 (by decide) ?_
                              exact hj40 9
    · refine v_if_ne (tgt := 92) dX11_townLine_82 (by decide) (fun c56 => ?_) (fun c56 => ?_)
      · refine v_aload_n dX11_townLine_85 rfl ?_
        refine v_iconst dX11_townLine_86 (by decide) ?_
        refine v_iconst dX11_townLine_87 (by decide) ?_
        refine v_iload_n dX11_townLine_88 rfl ?_
        refine v_if (fun h59 => ?_)
        refine v_cV (mi := mX11_townLine) (c0 := 0) (c1 := 0) (As := [pI 1, pI 4, pI a2]) (st := []) (kX11_full d (by omega) _ _ _ _ _) rfl h59 rfl okX11_full (Or.inl tw1416) tw1418 tp38 rfl (Nat.le_of_ble_eq_true rfl) dX11_townLine_89 (fun r57 => []) (fun r57 => r57) (fun _ => rfl) (fun _ => rfl) (fun r57 h58 => ?_) rfl
        exact v_drop [some (pA a0), some (pL a1), none, none] (ls_s (ls_s (ls_n (ls_n ls_e)))) (hj3 r57)
      · exact v_drop [some (pA a0), some (pL a1), none, none] (ls_s (ls_s (ls_n (ls_n ls_e)))) (hj3 M)
  · refine v_if_eq (tgt := 77) dX11_townLine_5 (by decide) (fun c60 => ?_) (fun c60 => ?_)
    · exact hj1 ()
    · refine v_lload_n dX11_townLine_8 rfl ?_
      refine v_ldc2 (n := 6840691) dX11_townLine_9 (by decide) tw1404 ?_
      refine v_lcmp dX11_townLine_12 ?_
      refine v_if_eq (tgt := 77) dX11_townLine_13 (by decide) (fun c61 => ?_) (fun c61 => ?_)
      · exact hj1 ()
      · refine v_lload_n dX11_townLine_16 rfl ?_
        refine v_ldc2 (n := 474147546227) dX11_townLine_17 (by decide) tw1405 ?_
        refine v_lcmp dX11_townLine_20 ?_
        refine v_if_eq (tgt := 77) dX11_townLine_21 (by decide) (fun c62 => ?_) (fun c62 => ?_)
        · exact hj1 ()
        · refine v_lload_n dX11_townLine_24 rfl ?_
          refine v_ldc2 (n := 512736125800) dX11_townLine_25 (by decide) tw1406 ?_
          refine v_lcmp dX11_townLine_28 ?_
          refine v_if_eq (tgt := 77) dX11_townLine_29 (by decide) (fun c63 => ?_) (fun c63 => ?_)
          · exact hj1 ()
          · refine v_lload_n dX11_townLine_32 rfl ?_
            refine v_ldc2 (n := 123563851081075) dX11_townLine_33 (by decide) tw1407 ?_
            refine v_lcmp dX11_townLine_36 ?_
            refine v_if_eq (tgt := 77) dX11_townLine_37 (by decide) (fun c64 => ?_) (fun c64 => ?_)
            · exact hj1 ()
            · refine v_lload_n dX11_townLine_40 rfl ?_
              refine v_ldc2 (n := 131277443786868) dX11_townLine_41 (by decide) tw1408 ?_
              refine v_lcmp dX11_townLine_44 ?_
              refine v_if_eq (tgt := 77) dX11_townLine_45 (by decide) (fun c65 => ?_) (fun c65 => ?_)
              · exact hj1 ()
              · refine v_lload_n dX11_townLine_48 rfl ?_
                refine v_ldc2 (n := 512970880104) dX11_townLine_49 (by decide) tw1409 ?_
                refine v_lcmp dX11_townLine_52 ?_
                refine v_if_eq (tgt := 77) dX11_townLine_53 (by decide) (fun c66 => ?_) (fun c66 => ?_)
                · exact hj1 ()
                · refine v_lload_n dX11_townLine_56 rfl ?_
                  refine v_ldc2 (n := 7565166) dX11_townLine_57 (by decide) tw1410 ?_
                  refine v_lcmp dX11_townLine_60 ?_
                  refine v_if_eq (tgt := 77) dX11_townLine_61 (by decide) (fun c67 => ?_) (fun c67 => ?_)
                  · exact hj1 ()
                  · refine v_lload_n dX11_townLine_64 rfl ?_
                    refine v_ldc2 (n := 499967944038) dX11_townLine_65 (by decide) tw1411 ?_
                    refine v_lcmp dX11_townLine_68 ?_
                    refine v_if_eq (tgt := 77) dX11_townLine_69 (by decide) (fun c68 => ?_) (fun c68 => ?_)
                    · exact hj1 ()
                    · refine v_aload_n dX11_townLine_72 rfl ?_
                      refine v_if (fun h71 => ?_)
                      refine v_cV (mi := mX11_townLine) (c0 := 0) (c1 := 0) (As := []) (st := []) (kX11_fails d (by omega) _ _) rfl h71 rfl okX11_fails (Or.inl tw1412) tw1414 tp37 rfl (Nat.le_of_ble_eq_true rfl) dX11_townLine_73 (fun r69 => [pI r69.1]) (fun r69 => r69.2) (fun _ => rfl) (fun _ => rfl) (fun r69 h70 => ?_) rfl
                      refine v_if (fun h72 => ?_)
                      exact v_breturn dX11_townLine_76 rfl h72 rfl
theorem dX11_lawLine_0 : decode cX11_lawLine 0 = .ok (.lload_n 1, 1) := by decide +kernel
theorem dX11_lawLine_1 : decode cX11_lawLine 1 = .ok (.ldc2_w 216, 3) := by decide +kernel
theorem dX11_lawLine_4 : decode cX11_lawLine 4 = .ok (.lcmp, 1) := by decide +kernel
theorem dX11_lawLine_5 : decode cX11_lawLine 5 = .ok (.ifCond .eq 24, 3) := by decide +kernel
theorem dX11_lawLine_8 : decode cX11_lawLine 8 = .ok (.lload_n 1, 1) := by decide +kernel
theorem dX11_lawLine_9 : decode cX11_lawLine 9 = .ok (.ldc2_w 218, 3) := by decide +kernel
theorem dX11_lawLine_12 : decode cX11_lawLine 12 = .ok (.lcmp, 1) := by decide +kernel
theorem dX11_lawLine_13 : decode cX11_lawLine 13 = .ok (.ifCond .eq 16, 3) := by decide +kernel
theorem dX11_lawLine_16 : decode cX11_lawLine 16 = .ok (.lload_n 1, 1) := by decide +kernel
theorem dX11_lawLine_17 : decode cX11_lawLine 17 = .ok (.ldc2_w 220, 3) := by decide +kernel
theorem dX11_lawLine_20 : decode cX11_lawLine 20 = .ok (.lcmp, 1) := by decide +kernel
theorem dX11_lawLine_21 : decode cX11_lawLine 21 = .ok (.ifCond .eq 8, 3) := by decide +kernel
theorem dX11_lawLine_24 : decode cX11_lawLine 24 = .ok (.aload_n 0, 1) := by decide +kernel
theorem dX11_lawLine_25 : decode cX11_lawLine 25 = .ok (.invokevirtual 138, 3) := by decide +kernel
theorem dX11_lawLine_28 : decode cX11_lawLine 28 = .ok (.ireturn, 1) := by decide +kernel
theorem dX11_lawLine_29 : decode cX11_lawLine 29 = .ok (.aload_n 0, 1) := by decide +kernel
theorem dX11_lawLine_30 : decode cX11_lawLine 30 = .ok (.invokevirtual 150, 3) := by decide +kernel
theorem dX11_lawLine_33 : decode cX11_lawLine 33 = .ok (.aload_n 0, 1) := by decide +kernel
theorem dX11_lawLine_34 : decode cX11_lawLine 34 = .ok (.iconst 0, 1) := by decide +kernel
theorem dX11_lawLine_35 : decode cX11_lawLine 35 = .ok (.lload_n 1, 1) := by decide +kernel
theorem dX11_lawLine_36 : decode cX11_lawLine 36 = .ok (.ldc2_w 216, 3) := by decide +kernel
theorem dX11_lawLine_39 : decode cX11_lawLine 39 = .ok (.lcmp, 1) := by decide +kernel
theorem dX11_lawLine_40 : decode cX11_lawLine 40 = .ok (.ifCond .ne 7, 3) := by decide +kernel
theorem dX11_lawLine_43 : decode cX11_lawLine 43 = .ok (.iconst 2, 1) := by decide +kernel
theorem dX11_lawLine_44 : decode cX11_lawLine 44 = .ok (.goto 16, 3) := by decide +kernel
theorem dX11_lawLine_47 : decode cX11_lawLine 47 = .ok (.lload_n 1, 1) := by decide +kernel
theorem dX11_lawLine_48 : decode cX11_lawLine 48 = .ok (.ldc2_w 218, 3) := by decide +kernel
theorem dX11_lawLine_51 : decode cX11_lawLine 51 = .ok (.lcmp, 1) := by decide +kernel
theorem dX11_lawLine_52 : decode cX11_lawLine 52 = .ok (.ifCond .ne 7, 3) := by decide +kernel
theorem dX11_lawLine_55 : decode cX11_lawLine 55 = .ok (.iconst 1, 1) := by decide +kernel
theorem dX11_lawLine_56 : decode cX11_lawLine 56 = .ok (.goto 4, 3) := by decide +kernel
theorem dX11_lawLine_59 : decode cX11_lawLine 59 = .ok (.iconst 0, 1) := by decide +kernel
theorem dX11_lawLine_60 : decode cX11_lawLine 60 = .ok (.lload_n 1, 1) := by decide +kernel
theorem dX11_lawLine_61 : decode cX11_lawLine 61 = .ok (.ldc2_w 216, 3) := by decide +kernel
theorem dX11_lawLine_64 : decode cX11_lawLine 64 = .ok (.lcmp, 1) := by decide +kernel
theorem dX11_lawLine_65 : decode cX11_lawLine 65 = .ok (.ifCond .ne 7, 3) := by decide +kernel
theorem dX11_lawLine_68 : decode cX11_lawLine 68 = .ok (.iconst 5, 1) := by decide +kernel
theorem dX11_lawLine_69 : decode cX11_lawLine 69 = .ok (.goto 18, 3) := by decide +kernel
theorem dX11_lawLine_72 : decode cX11_lawLine 72 = .ok (.lload_n 1, 1) := by decide +kernel
theorem dX11_lawLine_73 : decode cX11_lawLine 73 = .ok (.ldc2_w 218, 3) := by decide +kernel
theorem dX11_lawLine_76 : decode cX11_lawLine 76 = .ok (.lcmp, 1) := by decide +kernel
theorem dX11_lawLine_77 : decode cX11_lawLine 77 = .ok (.ifCond .ne 8, 3) := by decide +kernel
theorem dX11_lawLine_80 : decode cX11_lawLine 80 = .ok (.bipush 99, 2) := by decide +kernel
theorem dX11_lawLine_82 : decode cX11_lawLine 82 = .ok (.goto 5, 3) := by decide +kernel
theorem dX11_lawLine_85 : decode cX11_lawLine 85 = .ok (.bipush 19, 2) := by decide +kernel
theorem dX11_lawLine_87 : decode cX11_lawLine 87 = .ok (.invokevirtual 157, 3) := by decide +kernel
theorem dX11_lawLine_90 : decode cX11_lawLine 90 = .ok (.ifCond .ne 5, 3) := by decide +kernel
theorem dX11_lawLine_93 : decode cX11_lawLine 93 = .ok (.iconst 0, 1) := by decide +kernel
theorem dX11_lawLine_94 : decode cX11_lawLine 94 = .ok (.ireturn, 1) := by decide +kernel
theorem dX11_lawLine_95 : decode cX11_lawLine 95 = .ok (.lload_n 1, 1) := by decide +kernel
theorem dX11_lawLine_96 : decode cX11_lawLine 96 = .ok (.ldc2_w 220, 3) := by decide +kernel
theorem dX11_lawLine_99 : decode cX11_lawLine 99 = .ok (.lcmp, 1) := by decide +kernel
theorem dX11_lawLine_100 : decode cX11_lawLine 100 = .ok (.ifCond .ne 34, 3) := by decide +kernel
theorem dX11_lawLine_103 : decode cX11_lawLine 103 = .ok (.aload_n 0, 1) := by decide +kernel
theorem dX11_lawLine_104 : decode cX11_lawLine 104 = .ok (.getfield 38, 3) := by decide +kernel
theorem dX11_lawLine_107 : decode cX11_lawLine 107 = .ok (.iconst 2, 1) := by decide +kernel
theorem dX11_lawLine_108 : decode cX11_lawLine 108 = .ok (.dup2, 1) := by decide +kernel
theorem dX11_lawLine_109 : decode cX11_lawLine 109 = .ok (.iaload, 1) := by decide +kernel
theorem dX11_lawLine_110 : decode cX11_lawLine 110 = .ok (.aload_n 0, 1) := by decide +kernel
theorem dX11_lawLine_111 : decode cX11_lawLine 111 = .ok (.getfield 146, 3) := by decide +kernel
theorem dX11_lawLine_114 : decode cX11_lawLine 114 = .ok (.ifCond .eq 14, 3) := by decide +kernel
theorem dX11_lawLine_117 : decode cX11_lawLine 117 = .ok (.iconst 1, 1) := by decide +kernel
theorem dX11_lawLine_118 : decode cX11_lawLine 118 = .ok (.aload_n 0, 1) := by decide +kernel
theorem dX11_lawLine_119 : decode cX11_lawLine 119 = .ok (.getfield 41, 3) := by decide +kernel
theorem dX11_lawLine_122 : decode cX11_lawLine 122 = .ok (.iconst 0, 1) := by decide +kernel
theorem dX11_lawLine_123 : decode cX11_lawLine 123 = .ok (.iaload, 1) := by decide +kernel
theorem dX11_lawLine_124 : decode cX11_lawLine 124 = .ok (.ishl, 1) := by decide +kernel
theorem dX11_lawLine_125 : decode cX11_lawLine 125 = .ok (.goto 4, 3) := by decide +kernel
theorem dX11_lawLine_128 : decode cX11_lawLine 128 = .ok (.iconst 0, 1) := by decide +kernel
theorem dX11_lawLine_129 : decode cX11_lawLine 129 = .ok (.ior, 1) := by decide +kernel
theorem dX11_lawLine_130 : decode cX11_lawLine 130 = .ok (.iastore, 1) := by decide +kernel
theorem dX11_lawLine_131 : decode cX11_lawLine 131 = .ok (.goto 27, 3) := by decide +kernel
theorem dX11_lawLine_134 : decode cX11_lawLine 134 = .ok (.aload_n 0, 1) := by decide +kernel
theorem dX11_lawLine_135 : decode cX11_lawLine 135 = .ok (.getfield 38, 3) := by decide +kernel
theorem dX11_lawLine_138 : decode cX11_lawLine 138 = .ok (.lload_n 1, 1) := by decide +kernel
theorem dX11_lawLine_139 : decode cX11_lawLine 139 = .ok (.ldc2_w 216, 3) := by decide +kernel
theorem dX11_lawLine_142 : decode cX11_lawLine 142 = .ok (.lcmp, 1) := by decide +kernel
theorem dX11_lawLine_143 : decode cX11_lawLine 143 = .ok (.ifCond .ne 7, 3) := by decide +kernel
theorem dX11_lawLine_146 : decode cX11_lawLine 146 = .ok (.iconst 0, 1) := by decide +kernel
theorem dX11_lawLine_147 : decode cX11_lawLine 147 = .ok (.goto 4, 3) := by decide +kernel
theorem dX11_lawLine_150 : decode cX11_lawLine 150 = .ok (.iconst 1, 1) := by decide +kernel
theorem dX11_lawLine_151 : decode cX11_lawLine 151 = .ok (.aload_n 0, 1) := by decide +kernel
theorem dX11_lawLine_152 : decode cX11_lawLine 152 = .ok (.getfield 41, 3) := by decide +kernel
theorem dX11_lawLine_155 : decode cX11_lawLine 155 = .ok (.iconst 0, 1) := by decide +kernel
theorem dX11_lawLine_156 : decode cX11_lawLine 156 = .ok (.iaload, 1) := by decide +kernel
theorem dX11_lawLine_157 : decode cX11_lawLine 157 = .ok (.iastore, 1) := by decide +kernel
theorem dX11_lawLine_158 : decode cX11_lawLine 158 = .ok (.iconst 1, 1) := by decide +kernel
theorem dX11_lawLine_159 : decode cX11_lawLine 159 = .ok (.ireturn, 1) := by decide +kernel
abbrev mX11_lawLine : MI := (yX11_lawLine, cX11_lawLine, 3, (some .boolean), noE)
theorem okX11_lawLine : cok mX11_lawLine 1 := ⟨tw1466, tw11, by decide, by decide, by decide, by decide +kernel⟩
def fX11_lawLine (M : Mem) (a0 a1 : Int) : Option (Int × Mem) :=
  jn (fun (t2 : Unit) => if M.2.1 a0 = 10 then (fX11_token M a0).bind fun r3 => jn (fun (t7 : Int) => jn (fun (t9 : Int) => if r3.2.1 a0 = 10 then (fX11_take r3 a0 0 t7 t9).bind fun r10 => if r10.1 = 0 then (some (0, r10.2)) else (if lcmp a1 110429873532005 = 0 then (if r10.2.2.1 a0 = 10 then if r10.2.2.1 (r10.2.1 a0 19) = 12 ∧ (0 : Int) ≤ 2 ∧ 2 < r10.2.2.2.1 (r10.2.1 a0 19) then jn (fun (t18 : Int) => if r10.2.2.1 (r10.2.1 a0 19) = 12 ∧ (0 : Int) ≤ 2 ∧ 2 < r10.2.2.2.1 (r10.2.1 a0 19) then bM (mst r10.2 (r10.2.1 a0 19) 2 (bOr (r10.2.1 (r10.2.1 a0 19) 2) t18)) fun M20 => some (1, M20) else none) (fun (j17 : Int → Option (Int × Mem)) => if r10.2.1 a0 23 = 0 then (j17 0) else (if r10.2.2.1 (r10.2.1 a0 20) = 12 ∧ (0 : Int) ≤ 0 ∧ 0 < r10.2.2.2.1 (r10.2.1 a0 20) then j17 (bShl 1 (r10.2.1 (r10.2.1 a0 20) 0)) else none)) else none else none) else (if r10.2.2.1 a0 = 10 then jn (fun (t26 : Int) => if r10.2.2.1 (r10.2.1 a0 20) = 12 ∧ (0 : Int) ≤ 0 ∧ 0 < r10.2.2.2.1 (r10.2.1 a0 20) then if r10.2.2.1 (r10.2.1 a0 19) = 12 ∧ (0 : Int) ≤ t26 ∧ t26 < r10.2.2.2.1 (r10.2.1 a0 19) then bM (mst r10.2 (r10.2.1 a0 19) t26 (r10.2.1 (r10.2.1 a0 20) 0)) fun M29 => some (1, M29) else none else none) (fun (j25 : Int → Option (Int × Mem)) => if lcmp a1 1918989413 = 0 then (j25 0) else (j25 1)) else none)) else none) (fun (j8 : Int → Option (Int × Mem)) => if lcmp a1 1918989413 = 0 then (j8 5) else (if lcmp a1 426836779880 = 0 then (j8 99) else (j8 19)))) (fun (j6 : Int → Option (Int × Mem)) => if lcmp a1 1918989413 = 0 then (j6 2) else (if lcmp a1 426836779880 = 0 then (j6 1) else (j6 0))) else none) (fun (j1 : Unit → Option (Int × Mem)) => if lcmp a1 1918989413 = 0 then (j1 ()) else (if lcmp a1 426836779880 = 0 then (j1 ()) else (if lcmp a1 110429873532005 = 0 then (j1 ()) else (if M.2.1 a0 = 10 then (fX11_fails M a0).bind fun r39 => if r39.1 = 0 ∨ r39.1 = 1 then some (r39.1, r39.2) else none else none))))
set_option maxRecDepth 100000 in
set_option maxHeartbeats 4000000 in
theorem kX11_lawLine (d : Nat) (hd : 4 ≤ d) (M : Mem) (a0 a1 : Int) : Ct mX11_lawLine d 0 0 [pA a0, pL a1] M dIM (fX11_lawLine M a0 a1) := by
  obtain ⟨d, rfl⟩ : ∃ k, d = k + 1 := ⟨d - 1, by omega⟩
  refine Ct.of 0 (fun _ _ _ => trivial) (by decide +kernel) rfl ?_
  unfold fX11_lawLine
  refine v_lload_n dX11_lawLine_0 rfl ?_
  refine v_ldc2 (n := 1918989413) dX11_lawLine_1 (by decide) tw1467 ?_
  refine v_lcmp dX11_lawLine_4 ?_
  refine v_join (fun (t2 : Unit) => [some (pA a0), some (pL a1), none]) (fun (t2 : Unit) => []) (fun (t2 : Unit) => M) 29 (fun t2 => ?_) (fun j1 hj1 => ?_)
  · refine v_aload_n dX11_lawLine_29 rfl ?_
    refine v_if (fun h5 => ?_)
    refine v_cV (mi := mX11_lawLine) (c0 := 0) (c1 := 0) (As := []) (st := []) (kX11_token d (by omega) _ _) rfl h5 rfl okX11_token (Or.inl tw1383) tw1385 tp32 rfl (Nat.le_of_ble_eq_true rfl) dX11_lawLine_30 (fun r3 => []) (fun r3 => r3) (fun _ => rfl) (fun _ => rfl) (fun r3 h4 => ?_) rfl
    refine v_aload_n dX11_lawLine_33 rfl ?_
    refine v_iconst dX11_lawLine_34 (by decide) ?_
    refine v_lload_n dX11_lawLine_35 rfl ?_
    refine v_ldc2 (n := 1918989413) dX11_lawLine_36 (by decide) tw1467 ?_
    refine v_lcmp dX11_lawLine_39 ?_
    refine v_join (fun (t7 : Int) => [some (pA a0), some (pL a1), none]) (fun (t7 : Int) => [pI t7, pI 0, pA a0]) (fun (t7 : Int) => r3) 60 (fun t7 => ?_) (fun j6 hj6 => ?_)
    · refine v_lload_n dX11_lawLine_60 rfl ?_
      refine v_ldc2 (n := 1918989413) dX11_lawLine_61 (by decide) tw1467 ?_
      refine v_lcmp dX11_lawLine_64 ?_
      refine v_join (fun (t9 : Int) => [some (pA a0), some (pL a1), none]) (fun (t9 : Int) => [pI t9, pI t7, pI 0, pA a0]) (fun (t9 : Int) => r3) 87 (fun t9 => ?_) (fun j8 hj8 => ?_)
      · refine v_if (fun h12 => ?_)
        refine v_cV (mi := mX11_lawLine) (c0 := 0) (c1 := 0) (As := [pI 0, pI t7, pI t9]) (st := []) (kX11_take d (by omega) _ _ _ _ _) rfl h12 rfl okX11_take (Or.inl tw1432) tw1434 tp42 rfl (Nat.le_of_ble_eq_true rfl) dX11_lawLine_87 (fun r10 => [pI r10.1]) (fun r10 => r10.2) (fun _ => rfl) (fun _ => rfl) (fun r10 h11 => ?_) rfl
        refine v_if_ne (tgt := 95) dX11_lawLine_90 (by decide) (fun c13 => ?_) (fun c13 => ?_)
        · refine v_iconst dX11_lawLine_93 (by decide) ?_
          exact v_breturn dX11_lawLine_94 rfl (by decide) rfl
        · refine v_lload_n dX11_lawLine_95 rfl ?_
          refine v_ldc2 (n := 110429873532005) dX11_lawLine_96 (by decide) tw1469 ?_
          refine v_lcmp dX11_lawLine_99 ?_
          refine v_if_ne (tgt := 134) dX11_lawLine_100 (by decide) (fun c14 => ?_) (fun c14 => ?_)
          · refine v_aload_n dX11_lawLine_103 rfl ?_
            refine v_if (fun h15 => ?_)
            refine v_get (v := pA (r10.2.1 a0 19)) 10 19 rfl inX11 (by decide) tw1212 dX11_lawLine_104 h15 rfl ?_
            refine v_iconst dX11_lawLine_107 (by decide) ?_
            refine v_dup2 dX11_lawLine_108 (by intro z hz; cases hz) (by intro z hz; cases hz) ?_
            refine v_if (fun h16 => ?_)
            refine v_iaload h16 dX11_lawLine_109 ?_
            refine v_aload_n dX11_lawLine_110 rfl ?_
            refine v_get (v := pI (r10.2.1 a0 23)) 10 23 rfl inX11 (by decide) tw1216 dX11_lawLine_111 h15 rfl ?_
            refine v_join (fun (t18 : Int) => [none, none, none]) (fun (t18 : Int) => [pI t18, pI (r10.2.1 (r10.2.1 a0 19) 2), pI 2, pA (r10.2.1 a0 19)]) (fun (t18 : Int) => r10.2) 129 (fun t18 => ?_) (fun j17 hj17 => ?_)
            · refine v_ior dX11_lawLine_129 ?_
              refine v_if (fun h19 => ?_)
              refine v_iastore h19 dX11_lawLine_130 ?_
              refine v_bM (fun M20 e21 => ?_)
              refine v_goto (tgt := 158) dX11_lawLine_131 (by decide) ?_
              refine v_iconst dX11_lawLine_158 (by decide) ?_
              exact v_breturn dX11_lawLine_159 rfl (by decide) rfl
            · refine v_if_eq (tgt := 128) dX11_lawLine_114 (by decide) (fun c22 => ?_) (fun c22 => ?_)
              · refine v_iconst dX11_lawLine_128 (by decide) ?_
                exact v_drop [none, none, none] (ls_n (ls_n (ls_n ls_e))) (hj17 0)
              · refine v_iconst dX11_lawLine_117 (by decide) ?_
                refine v_aload_n dX11_lawLine_118 rfl ?_
                refine v_get (v := pA (r10.2.1 a0 20)) 10 20 rfl inX11 (by decide) tw1213 dX11_lawLine_119 h15 rfl ?_
                refine v_iconst dX11_lawLine_122 (by decide) ?_
                refine v_if (fun h23 => ?_)
                refine v_iaload h23 dX11_lawLine_123 ?_
                refine v_ishl dX11_lawLine_124 ?_
                refine v_goto (tgt := 129) dX11_lawLine_125 (by decide) ?_
                exact v_drop [none, none, none] (ls_n (ls_n (ls_n ls_e))) (hj17 (bShl 1 (r10.2.1 (r10.2.1 a0 20) 0)))
          · refine v_aload_n dX11_lawLine_134 rfl ?_
            refine v_if (fun h24 => ?_)
            refine v_get (v := pA (r10.2.1 a0 19)) 10 19 rfl inX11 (by decide) tw1212 dX11_lawLine_135 h24 rfl ?_
            refine v_lload_n dX11_lawLine_138 rfl ?_
            refine v_ldc2 (n := 1918989413) dX11_lawLine_139 (by decide) tw1467 ?_
            refine v_lcmp dX11_lawLine_142 ?_
            refine v_join (fun (t26 : Int) => [some (pA a0), none, none]) (fun (t26 : Int) => [pI t26, pA (r10.2.1 a0 19)]) (fun (t26 : Int) => r10.2) 151 (fun t26 => ?_) (fun j25 hj25 => ?_)
            · refine v_aload_n dX11_lawLine_151 rfl ?_
              refine v_get (v := pA (r10.2.1 a0 20)) 10 20 rfl inX11 (by decide) tw1213 dX11_lawLine_152 h24 rfl ?_
              refine v_iconst dX11_lawLine_155 (by decide) ?_
              refine v_if (fun h27 => ?_)
              refine v_iaload h27 dX11_lawLine_156 ?_
              refine v_if (fun h28 => ?_)
              refine v_iastore h28 dX11_lawLine_157 ?_
              refine v_bM (fun M29 e30 => ?_)
              refine v_iconst dX11_lawLine_158 (by decide) ?_
              exact v_breturn dX11_lawLine_159 rfl (by decide) rfl
            · refine v_if_ne (tgt := 150) dX11_lawLine_143 (by decide) (fun c31 => ?_) (fun c31 => ?_)
              · refine v_iconst dX11_lawLine_146 (by decide) ?_
                refine v_goto (tgt := 151) dX11_lawLine_147 (by decide) ?_
                exact v_drop [some (pA a0), none, none] (ls_s (ls_n (ls_n ls_e))) (hj25 0)
              · refine v_iconst dX11_lawLine_150 (by decide) ?_
                exact v_drop [some (pA a0), none, none] (ls_s (ls_n (ls_n ls_e))) (hj25 1)
      · refine v_if_ne (tgt := 72) dX11_lawLine_65 (by decide) (fun c32 => ?_) (fun c32 => ?_)
        · refine v_iconst dX11_lawLine_68 (by decide) ?_
          refine v_goto (tgt := 87) dX11_lawLine_69 (by decide) ?_
          exact hj8 5
        · refine v_lload_n dX11_lawLine_72 rfl ?_
          refine v_ldc2 (n := 426836779880) dX11_lawLine_73 (by decide) tw1468 ?_
          refine v_lcmp dX11_lawLine_76 ?_
          refine v_if_ne (tgt := 85) dX11_lawLine_77 (by decide) (fun c33 => ?_) (fun c33 => ?_)
          · refine v_bipush dX11_lawLine_80 (by decide) ?_
            refine v_goto (tgt := 87) dX11_lawLine_82 (by decide) ?_
            exact hj8 99
          · refine v_bipush dX11_lawLine_85 (by decide) ?_
            exact hj8 19
    · refine v_if_ne (tgt := 47) dX11_lawLine_40 (by decide) (fun c34 => ?_) (fun c34 => ?_)
      · refine v_iconst dX11_lawLine_43 (by decide) ?_
        refine v_goto (tgt := 60) dX11_lawLine_44 (by decide) ?_
        exact hj6 2
      · refine v_lload_n dX11_lawLine_47 rfl ?_
        refine v_ldc2 (n := 426836779880) dX11_lawLine_48 (by decide) tw1468 ?_
        refine v_lcmp dX11_lawLine_51 ?_
        refine v_if_ne (tgt := 59) dX11_lawLine_52 (by decide) (fun c35 => ?_) (fun c35 => ?_)
        · refine v_iconst dX11_lawLine_55 (by decide) ?_
          refine v_goto (tgt := 60) dX11_lawLine_56 (by decide) ?_
          exact hj6 1
        · refine v_iconst dX11_lawLine_59 (by decide) ?_
          exact hj6 0
  · refine v_if_eq (tgt := 29) dX11_lawLine_5 (by decide) (fun c36 => ?_) (fun c36 => ?_)
    · exact hj1 ()
    · refine v_lload_n dX11_lawLine_8 rfl ?_
      refine v_ldc2 (n := 426836779880) dX11_lawLine_9 (by decide) tw1468 ?_
      refine v_lcmp dX11_lawLine_12 ?_
      refine v_if_eq (tgt := 29) dX11_lawLine_13 (by decide) (fun c37 => ?_) (fun c37 => ?_)
      · exact hj1 ()
      · refine v_lload_n dX11_lawLine_16 rfl ?_
        refine v_ldc2 (n := 110429873532005) dX11_lawLine_17 (by decide) tw1469 ?_
        refine v_lcmp dX11_lawLine_20 ?_
        refine v_if_eq (tgt := 29) dX11_lawLine_21 (by decide) (fun c38 => ?_) (fun c38 => ?_)
        · exact hj1 ()
        · refine v_aload_n dX11_lawLine_24 rfl ?_
          refine v_if (fun h41 => ?_)
          refine v_cV (mi := mX11_lawLine) (c0 := 0) (c1 := 0) (As := []) (st := []) (kX11_fails d (by omega) _ _) rfl h41 rfl okX11_fails (Or.inl tw1412) tw1414 tp37 rfl (Nat.le_of_ble_eq_true rfl) dX11_lawLine_25 (fun r39 => [pI r39.1]) (fun r39 => r39.2) (fun _ => rfl) (fun _ => rfl) (fun r39 h40 => ?_) rfl
          refine v_if (fun h42 => ?_)
          exact v_breturn dX11_lawLine_28 rfl h42 rfl
theorem dX11_nightsLine_0 : decode cX11_nightsLine 0 = .ok (.lload_n 1, 1) := by decide +kernel
theorem dX11_nightsLine_1 : decode cX11_nightsLine 1 = .ok (.ldc2_w 222, 3) := by decide +kernel
theorem dX11_nightsLine_4 : decode cX11_nightsLine 4 = .ok (.lcmp, 1) := by decide +kernel
theorem dX11_nightsLine_5 : decode cX11_nightsLine 5 = .ok (.ifCond .ne 7, 3) := by decide +kernel
theorem dX11_nightsLine_8 : decode cX11_nightsLine 8 = .ok (.iconst 0, 1) := by decide +kernel
theorem dX11_nightsLine_9 : decode cX11_nightsLine 9 = .ok (.goto 40, 3) := by decide +kernel
theorem dX11_nightsLine_12 : decode cX11_nightsLine 12 = .ok (.lload_n 1, 1) := by decide +kernel
theorem dX11_nightsLine_13 : decode cX11_nightsLine 13 = .ok (.ldc2_w 224, 3) := by decide +kernel
theorem dX11_nightsLine_16 : decode cX11_nightsLine 16 = .ok (.lcmp, 1) := by decide +kernel
theorem dX11_nightsLine_17 : decode cX11_nightsLine 17 = .ok (.ifCond .ne 7, 3) := by decide +kernel
theorem dX11_nightsLine_20 : decode cX11_nightsLine 20 = .ok (.iconst 1, 1) := by decide +kernel
theorem dX11_nightsLine_21 : decode cX11_nightsLine 21 = .ok (.goto 28, 3) := by decide +kernel
theorem dX11_nightsLine_24 : decode cX11_nightsLine 24 = .ok (.lload_n 1, 1) := by decide +kernel
theorem dX11_nightsLine_25 : decode cX11_nightsLine 25 = .ok (.ldc2_w 226, 3) := by decide +kernel
theorem dX11_nightsLine_28 : decode cX11_nightsLine 28 = .ok (.lcmp, 1) := by decide +kernel
theorem dX11_nightsLine_29 : decode cX11_nightsLine 29 = .ok (.ifCond .ne 7, 3) := by decide +kernel
theorem dX11_nightsLine_32 : decode cX11_nightsLine 32 = .ok (.iconst 2, 1) := by decide +kernel
theorem dX11_nightsLine_33 : decode cX11_nightsLine 33 = .ok (.goto 16, 3) := by decide +kernel
theorem dX11_nightsLine_36 : decode cX11_nightsLine 36 = .ok (.lload_n 1, 1) := by decide +kernel
theorem dX11_nightsLine_37 : decode cX11_nightsLine 37 = .ok (.ldc2_w 228, 3) := by decide +kernel
theorem dX11_nightsLine_40 : decode cX11_nightsLine 40 = .ok (.lcmp, 1) := by decide +kernel
theorem dX11_nightsLine_41 : decode cX11_nightsLine 41 = .ok (.ifCond .ne 7, 3) := by decide +kernel
theorem dX11_nightsLine_44 : decode cX11_nightsLine 44 = .ok (.iconst 3, 1) := by decide +kernel
theorem dX11_nightsLine_45 : decode cX11_nightsLine 45 = .ok (.goto 4, 3) := by decide +kernel
theorem dX11_nightsLine_48 : decode cX11_nightsLine 48 = .ok (.iconst (-1), 1) := by decide +kernel
theorem dX11_nightsLine_49 : decode cX11_nightsLine 49 = .ok (.istore 4, 2) := by decide +kernel
theorem dX11_nightsLine_51 : decode cX11_nightsLine 51 = .ok (.iload 4, 2) := by decide +kernel
theorem dX11_nightsLine_53 : decode cX11_nightsLine 53 = .ok (.iconst (-1), 1) := by decide +kernel
theorem dX11_nightsLine_54 : decode cX11_nightsLine 54 = .ok (.if_icmp .ne 8, 3) := by decide +kernel
theorem dX11_nightsLine_57 : decode cX11_nightsLine 57 = .ok (.aload_n 0, 1) := by decide +kernel
theorem dX11_nightsLine_58 : decode cX11_nightsLine 58 = .ok (.invokevirtual 138, 3) := by decide +kernel
theorem dX11_nightsLine_61 : decode cX11_nightsLine 61 = .ok (.ireturn, 1) := by decide +kernel
theorem dX11_nightsLine_62 : decode cX11_nightsLine 62 = .ok (.aload_n 0, 1) := by decide +kernel
theorem dX11_nightsLine_63 : decode cX11_nightsLine 63 = .ok (.iconst 0, 1) := by decide +kernel
theorem dX11_nightsLine_64 : decode cX11_nightsLine 64 = .ok (.bipush 40, 2) := by decide +kernel
theorem dX11_nightsLine_66 : decode cX11_nightsLine 66 = .ok (.iload_n 3, 1) := by decide +kernel
theorem dX11_nightsLine_67 : decode cX11_nightsLine 67 = .ok (.invokevirtual 195, 3) := by decide +kernel
theorem dX11_nightsLine_70 : decode cX11_nightsLine 70 = .ok (.aload_n 0, 1) := by decide +kernel
theorem dX11_nightsLine_71 : decode cX11_nightsLine 71 = .ok (.invokevirtual 150, 3) := by decide +kernel
theorem dX11_nightsLine_74 : decode cX11_nightsLine 74 = .ok (.aload_n 0, 1) := by decide +kernel
theorem dX11_nightsLine_75 : decode cX11_nightsLine 75 = .ok (.getfield 41, 3) := by decide +kernel
theorem dX11_nightsLine_78 : decode cX11_nightsLine 78 = .ok (.iconst 1, 1) := by decide +kernel
theorem dX11_nightsLine_79 : decode cX11_nightsLine 79 = .ok (.iconst (-1), 1) := by decide +kernel
theorem dX11_nightsLine_80 : decode cX11_nightsLine 80 = .ok (.iastore, 1) := by decide +kernel
theorem dX11_nightsLine_81 : decode cX11_nightsLine 81 = .ok (.aload_n 0, 1) := by decide +kernel
theorem dX11_nightsLine_82 : decode cX11_nightsLine 82 = .ok (.getfield 41, 3) := by decide +kernel
theorem dX11_nightsLine_85 : decode cX11_nightsLine 85 = .ok (.iconst 2, 1) := by decide +kernel
theorem dX11_nightsLine_86 : decode cX11_nightsLine 86 = .ok (.iconst (-1), 1) := by decide +kernel
theorem dX11_nightsLine_87 : decode cX11_nightsLine 87 = .ok (.iastore, 1) := by decide +kernel
theorem dX11_nightsLine_88 : decode cX11_nightsLine 88 = .ok (.aload_n 0, 1) := by decide +kernel
theorem dX11_nightsLine_89 : decode cX11_nightsLine 89 = .ok (.getfield 41, 3) := by decide +kernel
theorem dX11_nightsLine_92 : decode cX11_nightsLine 92 = .ok (.iconst 3, 1) := by decide +kernel
theorem dX11_nightsLine_93 : decode cX11_nightsLine 93 = .ok (.iconst (-1), 1) := by decide +kernel
theorem dX11_nightsLine_94 : decode cX11_nightsLine 94 = .ok (.iastore, 1) := by decide +kernel
theorem dX11_nightsLine_95 : decode cX11_nightsLine 95 = .ok (.iload 4, 2) := by decide +kernel
theorem dX11_nightsLine_97 : decode cX11_nightsLine 97 = .ok (.iconst 2, 1) := by decide +kernel
theorem dX11_nightsLine_98 : decode cX11_nightsLine 98 = .ok (.if_icmp .ne 42, 3) := by decide +kernel
theorem dX11_nightsLine_101 : decode cX11_nightsLine 101 = .ok (.aload_n 0, 1) := by decide +kernel
theorem dX11_nightsLine_102 : decode cX11_nightsLine 102 = .ok (.iconst 1, 1) := by decide +kernel
theorem dX11_nightsLine_103 : decode cX11_nightsLine 103 = .ok (.iconst 0, 1) := by decide +kernel
theorem dX11_nightsLine_104 : decode cX11_nightsLine 104 = .ok (.iconst 3, 1) := by decide +kernel
theorem dX11_nightsLine_105 : decode cX11_nightsLine 105 = .ok (.invokevirtual 157, 3) := by decide +kernel
theorem dX11_nightsLine_108 : decode cX11_nightsLine 108 = .ok (.ifCond .eq 30, 3) := by decide +kernel
theorem dX11_nightsLine_111 : decode cX11_nightsLine 111 = .ok (.aload_n 0, 1) := by decide +kernel
theorem dX11_nightsLine_112 : decode cX11_nightsLine 112 = .ok (.iconst 2, 1) := by decide +kernel
theorem dX11_nightsLine_113 : decode cX11_nightsLine 113 = .ok (.iconst 0, 1) := by decide +kernel
theorem dX11_nightsLine_114 : decode cX11_nightsLine 114 = .ok (.iconst 3, 1) := by decide +kernel
theorem dX11_nightsLine_115 : decode cX11_nightsLine 115 = .ok (.aload_n 0, 1) := by decide +kernel
theorem dX11_nightsLine_116 : decode cX11_nightsLine 116 = .ok (.getfield 41, 3) := by decide +kernel
theorem dX11_nightsLine_119 : decode cX11_nightsLine 119 = .ok (.iconst 1, 1) := by decide +kernel
theorem dX11_nightsLine_120 : decode cX11_nightsLine 120 = .ok (.iaload, 1) := by decide +kernel
theorem dX11_nightsLine_121 : decode cX11_nightsLine 121 = .ok (.invokevirtual 153, 3) := by decide +kernel
theorem dX11_nightsLine_124 : decode cX11_nightsLine 124 = .ok (.ifCond .eq 14, 3) := by decide +kernel
theorem dX11_nightsLine_127 : decode cX11_nightsLine 127 = .ok (.aload_n 0, 1) := by decide +kernel
theorem dX11_nightsLine_128 : decode cX11_nightsLine 128 = .ok (.iconst 3, 1) := by decide +kernel
theorem dX11_nightsLine_129 : decode cX11_nightsLine 129 = .ok (.iconst 1, 1) := by decide +kernel
theorem dX11_nightsLine_130 : decode cX11_nightsLine 130 = .ok (.bipush 9, 2) := by decide +kernel
theorem dX11_nightsLine_132 : decode cX11_nightsLine 132 = .ok (.invokevirtual 157, 3) := by decide +kernel
theorem dX11_nightsLine_135 : decode cX11_nightsLine 135 = .ok (.ifCond .ne 5, 3) := by decide +kernel
theorem dX11_nightsLine_138 : decode cX11_nightsLine 138 = .ok (.iconst 0, 1) := by decide +kernel
theorem dX11_nightsLine_139 : decode cX11_nightsLine 139 = .ok (.ireturn, 1) := by decide +kernel
theorem dX11_nightsLine_140 : decode cX11_nightsLine 140 = .ok (.iload 4, 2) := by decide +kernel
theorem dX11_nightsLine_142 : decode cX11_nightsLine 142 = .ok (.iconst 2, 1) := by decide +kernel
theorem dX11_nightsLine_143 : decode cX11_nightsLine 143 = .ok (.if_icmp .ge 35, 3) := by decide +kernel
theorem dX11_nightsLine_146 : decode cX11_nightsLine 146 = .ok (.aload_n 0, 1) := by decide +kernel
theorem dX11_nightsLine_147 : decode cX11_nightsLine 147 = .ok (.iconst 1, 1) := by decide +kernel
theorem dX11_nightsLine_148 : decode cX11_nightsLine 148 = .ok (.iconst 0, 1) := by decide +kernel
theorem dX11_nightsLine_149 : decode cX11_nightsLine 149 = .ok (.iconst 3, 1) := by decide +kernel
theorem dX11_nightsLine_150 : decode cX11_nightsLine 150 = .ok (.invokevirtual 157, 3) := by decide +kernel
theorem dX11_nightsLine_153 : decode cX11_nightsLine 153 = .ok (.ifCond .eq 23, 3) := by decide +kernel
theorem dX11_nightsLine_156 : decode cX11_nightsLine 156 = .ok (.aload_n 0, 1) := by decide +kernel
theorem dX11_nightsLine_157 : decode cX11_nightsLine 157 = .ok (.iconst 2, 1) := by decide +kernel
theorem dX11_nightsLine_158 : decode cX11_nightsLine 158 = .ok (.iconst 0, 1) := by decide +kernel
theorem dX11_nightsLine_159 : decode cX11_nightsLine 159 = .ok (.iconst 5, 1) := by decide +kernel
theorem dX11_nightsLine_160 : decode cX11_nightsLine 160 = .ok (.invokevirtual 157, 3) := by decide +kernel
theorem dX11_nightsLine_163 : decode cX11_nightsLine 163 = .ok (.ifCond .eq 13, 3) := by decide +kernel
theorem dX11_nightsLine_166 : decode cX11_nightsLine 166 = .ok (.aload_n 0, 1) := by decide +kernel
theorem dX11_nightsLine_167 : decode cX11_nightsLine 167 = .ok (.iconst 3, 1) := by decide +kernel
theorem dX11_nightsLine_168 : decode cX11_nightsLine 168 = .ok (.iconst 0, 1) := by decide +kernel
theorem dX11_nightsLine_169 : decode cX11_nightsLine 169 = .ok (.iconst 4, 1) := by decide +kernel
theorem dX11_nightsLine_170 : decode cX11_nightsLine 170 = .ok (.invokevirtual 157, 3) := by decide +kernel
theorem dX11_nightsLine_173 : decode cX11_nightsLine 173 = .ok (.ifCond .ne 5, 3) := by decide +kernel
theorem dX11_nightsLine_176 : decode cX11_nightsLine 176 = .ok (.iconst 0, 1) := by decide +kernel
theorem dX11_nightsLine_177 : decode cX11_nightsLine 177 = .ok (.ireturn, 1) := by decide +kernel
theorem dX11_nightsLine_178 : decode cX11_nightsLine 178 = .ok (.aload_n 0, 1) := by decide +kernel
theorem dX11_nightsLine_179 : decode cX11_nightsLine 179 = .ok (.getfield 41, 3) := by decide +kernel
theorem dX11_nightsLine_182 : decode cX11_nightsLine 182 = .ok (.iconst 0, 1) := by decide +kernel
theorem dX11_nightsLine_183 : decode cX11_nightsLine 183 = .ok (.iload 4, 2) := by decide +kernel
theorem dX11_nightsLine_185 : decode cX11_nightsLine 185 = .ok (.iastore, 1) := by decide +kernel
theorem dX11_nightsLine_186 : decode cX11_nightsLine 186 = .ok (.aload_n 0, 1) := by decide +kernel
theorem dX11_nightsLine_187 : decode cX11_nightsLine 187 = .ok (.iconst 0, 1) := by decide +kernel
theorem dX11_nightsLine_188 : decode cX11_nightsLine 188 = .ok (.iconst 1, 1) := by decide +kernel
theorem dX11_nightsLine_189 : decode cX11_nightsLine 189 = .ok (.iconst 4, 1) := by decide +kernel
theorem dX11_nightsLine_190 : decode cX11_nightsLine 190 = .ok (.bipush 40, 2) := by decide +kernel
theorem dX11_nightsLine_192 : decode cX11_nightsLine 192 = .ok (.invokevirtual 212, 3) := by decide +kernel
theorem dX11_nightsLine_195 : decode cX11_nightsLine 195 = .ok (.iconst 1, 1) := by decide +kernel
theorem dX11_nightsLine_196 : decode cX11_nightsLine 196 = .ok (.ireturn, 1) := by decide +kernel
abbrev mX11_nightsLine : MI := (yX11_nightsLine, cX11_nightsLine, 5, (some .boolean), noE)
theorem okX11_nightsLine : cok mX11_nightsLine 2 := ⟨tw1473, tw11, by decide, by decide, by decide, by decide +kernel⟩
def fX11_nightsLine (M : Mem) (a0 a1 a2 : Int) : Option (Int × Mem) :=
  jn (fun (t2 : Int) => if t2 = (-1) then (if M.2.1 a0 = 10 then (fX11_fails M a0).bind fun r4 => if r4.1 = 0 ∨ r4.1 = 1 then some (r4.1, r4.2) else none else none) else (if M.2.1 a0 = 10 then (fX11_full M a0 0 40 a2).bind fun r8 => if r8.2.1 a0 = 10 then (fX11_token r8 a0).bind fun r11 => if r11.2.1 a0 = 10 then if r11.2.1 (r11.1 a0 20) = 12 ∧ (0 : Int) ≤ 1 ∧ 1 < r11.2.2.1 (r11.1 a0 20) then bM (mst r11 (r11.1 a0 20) 1 (-1)) fun M16 => if M16.2.1 (M16.1 a0 20) = 12 ∧ (0 : Int) ≤ 2 ∧ 2 < M16.2.2.1 (M16.1 a0 20) then bM (mst M16 (M16.1 a0 20) 2 (-1)) fun M19 => if M19.2.1 (M19.1 a0 20) = 12 ∧ (0 : Int) ≤ 3 ∧ 3 < M19.2.2.1 (M19.1 a0 20) then bM (mst M19 (M19.1 a0 20) 3 (-1)) fun M22 => jn (fun (t25 : Mem) => jn (fun (t27 : Mem) => if t27.2.1 a0 = 10 then if t27.2.1 (t27.1 a0 20) = 12 ∧ (0 : Int) ≤ 0 ∧ 0 < t27.2.2.1 (t27.1 a0 20) then bM (mst t27 (t27.1 a0 20) 0 t2) fun M30 => (fX11_keep M30 a0 0 1 4 40).bind fun r32 => some (1, r32) else none else none) (fun (j26 : Mem → Option (Int × Mem)) => if t2 < 2 then (if t25.2.1 a0 = 10 then (fX11_take t25 a0 1 0 3).bind fun r35 => if r35.1 = 0 then (some (0, r35.2)) else (if r35.2.2.1 a0 = 10 then (fX11_take r35.2 a0 2 0 5).bind fun r39 => if r39.1 = 0 then (some (0, r39.2)) else (if r39.2.2.1 a0 = 10 then (fX11_take r39.2 a0 3 0 4).bind fun r43 => if r43.1 = 0 then (some (0, r43.2)) else (j26 r43.2) else none) else none) else none) else (j26 t25))) (fun (j24 : Mem → Option (Int × Mem)) => if t2 = 2 then ((fX11_take M22 a0 1 0 3).bind fun r48 => if r48.1 = 0 then (some (0, r48.2)) else (if r48.2.2.1 a0 = 10 then if r48.2.2.1 (r48.2.1 a0 20) = 12 ∧ (0 : Int) ≤ 1 ∧ 1 < r48.2.2.2.1 (r48.2.1 a0 20) then (fX11_takeBut r48.2 a0 2 0 3 (r48.2.1 (r48.2.1 a0 20) 1)).bind fun r53 => if r53.1 = 0 then (some (0, r53.2)) else (if r53.2.2.1 a0 = 10 then (fX11_take r53.2 a0 3 1 9).bind fun r56 => if r56.1 = 0 then (some (0, r56.2)) else (j24 r56.2) else none) else none else none)) else (j24 M22)) else none else none else none else none else none else none)) (fun (j1 : Int → Option (Int × Mem)) => if lcmp a1 1952541541 = 0 then (j1 0) else (if lcmp a1 1734964837 = 0 then (j1 1) else (if lcmp a1 7562612 = 0 then (j1 2) else (if lcmp a1 474214787188 = 0 then (j1 3) else (j1 (-1))))))
set_option maxRecDepth 100000 in
set_option maxHeartbeats 4000000 in
theorem kX11_nightsLine (d : Nat) (hd : 4 ≤ d) (M : Mem) (a0 a1 a2 : Int) : Ct mX11_nightsLine d 0 0 [pA a0, pL a1, pI a2] M dIM (fX11_nightsLine M a0 a1 a2) := by
  obtain ⟨d, rfl⟩ : ∃ k, d = k + 1 := ⟨d - 1, by omega⟩
  refine Ct.of 1 (fun _ _ _ => trivial) (by decide +kernel) rfl ?_
  unfold fX11_nightsLine
  refine v_lload_n dX11_nightsLine_0 rfl ?_
  refine v_ldc2 (n := 1952541541) dX11_nightsLine_1 (by decide) tw1474 ?_
  refine v_lcmp dX11_nightsLine_4 ?_
  refine v_join (fun (t2 : Int) => [some (pA a0), none, none, some (pI a2), none]) (fun (t2 : Int) => [pI t2]) (fun (t2 : Int) => M) 49 (fun t2 => ?_) (fun j1 hj1 => ?_)
  · refine v_istore (ls' := [some (pA a0), none, none, some (pI a2), some (pI t2)]) dX11_nightsLine_49 (by decide) rfl ?_
    refine v_iload dX11_nightsLine_51 rfl ?_
    refine v_iconst dX11_nightsLine_53 (by decide) ?_
    refine v_icmp_ne (tgt := 62) dX11_nightsLine_54 (by decide) (fun c3 => ?_) (fun c3 => ?_)
    · refine v_aload_n dX11_nightsLine_57 rfl ?_
      refine v_if (fun h6 => ?_)
      refine v_cV (mi := mX11_nightsLine) (c0 := 0) (c1 := 0) (As := []) (st := []) (kX11_fails d (by omega) _ _) rfl h6 rfl okX11_fails (Or.inl tw1412) tw1414 tp37 rfl (Nat.le_of_ble_eq_true rfl) dX11_nightsLine_58 (fun r4 => [pI r4.1]) (fun r4 => r4.2) (fun _ => rfl) (fun _ => rfl) (fun r4 h5 => ?_) rfl
      refine v_if (fun h7 => ?_)
      exact v_breturn dX11_nightsLine_61 rfl h7 rfl
    · refine v_aload_n dX11_nightsLine_62 rfl ?_
      refine v_iconst dX11_nightsLine_63 (by decide) ?_
      refine v_bipush dX11_nightsLine_64 (by decide) ?_
      refine v_iload_n dX11_nightsLine_66 rfl ?_
      refine v_if (fun h10 => ?_)
      refine v_cV (mi := mX11_nightsLine) (c0 := 0) (c1 := 0) (As := [pI 0, pI 40, pI a2]) (st := []) (kX11_full d (by omega) _ _ _ _ _) rfl h10 rfl okX11_full (Or.inl tw1416) tw1418 tp38 rfl (Nat.le_of_ble_eq_true rfl) dX11_nightsLine_67 (fun r8 => []) (fun r8 => r8) (fun _ => rfl) (fun _ => rfl) (fun r8 h9 => ?_) rfl
      refine v_aload_n dX11_nightsLine_70 rfl ?_
      refine v_if (fun h13 => ?_)
      refine v_cV (mi := mX11_nightsLine) (c0 := 0) (c1 := 0) (As := []) (st := []) (kX11_token d (by omega) _ _) rfl h13 rfl okX11_token (Or.inl tw1383) tw1385 tp32 rfl (Nat.le_of_ble_eq_true rfl) dX11_nightsLine_71 (fun r11 => []) (fun r11 => r11) (fun _ => rfl) (fun _ => rfl) (fun r11 h12 => ?_) rfl
      refine v_aload_n dX11_nightsLine_74 rfl ?_
      refine v_if (fun h14 => ?_)
      refine v_get (v := pA (r11.1 a0 20)) 10 20 rfl inX11 (by decide) tw1213 dX11_nightsLine_75 h14 rfl ?_
      refine v_iconst dX11_nightsLine_78 (by decide) ?_
      refine v_iconst dX11_nightsLine_79 (by decide) ?_
      refine v_if (fun h15 => ?_)
      refine v_iastore h15 dX11_nightsLine_80 ?_
      refine v_bM (fun M16 e17 => ?_)
      refine v_aload_n dX11_nightsLine_81 rfl ?_
      refine v_get (v := pA (M16.1 a0 20)) 10 20 rfl inX11 (by decide) tw1213 dX11_nightsLine_82 (by rw [e17]; exact h14) rfl ?_
      refine v_iconst dX11_nightsLine_85 (by decide) ?_
      refine v_iconst dX11_nightsLine_86 (by decide) ?_
      refine v_if (fun h18 => ?_)
      refine v_iastore h18 dX11_nightsLine_87 ?_
      refine v_bM (fun M19 e20 => ?_)
      refine v_aload_n dX11_nightsLine_88 rfl ?_
      refine v_get (v := pA (M19.1 a0 20)) 10 20 rfl inX11 (by decide) tw1213 dX11_nightsLine_89 (by rw [e20, e17]; exact h14) rfl ?_
      refine v_iconst dX11_nightsLine_92 (by decide) ?_
      refine v_iconst dX11_nightsLine_93 (by decide) ?_
      refine v_if (fun h21 => ?_)
      refine v_iastore h21 dX11_nightsLine_94 ?_
      refine v_bM (fun M22 e23 => ?_)
      refine v_iload dX11_nightsLine_95 rfl ?_
      refine v_iconst dX11_nightsLine_97 (by decide) ?_
      refine v_join (fun (t25 : Mem) => [some (pA a0), none, none, none, some (pI t2)]) (fun (t25 : Mem) => []) (fun (t25 : Mem) => t25) 140 (fun t25 => ?_) (fun j24 hj24 => ?_)
      · refine v_iload dX11_nightsLine_140 rfl ?_
        refine v_iconst dX11_nightsLine_142 (by decide) ?_
        refine v_join (fun (t27 : Mem) => [some (pA a0), none, none, none, some (pI t2)]) (fun (t27 : Mem) => []) (fun (t27 : Mem) => t27) 178 (fun t27 => ?_) (fun j26 hj26 => ?_)
        · refine v_aload_n dX11_nightsLine_178 rfl ?_
          refine v_if (fun h28 => ?_)
          refine v_get (v := pA (t27.1 a0 20)) 10 20 rfl inX11 (by decide) tw1213 dX11_nightsLine_179 h28 rfl ?_
          refine v_iconst dX11_nightsLine_182 (by decide) ?_
          refine v_iload dX11_nightsLine_183 rfl ?_
          refine v_if (fun h29 => ?_)
          refine v_iastore h29 dX11_nightsLine_185 ?_
          refine v_bM (fun M30 e31 => ?_)
          refine v_aload_n dX11_nightsLine_186 rfl ?_
          refine v_iconst dX11_nightsLine_187 (by decide) ?_
          refine v_iconst dX11_nightsLine_188 (by decide) ?_
          refine v_iconst dX11_nightsLine_189 (by decide) ?_
          refine v_bipush dX11_nightsLine_190 (by decide) ?_
          refine v_cV (mi := mX11_nightsLine) (c0 := 0) (c1 := 0) (As := [pI 0, pI 1, pI 4, pI 40]) (st := []) (kX11_keep d (by omega) _ _ _ _ _ _) rfl (by rw [e31]; exact h28) rfl okX11_keep (Or.inl tw1459) tw1461 tp48 rfl (Nat.le_of_ble_eq_true rfl) dX11_nightsLine_192 (fun r32 => []) (fun r32 => r32) (fun _ => rfl) (fun _ => rfl) (fun r32 h33 => ?_) rfl
          refine v_iconst dX11_nightsLine_195 (by decide) ?_
          exact v_breturn dX11_nightsLine_196 rfl (by decide) rfl
        · refine v_icmp_ge (tgt := 178) dX11_nightsLine_143 (by decide) (fun c34 => ?_) (fun c34 => ?_)
          · refine v_aload_n dX11_nightsLine_146 rfl ?_
            refine v_iconst dX11_nightsLine_147 (by decide) ?_
            refine v_iconst dX11_nightsLine_148 (by decide) ?_
            refine v_iconst dX11_nightsLine_149 (by decide) ?_
            refine v_if (fun h37 => ?_)
            refine v_cV (mi := mX11_nightsLine) (c0 := 0) (c1 := 0) (As := [pI 1, pI 0, pI 3]) (st := []) (kX11_take d (by omega) _ _ _ _ _) rfl h37 rfl okX11_take (Or.inl tw1432) tw1434 tp42 rfl (Nat.le_of_ble_eq_true rfl) dX11_nightsLine_150 (fun r35 => [pI r35.1]) (fun r35 => r35.2) (fun _ => rfl) (fun _ => rfl) (fun r35 h36 => ?_) rfl
            refine v_if_eq (tgt := 176) dX11_nightsLine_153 (by decide) (fun c38 => ?_) (fun c38 => ?_)
            · refine v_iconst dX11_nightsLine_176 (by decide) ?_
              exact v_breturn dX11_nightsLine_177 rfl (by decide) rfl
            · refine v_aload_n dX11_nightsLine_156 rfl ?_
              refine v_iconst dX11_nightsLine_157 (by decide) ?_
              refine v_iconst dX11_nightsLine_158 (by decide) ?_
              refine v_iconst dX11_nightsLine_159 (by decide) ?_
              refine v_if (fun h41 => ?_)
              refine v_cV (mi := mX11_nightsLine) (c0 := 0) (c1 := 0) (As := [pI 2, pI 0, pI 5]) (st := []) (kX11_take d (by omega) _ _ _ _ _) rfl h41 rfl okX11_take (Or.inl tw1432) tw1434 tp42 rfl (Nat.le_of_ble_eq_true rfl) dX11_nightsLine_160 (fun r39 => [pI r39.1]) (fun r39 => r39.2) (fun _ => rfl) (fun _ => rfl) (fun r39 h40 => ?_) rfl
              refine v_if_eq (tgt := 176) dX11_nightsLine_163 (by decide) (fun c42 => ?_) (fun c42 => ?_)
              · refine v_iconst dX11_nightsLine_176 (by decide) ?_
                exact v_breturn dX11_nightsLine_177 rfl (by decide) rfl
              · refine v_aload_n dX11_nightsLine_166 rfl ?_
                refine v_iconst dX11_nightsLine_167 (by decide) ?_
                refine v_iconst dX11_nightsLine_168 (by decide) ?_
                refine v_iconst dX11_nightsLine_169 (by decide) ?_
                refine v_if (fun h45 => ?_)
                refine v_cV (mi := mX11_nightsLine) (c0 := 0) (c1 := 0) (As := [pI 3, pI 0, pI 4]) (st := []) (kX11_take d (by omega) _ _ _ _ _) rfl h45 rfl okX11_take (Or.inl tw1432) tw1434 tp42 rfl (Nat.le_of_ble_eq_true rfl) dX11_nightsLine_170 (fun r43 => [pI r43.1]) (fun r43 => r43.2) (fun _ => rfl) (fun _ => rfl) (fun r43 h44 => ?_) rfl
                refine v_if_ne (tgt := 178) dX11_nightsLine_173 (by decide) (fun c46 => ?_) (fun c46 => ?_)
                · refine v_iconst dX11_nightsLine_176 (by decide) ?_
                  exact v_breturn dX11_nightsLine_177 rfl (by decide) rfl
                · exact hj26 r43.2
          · exact hj26 t25
      · refine v_icmp_ne (tgt := 140) dX11_nightsLine_98 (by decide) (fun c47 => ?_) (fun c47 => ?_)
        · refine v_aload_n dX11_nightsLine_101 rfl ?_
          refine v_iconst dX11_nightsLine_102 (by decide) ?_
          refine v_iconst dX11_nightsLine_103 (by decide) ?_
          refine v_iconst dX11_nightsLine_104 (by decide) ?_
          refine v_cV (mi := mX11_nightsLine) (c0 := 0) (c1 := 0) (As := [pI 1, pI 0, pI 3]) (st := []) (kX11_take d (by omega) _ _ _ _ _) rfl (by rw [e23, e20, e17]; exact h14) rfl okX11_take (Or.inl tw1432) tw1434 tp42 rfl (Nat.le_of_ble_eq_true rfl) dX11_nightsLine_105 (fun r48 => [pI r48.1]) (fun r48 => r48.2) (fun _ => rfl) (fun _ => rfl) (fun r48 h49 => ?_) rfl
          refine v_if_eq (tgt := 138) dX11_nightsLine_108 (by decide) (fun c50 => ?_) (fun c50 => ?_)
          · refine v_iconst dX11_nightsLine_138 (by decide) ?_
            exact v_breturn dX11_nightsLine_139 rfl (by decide) rfl
          · refine v_aload_n dX11_nightsLine_111 rfl ?_
            refine v_iconst dX11_nightsLine_112 (by decide) ?_
            refine v_iconst dX11_nightsLine_113 (by decide) ?_
            refine v_iconst dX11_nightsLine_114 (by decide) ?_
            refine v_aload_n dX11_nightsLine_115 rfl ?_
            refine v_if (fun h51 => ?_)
            refine v_get (v := pA (r48.2.1 a0 20)) 10 20 rfl inX11 (by decide) tw1213 dX11_nightsLine_116 h51 rfl ?_
            refine v_iconst dX11_nightsLine_119 (by decide) ?_
            refine v_if (fun h52 => ?_)
            refine v_iaload h52 dX11_nightsLine_120 ?_
            refine v_cV (mi := mX11_nightsLine) (c0 := 0) (c1 := 0) (As := [pI 2, pI 0, pI 3, pI (r48.2.1 (r48.2.1 a0 20) 1)]) (st := []) (kX11_takeBut d (by omega) _ _ _ _ _ _) rfl h51 rfl okX11_takeBut (Or.inl tw1436) tw1438 tp43 rfl (Nat.le_of_ble_eq_true rfl) dX11_nightsLine_121 (fun r53 => [pI r53.1]) (fun r53 => r53.2) (fun _ => rfl) (fun _ => rfl) (fun r53 h54 => ?_) rfl
            refine v_if_eq (tgt := 138) dX11_nightsLine_124 (by decide) (fun c55 => ?_) (fun c55 => ?_)
            · refine v_iconst dX11_nightsLine_138 (by decide) ?_
              exact v_breturn dX11_nightsLine_139 rfl (by decide) rfl
            · refine v_aload_n dX11_nightsLine_127 rfl ?_
              refine v_iconst dX11_nightsLine_128 (by decide) ?_
              refine v_iconst dX11_nightsLine_129 (by decide) ?_
              refine v_bipush dX11_nightsLine_130 (by decide) ?_
              refine v_if (fun h58 => ?_)
              refine v_cV (mi := mX11_nightsLine) (c0 := 0) (c1 := 0) (As := [pI 3, pI 1, pI 9]) (st := []) (kX11_take d (by omega) _ _ _ _ _) rfl h58 rfl okX11_take (Or.inl tw1432) tw1434 tp42 rfl (Nat.le_of_ble_eq_true rfl) dX11_nightsLine_132 (fun r56 => [pI r56.1]) (fun r56 => r56.2) (fun _ => rfl) (fun _ => rfl) (fun r56 h57 => ?_) rfl
              refine v_if_ne (tgt := 140) dX11_nightsLine_135 (by decide) (fun c59 => ?_) (fun c59 => ?_)
              · refine v_iconst dX11_nightsLine_138 (by decide) ?_
                exact v_breturn dX11_nightsLine_139 rfl (by decide) rfl
              · exact v_drop [some (pA a0), none, none, none, some (pI t2)] (ls_s (ls_n (ls_n (ls_n (ls_s ls_e))))) (hj24 r56.2)
        · exact v_drop [some (pA a0), none, none, none, some (pI t2)] (ls_s (ls_n (ls_n (ls_n (ls_s ls_e))))) (hj24 M22)
  · refine v_if_ne (tgt := 12) dX11_nightsLine_5 (by decide) (fun c60 => ?_) (fun c60 => ?_)
    · refine v_iconst dX11_nightsLine_8 (by decide) ?_
      refine v_goto (tgt := 49) dX11_nightsLine_9 (by decide) ?_
      exact v_drop [some (pA a0), none, none, some (pI a2), none] (ls_s (ls_n (ls_n (ls_s (ls_n ls_e))))) (hj1 0)
    · refine v_lload_n dX11_nightsLine_12 rfl ?_
      refine v_ldc2 (n := 1734964837) dX11_nightsLine_13 (by decide) tw1475 ?_
      refine v_lcmp dX11_nightsLine_16 ?_
      refine v_if_ne (tgt := 24) dX11_nightsLine_17 (by decide) (fun c61 => ?_) (fun c61 => ?_)
      · refine v_iconst dX11_nightsLine_20 (by decide) ?_
        refine v_goto (tgt := 49) dX11_nightsLine_21 (by decide) ?_
        exact v_drop [some (pA a0), none, none, some (pI a2), none] (ls_s (ls_n (ls_n (ls_s (ls_n ls_e))))) (hj1 1)
      · refine v_lload_n dX11_nightsLine_24 rfl ?_
        refine v_ldc2 (n := 7562612) dX11_nightsLine_25 (by decide) tw1476 ?_
        refine v_lcmp dX11_nightsLine_28 ?_
        refine v_if_ne (tgt := 36) dX11_nightsLine_29 (by decide) (fun c62 => ?_) (fun c62 => ?_)
        · refine v_iconst dX11_nightsLine_32 (by decide) ?_
          refine v_goto (tgt := 49) dX11_nightsLine_33 (by decide) ?_
          exact v_drop [some (pA a0), none, none, some (pI a2), none] (ls_s (ls_n (ls_n (ls_s (ls_n ls_e))))) (hj1 2)
        · refine v_lload_n dX11_nightsLine_36 rfl ?_
          refine v_ldc2 (n := 474214787188) dX11_nightsLine_37 (by decide) tw1477 ?_
          refine v_lcmp dX11_nightsLine_40 ?_
          refine v_if_ne (tgt := 48) dX11_nightsLine_41 (by decide) (fun c63 => ?_) (fun c63 => ?_)
          · refine v_iconst dX11_nightsLine_44 (by decide) ?_
            refine v_goto (tgt := 49) dX11_nightsLine_45 (by decide) ?_
            exact v_drop [some (pA a0), none, none, some (pI a2), none] (ls_s (ls_n (ls_n (ls_s (ls_n ls_e))))) (hj1 3)
          · refine v_iconst dX11_nightsLine_48 (by decide) ?_
            exact v_drop [some (pA a0), none, none, some (pI a2), none] (ls_s (ls_n (ls_n (ls_s (ls_n ls_e))))) (hj1 (-1))
theorem dX11_sightLine_0 : decode cX11_sightLine 0 = .ok (.lload_n 1, 1) := by decide +kernel
theorem dX11_sightLine_1 : decode cX11_sightLine 1 = .ok (.ldc2_w 230, 3) := by decide +kernel
theorem dX11_sightLine_4 : decode cX11_sightLine 4 = .ok (.lcmp, 1) := by decide +kernel
theorem dX11_sightLine_5 : decode cX11_sightLine 5 = .ok (.ifCond .eq 16, 3) := by decide +kernel
theorem dX11_sightLine_8 : decode cX11_sightLine 8 = .ok (.lload_n 1, 1) := by decide +kernel
theorem dX11_sightLine_9 : decode cX11_sightLine 9 = .ok (.ldc2_w 232, 3) := by decide +kernel
theorem dX11_sightLine_12 : decode cX11_sightLine 12 = .ok (.lcmp, 1) := by decide +kernel
theorem dX11_sightLine_13 : decode cX11_sightLine 13 = .ok (.ifCond .eq 8, 3) := by decide +kernel
theorem dX11_sightLine_16 : decode cX11_sightLine 16 = .ok (.aload_n 0, 1) := by decide +kernel
theorem dX11_sightLine_17 : decode cX11_sightLine 17 = .ok (.invokevirtual 138, 3) := by decide +kernel
theorem dX11_sightLine_20 : decode cX11_sightLine 20 = .ok (.ireturn, 1) := by decide +kernel
theorem dX11_sightLine_21 : decode cX11_sightLine 21 = .ok (.lload_n 1, 1) := by decide +kernel
theorem dX11_sightLine_22 : decode cX11_sightLine 22 = .ok (.ldc2_w 230, 3) := by decide +kernel
theorem dX11_sightLine_25 : decode cX11_sightLine 25 = .ok (.lcmp, 1) := by decide +kernel
theorem dX11_sightLine_26 : decode cX11_sightLine 26 = .ok (.ifCond .ne 11, 3) := by decide +kernel
theorem dX11_sightLine_29 : decode cX11_sightLine 29 = .ok (.aload_n 0, 1) := by decide +kernel
theorem dX11_sightLine_30 : decode cX11_sightLine 30 = .ok (.iconst 0, 1) := by decide +kernel
theorem dX11_sightLine_31 : decode cX11_sightLine 31 = .ok (.bipush 8, 2) := by decide +kernel
theorem dX11_sightLine_33 : decode cX11_sightLine 33 = .ok (.iload_n 3, 1) := by decide +kernel
theorem dX11_sightLine_34 : decode cX11_sightLine 34 = .ok (.invokevirtual 195, 3) := by decide +kernel
theorem dX11_sightLine_37 : decode cX11_sightLine 37 = .ok (.aload_n 0, 1) := by decide +kernel
theorem dX11_sightLine_38 : decode cX11_sightLine 38 = .ok (.invokevirtual 150, 3) := by decide +kernel
theorem dX11_sightLine_41 : decode cX11_sightLine 41 = .ok (.aload_n 0, 1) := by decide +kernel
theorem dX11_sightLine_42 : decode cX11_sightLine 42 = .ok (.iconst 0, 1) := by decide +kernel
theorem dX11_sightLine_43 : decode cX11_sightLine 43 = .ok (.iconst 0, 1) := by decide +kernel
theorem dX11_sightLine_44 : decode cX11_sightLine 44 = .ok (.iconst 5, 1) := by decide +kernel
theorem dX11_sightLine_45 : decode cX11_sightLine 45 = .ok (.invokevirtual 157, 3) := by decide +kernel
theorem dX11_sightLine_48 : decode cX11_sightLine 48 = .ok (.ifCond .eq 13, 3) := by decide +kernel
theorem dX11_sightLine_51 : decode cX11_sightLine 51 = .ok (.aload_n 0, 1) := by decide +kernel
theorem dX11_sightLine_52 : decode cX11_sightLine 52 = .ok (.iconst 1, 1) := by decide +kernel
theorem dX11_sightLine_53 : decode cX11_sightLine 53 = .ok (.iconst 0, 1) := by decide +kernel
theorem dX11_sightLine_54 : decode cX11_sightLine 54 = .ok (.iconst 4, 1) := by decide +kernel
theorem dX11_sightLine_55 : decode cX11_sightLine 55 = .ok (.invokevirtual 157, 3) := by decide +kernel
theorem dX11_sightLine_58 : decode cX11_sightLine 58 = .ok (.ifCond .ne 5, 3) := by decide +kernel
theorem dX11_sightLine_61 : decode cX11_sightLine 61 = .ok (.iconst 0, 1) := by decide +kernel
theorem dX11_sightLine_62 : decode cX11_sightLine 62 = .ok (.ireturn, 1) := by decide +kernel
theorem dX11_sightLine_63 : decode cX11_sightLine 63 = .ok (.lload_n 1, 1) := by decide +kernel
theorem dX11_sightLine_64 : decode cX11_sightLine 64 = .ok (.ldc2_w 230, 3) := by decide +kernel
theorem dX11_sightLine_67 : decode cX11_sightLine 67 = .ok (.lcmp, 1) := by decide +kernel
theorem dX11_sightLine_68 : decode cX11_sightLine 68 = .ok (.ifCond .ne 14, 3) := by decide +kernel
theorem dX11_sightLine_71 : decode cX11_sightLine 71 = .ok (.aload_n 0, 1) := by decide +kernel
theorem dX11_sightLine_72 : decode cX11_sightLine 72 = .ok (.iconst 0, 1) := by decide +kernel
theorem dX11_sightLine_73 : decode cX11_sightLine 73 = .ok (.iconst 1, 1) := by decide +kernel
theorem dX11_sightLine_74 : decode cX11_sightLine 74 = .ok (.iconst 2, 1) := by decide +kernel
theorem dX11_sightLine_75 : decode cX11_sightLine 75 = .ok (.bipush 8, 2) := by decide +kernel
theorem dX11_sightLine_77 : decode cX11_sightLine 77 = .ok (.invokevirtual 212, 3) := by decide +kernel
theorem dX11_sightLine_80 : decode cX11_sightLine 80 = .ok (.iconst 1, 1) := by decide +kernel
theorem dX11_sightLine_81 : decode cX11_sightLine 81 = .ok (.ireturn, 1) := by decide +kernel
theorem dX11_sightLine_82 : decode cX11_sightLine 82 = .ok (.aload_n 0, 1) := by decide +kernel
theorem dX11_sightLine_83 : decode cX11_sightLine 83 = .ok (.iconst 2, 1) := by decide +kernel
theorem dX11_sightLine_84 : decode cX11_sightLine 84 = .ok (.iconst 0, 1) := by decide +kernel
theorem dX11_sightLine_85 : decode cX11_sightLine 85 = .ok (.bipush 18, 2) := by decide +kernel
theorem dX11_sightLine_87 : decode cX11_sightLine 87 = .ok (.invokevirtual 157, 3) := by decide +kernel
theorem dX11_sightLine_90 : decode cX11_sightLine 90 = .ok (.ifCond .ne 5, 3) := by decide +kernel
theorem dX11_sightLine_93 : decode cX11_sightLine 93 = .ok (.iconst 0, 1) := by decide +kernel
theorem dX11_sightLine_94 : decode cX11_sightLine 94 = .ok (.ireturn, 1) := by decide +kernel
theorem dX11_sightLine_95 : decode cX11_sightLine 95 = .ok (.aload_n 0, 1) := by decide +kernel
theorem dX11_sightLine_96 : decode cX11_sightLine 96 = .ok (.bipush 17, 2) := by decide +kernel
theorem dX11_sightLine_98 : decode cX11_sightLine 98 = .ok (.iconst 5, 1) := by decide +kernel
theorem dX11_sightLine_99 : decode cX11_sightLine 99 = .ok (.aload_n 0, 1) := by decide +kernel
theorem dX11_sightLine_100 : decode cX11_sightLine 100 = .ok (.getfield 41, 3) := by decide +kernel
theorem dX11_sightLine_103 : decode cX11_sightLine 103 = .ok (.iconst 0, 1) := by decide +kernel
theorem dX11_sightLine_104 : decode cX11_sightLine 104 = .ok (.iaload, 1) := by decide +kernel
theorem dX11_sightLine_105 : decode cX11_sightLine 105 = .ok (.imul, 1) := by decide +kernel
theorem dX11_sightLine_106 : decode cX11_sightLine 106 = .ok (.iadd, 1) := by decide +kernel
theorem dX11_sightLine_107 : decode cX11_sightLine 107 = .ok (.aload_n 0, 1) := by decide +kernel
theorem dX11_sightLine_108 : decode cX11_sightLine 108 = .ok (.getfield 41, 3) := by decide +kernel
theorem dX11_sightLine_111 : decode cX11_sightLine 111 = .ok (.iconst 1, 1) := by decide +kernel
theorem dX11_sightLine_112 : decode cX11_sightLine 112 = .ok (.iaload, 1) := by decide +kernel
theorem dX11_sightLine_113 : decode cX11_sightLine 113 = .ok (.iadd, 1) := by decide +kernel
theorem dX11_sightLine_114 : decode cX11_sightLine 114 = .ok (.aload_n 0, 1) := by decide +kernel
theorem dX11_sightLine_115 : decode cX11_sightLine 115 = .ok (.getfield 41, 3) := by decide +kernel
theorem dX11_sightLine_118 : decode cX11_sightLine 118 = .ok (.iconst 2, 1) := by decide +kernel
theorem dX11_sightLine_119 : decode cX11_sightLine 119 = .ok (.iaload, 1) := by decide +kernel
theorem dX11_sightLine_120 : decode cX11_sightLine 120 = .ok (.invokevirtual 171, 3) := by decide +kernel
theorem dX11_sightLine_123 : decode cX11_sightLine 123 = .ok (.iconst 1, 1) := by decide +kernel
theorem dX11_sightLine_124 : decode cX11_sightLine 124 = .ok (.ireturn, 1) := by decide +kernel
abbrev mX11_sightLine : MI := (yX11_sightLine, cX11_sightLine, 4, (some .boolean), noE)
theorem okX11_sightLine : cok mX11_sightLine 2 := ⟨tw1481, tw11, by decide, by decide, by decide, by decide +kernel⟩
def fX11_sightLine (M : Mem) (a0 a1 a2 : Int) : Option (Int × Mem) :=
  jn (fun (t2 : Unit) => jn (fun (t4 : Mem) => if t4.2.1 a0 = 10 then (fX11_token t4 a0).bind fun r5 => if r5.2.1 a0 = 10 then (fX11_take r5 a0 0 0 5).bind fun r8 => if r8.1 = 0 then (some (0, r8.2)) else (if r8.2.2.1 a0 = 10 then (fX11_take r8.2 a0 1 0 4).bind fun r12 => if r12.1 = 0 then (some (0, r12.2)) else (if lcmp a1 444150998382 = 0 then (if r12.2.2.1 a0 = 10 then (fX11_keep r12.2 a0 0 1 2 8).bind fun r17 => some (1, r17) else none) else (if r12.2.2.1 a0 = 10 then (fX11_take r12.2 a0 2 0 18).bind fun r20 => if r20.1 = 0 then (some (0, r20.2)) else (if r20.2.2.1 a0 = 10 then if r20.2.2.1 (r20.2.1 a0 20) = 12 ∧ (0 : Int) ≤ 0 ∧ 0 < r20.2.2.2.1 (r20.2.1 a0 20) then if r20.2.2.1 (r20.2.1 a0 20) = 12 ∧ (0 : Int) ≤ 1 ∧ 1 < r20.2.2.2.1 (r20.2.1 a0 20) then if r20.2.2.1 (r20.2.1 a0 20) = 12 ∧ (0 : Int) ≤ 2 ∧ 2 < r20.2.2.2.1 (r20.2.1 a0 20) then (fX11_lay r20.2 a0 (w32 ((w32 (17 + (w32 (5 * (r20.2.1 (r20.2.1 a0 20) 0))))) + (r20.2.1 (r20.2.1 a0 20) 1))) (r20.2.1 (r20.2.1 a0 20) 2)).bind fun r28 => some (1, r28) else none else none else none else none) else none)) else none) else none else none) (fun (j3 : Mem → Option (Int × Mem)) => if lcmp a1 444150998382 = 0 then (if M.2.1 a0 = 10 then (fX11_full M a0 0 8 a2).bind fun r31 => j3 r31 else none) else (j3 M))) (fun (j1 : Unit → Option (Int × Mem)) => if lcmp a1 444150998382 = 0 then (j1 ()) else (if lcmp a1 1818584692 = 0 then (j1 ()) else (if M.2.1 a0 = 10 then (fX11_fails M a0).bind fun r36 => if r36.1 = 0 ∨ r36.1 = 1 then some (r36.1, r36.2) else none else none)))
set_option maxRecDepth 100000 in
set_option maxHeartbeats 4000000 in
theorem kX11_sightLine (d : Nat) (hd : 4 ≤ d) (M : Mem) (a0 a1 a2 : Int) : Ct mX11_sightLine d 0 0 [pA a0, pL a1, pI a2] M dIM (fX11_sightLine M a0 a1 a2) := by
  obtain ⟨d, rfl⟩ : ∃ k, d = k + 1 := ⟨d - 1, by omega⟩
  refine Ct.of 0 (fun _ _ _ => trivial) (by decide +kernel) rfl ?_
  unfold fX11_sightLine
  refine v_lload_n dX11_sightLine_0 rfl ?_
  refine v_ldc2 (n := 444150998382) dX11_sightLine_1 (by decide) tw1482 ?_
  refine v_lcmp dX11_sightLine_4 ?_
  refine v_join (fun (t2 : Unit) => [some (pA a0), some (pL a1), none, some (pI a2)]) (fun (t2 : Unit) => []) (fun (t2 : Unit) => M) 21 (fun t2 => ?_) (fun j1 hj1 => ?_)
  · refine v_lload_n dX11_sightLine_21 rfl ?_
    refine v_ldc2 (n := 444150998382) dX11_sightLine_22 (by decide) tw1482 ?_
    refine v_lcmp dX11_sightLine_25 ?_
    refine v_join (fun (t4 : Mem) => [some (pA a0), some (pL a1), none, none]) (fun (t4 : Mem) => []) (fun (t4 : Mem) => t4) 37 (fun t4 => ?_) (fun j3 hj3 => ?_)
    · refine v_aload_n dX11_sightLine_37 rfl ?_
      refine v_if (fun h7 => ?_)
      refine v_cV (mi := mX11_sightLine) (c0 := 0) (c1 := 0) (As := []) (st := []) (kX11_token d (by omega) _ _) rfl h7 rfl okX11_token (Or.inl tw1383) tw1385 tp32 rfl (Nat.le_of_ble_eq_true rfl) dX11_sightLine_38 (fun r5 => []) (fun r5 => r5) (fun _ => rfl) (fun _ => rfl) (fun r5 h6 => ?_) rfl
      refine v_aload_n dX11_sightLine_41 rfl ?_
      refine v_iconst dX11_sightLine_42 (by decide) ?_
      refine v_iconst dX11_sightLine_43 (by decide) ?_
      refine v_iconst dX11_sightLine_44 (by decide) ?_
      refine v_if (fun h10 => ?_)
      refine v_cV (mi := mX11_sightLine) (c0 := 0) (c1 := 0) (As := [pI 0, pI 0, pI 5]) (st := []) (kX11_take d (by omega) _ _ _ _ _) rfl h10 rfl okX11_take (Or.inl tw1432) tw1434 tp42 rfl (Nat.le_of_ble_eq_true rfl) dX11_sightLine_45 (fun r8 => [pI r8.1]) (fun r8 => r8.2) (fun _ => rfl) (fun _ => rfl) (fun r8 h9 => ?_) rfl
      refine v_if_eq (tgt := 61) dX11_sightLine_48 (by decide) (fun c11 => ?_) (fun c11 => ?_)
      · refine v_iconst dX11_sightLine_61 (by decide) ?_
        exact v_breturn dX11_sightLine_62 rfl (by decide) rfl
      · refine v_aload_n dX11_sightLine_51 rfl ?_
        refine v_iconst dX11_sightLine_52 (by decide) ?_
        refine v_iconst dX11_sightLine_53 (by decide) ?_
        refine v_iconst dX11_sightLine_54 (by decide) ?_
        refine v_if (fun h14 => ?_)
        refine v_cV (mi := mX11_sightLine) (c0 := 0) (c1 := 0) (As := [pI 1, pI 0, pI 4]) (st := []) (kX11_take d (by omega) _ _ _ _ _) rfl h14 rfl okX11_take (Or.inl tw1432) tw1434 tp42 rfl (Nat.le_of_ble_eq_true rfl) dX11_sightLine_55 (fun r12 => [pI r12.1]) (fun r12 => r12.2) (fun _ => rfl) (fun _ => rfl) (fun r12 h13 => ?_) rfl
        refine v_if_ne (tgt := 63) dX11_sightLine_58 (by decide) (fun c15 => ?_) (fun c15 => ?_)
        · refine v_iconst dX11_sightLine_61 (by decide) ?_
          exact v_breturn dX11_sightLine_62 rfl (by decide) rfl
        · refine v_lload_n dX11_sightLine_63 rfl ?_
          refine v_ldc2 (n := 444150998382) dX11_sightLine_64 (by decide) tw1482 ?_
          refine v_lcmp dX11_sightLine_67 ?_
          refine v_if_ne (tgt := 82) dX11_sightLine_68 (by decide) (fun c16 => ?_) (fun c16 => ?_)
          · refine v_aload_n dX11_sightLine_71 rfl ?_
            refine v_iconst dX11_sightLine_72 (by decide) ?_
            refine v_iconst dX11_sightLine_73 (by decide) ?_
            refine v_iconst dX11_sightLine_74 (by decide) ?_
            refine v_bipush dX11_sightLine_75 (by decide) ?_
            refine v_if (fun h19 => ?_)
            refine v_cV (mi := mX11_sightLine) (c0 := 0) (c1 := 0) (As := [pI 0, pI 1, pI 2, pI 8]) (st := []) (kX11_keep d (by omega) _ _ _ _ _ _) rfl h19 rfl okX11_keep (Or.inl tw1459) tw1461 tp48 rfl (Nat.le_of_ble_eq_true rfl) dX11_sightLine_77 (fun r17 => []) (fun r17 => r17) (fun _ => rfl) (fun _ => rfl) (fun r17 h18 => ?_) rfl
            refine v_iconst dX11_sightLine_80 (by decide) ?_
            exact v_breturn dX11_sightLine_81 rfl (by decide) rfl
          · refine v_aload_n dX11_sightLine_82 rfl ?_
            refine v_iconst dX11_sightLine_83 (by decide) ?_
            refine v_iconst dX11_sightLine_84 (by decide) ?_
            refine v_bipush dX11_sightLine_85 (by decide) ?_
            refine v_if (fun h22 => ?_)
            refine v_cV (mi := mX11_sightLine) (c0 := 0) (c1 := 0) (As := [pI 2, pI 0, pI 18]) (st := []) (kX11_take d (by omega) _ _ _ _ _) rfl h22 rfl okX11_take (Or.inl tw1432) tw1434 tp42 rfl (Nat.le_of_ble_eq_true rfl) dX11_sightLine_87 (fun r20 => [pI r20.1]) (fun r20 => r20.2) (fun _ => rfl) (fun _ => rfl) (fun r20 h21 => ?_) rfl
            refine v_if_ne (tgt := 95) dX11_sightLine_90 (by decide) (fun c23 => ?_) (fun c23 => ?_)
            · refine v_iconst dX11_sightLine_93 (by decide) ?_
              exact v_breturn dX11_sightLine_94 rfl (by decide) rfl
            · refine v_aload_n dX11_sightLine_95 rfl ?_
              refine v_bipush dX11_sightLine_96 (by decide) ?_
              refine v_iconst dX11_sightLine_98 (by decide) ?_
              refine v_aload_n dX11_sightLine_99 rfl ?_
              refine v_if (fun h24 => ?_)
              refine v_get (v := pA (r20.2.1 a0 20)) 10 20 rfl inX11 (by decide) tw1213 dX11_sightLine_100 h24 rfl ?_
              refine v_iconst dX11_sightLine_103 (by decide) ?_
              refine v_if (fun h25 => ?_)
              refine v_iaload h25 dX11_sightLine_104 ?_
              refine v_imul dX11_sightLine_105 ?_
              refine v_iadd dX11_sightLine_106 ?_
              refine v_aload_n dX11_sightLine_107 rfl ?_
              refine v_get (v := pA (r20.2.1 a0 20)) 10 20 rfl inX11 (by decide) tw1213 dX11_sightLine_108 h24 rfl ?_
              refine v_iconst dX11_sightLine_111 (by decide) ?_
              refine v_if (fun h26 => ?_)
              refine v_iaload h26 dX11_sightLine_112 ?_
              refine v_iadd dX11_sightLine_113 ?_
              refine v_aload_n dX11_sightLine_114 rfl ?_
              refine v_get (v := pA (r20.2.1 a0 20)) 10 20 rfl inX11 (by decide) tw1213 dX11_sightLine_115 h24 rfl ?_
              refine v_iconst dX11_sightLine_118 (by decide) ?_
              refine v_if (fun h27 => ?_)
              refine v_iaload h27 dX11_sightLine_119 ?_
              refine v_cV (mi := mX11_sightLine) (c0 := 0) (c1 := 0) (As := [pI (w32 ((w32 (17 + (w32 (5 * (r20.2.1 (r20.2.1 a0 20) 0))))) + (r20.2.1 (r20.2.1 a0 20) 1))), pI (r20.2.1 (r20.2.1 a0 20) 2)]) (st := []) (kX11_lay d (by omega) _ _ _ _) rfl h24 rfl okX11_lay (Or.inl tw1443) tw1445 tp44 rfl (Nat.le_of_ble_eq_true rfl) dX11_sightLine_120 (fun r28 => []) (fun r28 => r28) (fun _ => rfl) (fun _ => rfl) (fun r28 h29 => ?_) rfl
              refine v_iconst dX11_sightLine_123 (by decide) ?_
              exact v_breturn dX11_sightLine_124 rfl (by decide) rfl
    · refine v_if_ne (tgt := 37) dX11_sightLine_26 (by decide) (fun c30 => ?_) (fun c30 => ?_)
      · refine v_aload_n dX11_sightLine_29 rfl ?_
        refine v_iconst dX11_sightLine_30 (by decide) ?_
        refine v_bipush dX11_sightLine_31 (by decide) ?_
        refine v_iload_n dX11_sightLine_33 rfl ?_
        refine v_if (fun h33 => ?_)
        refine v_cV (mi := mX11_sightLine) (c0 := 0) (c1 := 0) (As := [pI 0, pI 8, pI a2]) (st := []) (kX11_full d (by omega) _ _ _ _ _) rfl h33 rfl okX11_full (Or.inl tw1416) tw1418 tp38 rfl (Nat.le_of_ble_eq_true rfl) dX11_sightLine_34 (fun r31 => []) (fun r31 => r31) (fun _ => rfl) (fun _ => rfl) (fun r31 h32 => ?_) rfl
        exact v_drop [some (pA a0), some (pL a1), none, none] (ls_s (ls_s (ls_n (ls_n ls_e)))) (hj3 r31)
      · exact v_drop [some (pA a0), some (pL a1), none, none] (ls_s (ls_s (ls_n (ls_n ls_e)))) (hj3 M)
  · refine v_if_eq (tgt := 21) dX11_sightLine_5 (by decide) (fun c34 => ?_) (fun c34 => ?_)
    · exact hj1 ()
    · refine v_lload_n dX11_sightLine_8 rfl ?_
      refine v_ldc2 (n := 1818584692) dX11_sightLine_9 (by decide) tw1483 ?_
      refine v_lcmp dX11_sightLine_12 ?_
      refine v_if_eq (tgt := 21) dX11_sightLine_13 (by decide) (fun c35 => ?_) (fun c35 => ?_)
      · exact hj1 ()
      · refine v_aload_n dX11_sightLine_16 rfl ?_
        refine v_if (fun h38 => ?_)
        refine v_cV (mi := mX11_sightLine) (c0 := 0) (c1 := 0) (As := []) (st := []) (kX11_fails d (by omega) _ _) rfl h38 rfl okX11_fails (Or.inl tw1412) tw1414 tp37 rfl (Nat.le_of_ble_eq_true rfl) dX11_sightLine_17 (fun r36 => [pI r36.1]) (fun r36 => r36.2) (fun _ => rfl) (fun _ => rfl) (fun r36 h37 => ?_) rfl
        refine v_if (fun h39 => ?_)
        exact v_breturn dX11_sightLine_20 rfl h39 rfl
theorem dX11_lineOf_0 : decode cX11_lineOf 0 = .ok (.iload_n 1, 1) := by decide +kernel
theorem dX11_lineOf_1 : decode cX11_lineOf 1 = .ok (.tableswitch 49 0 2 #[27, 35, 41], 27) := by decide +kernel
theorem dX11_lineOf_28 : decode cX11_lineOf 28 = .ok (.aload_n 0, 1) := by decide +kernel
theorem dX11_lineOf_29 : decode cX11_lineOf 29 = .ok (.lload_n 2, 1) := by decide +kernel
theorem dX11_lineOf_30 : decode cX11_lineOf 30 = .ok (.iload 4, 2) := by decide +kernel
theorem dX11_lineOf_32 : decode cX11_lineOf 32 = .ok (.invokevirtual 234, 3) := by decide +kernel
theorem dX11_lineOf_35 : decode cX11_lineOf 35 = .ok (.ireturn, 1) := by decide +kernel
theorem dX11_lineOf_36 : decode cX11_lineOf 36 = .ok (.aload_n 0, 1) := by decide +kernel
theorem dX11_lineOf_37 : decode cX11_lineOf 37 = .ok (.lload_n 2, 1) := by decide +kernel
theorem dX11_lineOf_38 : decode cX11_lineOf 38 = .ok (.invokevirtual 238, 3) := by decide +kernel
theorem dX11_lineOf_41 : decode cX11_lineOf 41 = .ok (.ireturn, 1) := by decide +kernel
theorem dX11_lineOf_42 : decode cX11_lineOf 42 = .ok (.aload_n 0, 1) := by decide +kernel
theorem dX11_lineOf_43 : decode cX11_lineOf 43 = .ok (.lload_n 2, 1) := by decide +kernel
theorem dX11_lineOf_44 : decode cX11_lineOf 44 = .ok (.iload 4, 2) := by decide +kernel
theorem dX11_lineOf_46 : decode cX11_lineOf 46 = .ok (.invokevirtual 241, 3) := by decide +kernel
theorem dX11_lineOf_49 : decode cX11_lineOf 49 = .ok (.ireturn, 1) := by decide +kernel
theorem dX11_lineOf_50 : decode cX11_lineOf 50 = .ok (.aload_n 0, 1) := by decide +kernel
theorem dX11_lineOf_51 : decode cX11_lineOf 51 = .ok (.lload_n 2, 1) := by decide +kernel
theorem dX11_lineOf_52 : decode cX11_lineOf 52 = .ok (.iload 4, 2) := by decide +kernel
theorem dX11_lineOf_54 : decode cX11_lineOf 54 = .ok (.invokevirtual 244, 3) := by decide +kernel
theorem dX11_lineOf_57 : decode cX11_lineOf 57 = .ok (.ireturn, 1) := by decide +kernel
abbrev mX11_lineOf : MI := (yX11_lineOf, cX11_lineOf, 5, (some .boolean), noE)
theorem okX11_lineOf : cok mX11_lineOf 3 := ⟨tw1398, tw11, by decide, by decide, by decide, by decide +kernel⟩
def fX11_lineOf (M : Mem) (a0 a1 a2 a3 : Int) : Option (Int × Mem) :=
  if a1 = 0 then (if M.2.1 a0 = 10 then (fX11_townLine M a0 a2 a3).bind fun r2 => if r2.1 = 0 ∨ r2.1 = 1 then some (r2.1, r2.2) else none else none) else if a1 = 1 then (if M.2.1 a0 = 10 then (fX11_lawLine M a0 a2).bind fun r7 => if r7.1 = 0 ∨ r7.1 = 1 then some (r7.1, r7.2) else none else none) else if a1 = 2 then (if M.2.1 a0 = 10 then (fX11_nightsLine M a0 a2 a3).bind fun r12 => if r12.1 = 0 ∨ r12.1 = 1 then some (r12.1, r12.2) else none else none) else if M.2.1 a0 = 10 then (fX11_sightLine M a0 a2 a3).bind fun r16 => if r16.1 = 0 ∨ r16.1 = 1 then some (r16.1, r16.2) else none else none
set_option maxRecDepth 100000 in
set_option maxHeartbeats 4000000 in
theorem kX11_lineOf (d : Nat) (hd : 7 ≤ d) (M : Mem) (a0 a1 a2 a3 : Int) : Ct mX11_lineOf d 0 0 [pA a0, pI a1, pL a2, pI a3] M dIM (fX11_lineOf M a0 a1 a2 a3) := by
  obtain ⟨d, rfl⟩ : ∃ k, d = k + 1 := ⟨d - 1, by omega⟩
  refine Ct.of 0 (fun _ _ _ => trivial) (by decide +kernel) rfl ?_
  unfold fX11_lineOf
  refine v_iload_n dX11_lineOf_0 rfl ?_
  refine v_ite (fun h1 => ?_) (fun h1 => ?_)
  · refine v_tabIn (off := 27) (tgt := 28) dX11_lineOf_1 h1 (by decide) ?_
    refine v_aload_n dX11_lineOf_28 rfl ?_
    refine v_lload_n dX11_lineOf_29 rfl ?_
    refine v_iload dX11_lineOf_30 rfl ?_
    refine v_if (fun h4 => ?_)
    refine v_cV (mi := mX11_lineOf) (c0 := 0) (c1 := 0) (As := [pL a2, pI a3]) (st := []) (kX11_townLine d (by omega) _ _ _ _) rfl h4 rfl okX11_townLine (Or.inl tw1399) tw1401 tp36 rfl (Nat.le_of_ble_eq_true rfl) dX11_lineOf_32 (fun r2 => [pI r2.1]) (fun r2 => r2.2) (fun _ => rfl) (fun _ => rfl) (fun r2 h3 => ?_) rfl
    refine v_if (fun h5 => ?_)
    exact v_breturn dX11_lineOf_35 rfl h5 rfl
  · refine v_ite (fun h6 => ?_) (fun h6 => ?_)
    · refine v_tabIn (off := 35) (tgt := 36) dX11_lineOf_1 h6 (by decide) ?_
      refine v_aload_n dX11_lineOf_36 rfl ?_
      refine v_lload_n dX11_lineOf_37 rfl ?_
      refine v_if (fun h9 => ?_)
      refine v_cV (mi := mX11_lineOf) (c0 := 0) (c1 := 0) (As := [pL a2]) (st := []) (kX11_lawLine d (by omega) _ _ _) rfl h9 rfl okX11_lawLine (Or.inl tw1463) tw1465 tp49 rfl (Nat.le_of_ble_eq_true rfl) dX11_lineOf_38 (fun r7 => [pI r7.1]) (fun r7 => r7.2) (fun _ => rfl) (fun _ => rfl) (fun r7 h8 => ?_) rfl
      refine v_if (fun h10 => ?_)
      exact v_breturn dX11_lineOf_41 rfl h10 rfl
    · refine v_ite (fun h11 => ?_) (fun h11 => ?_)
      · refine v_tabIn (off := 41) (tgt := 42) dX11_lineOf_1 h11 (by decide) ?_
        refine v_aload_n dX11_lineOf_42 rfl ?_
        refine v_lload_n dX11_lineOf_43 rfl ?_
        refine v_iload dX11_lineOf_44 rfl ?_
        refine v_if (fun h14 => ?_)
        refine v_cV (mi := mX11_lineOf) (c0 := 0) (c1 := 0) (As := [pL a2, pI a3]) (st := []) (kX11_nightsLine d (by omega) _ _ _ _) rfl h14 rfl okX11_nightsLine (Or.inl tw1470) tw1472 tp50 rfl (Nat.le_of_ble_eq_true rfl) dX11_lineOf_46 (fun r12 => [pI r12.1]) (fun r12 => r12.2) (fun _ => rfl) (fun _ => rfl) (fun r12 h13 => ?_) rfl
        refine v_if (fun h15 => ?_)
        exact v_breturn dX11_lineOf_49 rfl h15 rfl
      · refine v_tabOut (tgt := 50) dX11_lineOf_1 (by omega) (by decide) ?_
        refine v_aload_n dX11_lineOf_50 rfl ?_
        refine v_lload_n dX11_lineOf_51 rfl ?_
        refine v_iload dX11_lineOf_52 rfl ?_
        refine v_if (fun h18 => ?_)
        refine v_cV (mi := mX11_lineOf) (c0 := 0) (c1 := 0) (As := [pL a2, pI a3]) (st := []) (kX11_sightLine d (by omega) _ _ _ _) rfl h18 rfl okX11_sightLine (Or.inl tw1478) tw1480 tp51 rfl (Nat.le_of_ble_eq_true rfl) dX11_lineOf_54 (fun r16 => [pI r16.1]) (fun r16 => r16.2) (fun _ => rfl) (fun _ => rfl) (fun r16 h17 => ?_) rfl
        refine v_if (fun h19 => ?_)
        exact v_breturn dX11_lineOf_57 rfl h19 rfl
theorem dX11_lines_0 : decode cX11_lines 0 = .ok (.iconst 1, 1) := by decide +kernel
theorem dX11_lines_1 : decode cX11_lines 1 = .ok (.istore_n 2, 1) := by decide +kernel
theorem dX11_lines_2 : decode cX11_lines 2 = .ok (.iload_n 2, 1) := by decide +kernel
theorem dX11_lines_3 : decode cX11_lines 3 = .ok (.ifCond .eq 71, 3) := by decide +kernel
theorem dX11_lines_6 : decode cX11_lines 6 = .ok (.aload_n 0, 1) := by decide +kernel
theorem dX11_lines_7 : decode cX11_lines 7 = .ok (.getfield 123, 3) := by decide +kernel
theorem dX11_lines_10 : decode cX11_lines 10 = .ok (.ifCond .eq 64, 3) := by decide +kernel
theorem dX11_lines_13 : decode cX11_lines 13 = .ok (.aload_n 0, 1) := by decide +kernel
theorem dX11_lines_14 : decode cX11_lines 14 = .ok (.getfield 116, 3) := by decide +kernel
theorem dX11_lines_17 : decode cX11_lines 17 = .ok (.istore_n 3, 1) := by decide +kernel
theorem dX11_lines_18 : decode cX11_lines 18 = .ok (.aload_n 0, 1) := by decide +kernel
theorem dX11_lines_19 : decode cX11_lines 19 = .ok (.iconst 1, 1) := by decide +kernel
theorem dX11_lines_20 : decode cX11_lines 20 = .ok (.putfield 146, 3) := by decide +kernel
theorem dX11_lines_23 : decode cX11_lines 23 = .ok (.aload_n 0, 1) := by decide +kernel
theorem dX11_lines_24 : decode cX11_lines 24 = .ok (.iload_n 1, 1) := by decide +kernel
theorem dX11_lines_25 : decode cX11_lines 25 = .ok (.aload_n 0, 1) := by decide +kernel
theorem dX11_lines_26 : decode cX11_lines 26 = .ok (.getfield 123, 3) := by decide +kernel
theorem dX11_lines_29 : decode cX11_lines 29 = .ok (.iconst 2, 1) := by decide +kernel
theorem dX11_lines_30 : decode cX11_lines 30 = .ok (.if_icmp .ne 10, 3) := by decide +kernel
theorem dX11_lines_33 : decode cX11_lines 33 = .ok (.aload_n 0, 1) := by decide +kernel
theorem dX11_lines_34 : decode cX11_lines 34 = .ok (.getfield 119, 3) := by decide +kernel
theorem dX11_lines_37 : decode cX11_lines 37 = .ok (.goto 4, 3) := by decide +kernel
theorem dX11_lines_40 : decode cX11_lines 40 = .ok (.lconst 0, 1) := by decide +kernel
theorem dX11_lines_41 : decode cX11_lines 41 = .ok (.iload_n 3, 1) := by decide +kernel
theorem dX11_lines_42 : decode cX11_lines 42 = .ok (.invokevirtual 247, 3) := by decide +kernel
theorem dX11_lines_45 : decode cX11_lines 45 = .ok (.istore_n 2, 1) := by decide +kernel
theorem dX11_lines_46 : decode cX11_lines 46 = .ok (.iload_n 2, 1) := by decide +kernel
theorem dX11_lines_47 : decode cX11_lines 47 = .ok (.ifCond .eq 16, 3) := by decide +kernel
theorem dX11_lines_50 : decode cX11_lines 50 = .ok (.aload_n 0, 1) := by decide +kernel
theorem dX11_lines_51 : decode cX11_lines 51 = .ok (.getfield 123, 3) := by decide +kernel
theorem dX11_lines_54 : decode cX11_lines 54 = .ok (.iconst 4, 1) := by decide +kernel
theorem dX11_lines_55 : decode cX11_lines 55 = .ok (.if_icmp .eq 8, 3) := by decide +kernel
theorem dX11_lines_58 : decode cX11_lines 58 = .ok (.aload_n 0, 1) := by decide +kernel
theorem dX11_lines_59 : decode cX11_lines 59 = .ok (.invokevirtual 138, 3) := by decide +kernel
theorem dX11_lines_62 : decode cX11_lines 62 = .ok (.istore_n 2, 1) := by decide +kernel
theorem dX11_lines_63 : decode cX11_lines 63 = .ok (.iload_n 2, 1) := by decide +kernel
theorem dX11_lines_64 : decode cX11_lines 64 = .ok (.ifCond .eq 7, 3) := by decide +kernel
theorem dX11_lines_67 : decode cX11_lines 67 = .ok (.aload_n 0, 1) := by decide +kernel
theorem dX11_lines_68 : decode cX11_lines 68 = .ok (.invokevirtual 150, 3) := by decide +kernel
theorem dX11_lines_71 : decode cX11_lines 71 = .ok (.goto (-69), 3) := by decide +kernel
theorem dX11_lines_74 : decode cX11_lines 74 = .ok (.iload_n 2, 1) := by decide +kernel
theorem dX11_lines_75 : decode cX11_lines 75 = .ok (.ireturn, 1) := by decide +kernel
abbrev mX11_lines : MI := (yX11_lines, cX11_lines, 4, (some .boolean), noE)
theorem okX11_lines : cok mX11_lines 1 := ⟨tw1394, tw11, by decide, by decide, by decide, by decide +kernel⟩
def fX11_lines (M : Mem) (a0 a1 : Int) : Option (Int × Mem) :=
  iterC (fun (rec1 : (Int × Mem) → Option (Int × Mem)) (s2 : Int × Mem) => if s2.1 = 0 then (if s2.1 = 0 ∨ s2.1 = 1 then some (s2.1, s2.2) else none) else (if s2.2.2.1 a0 = 10 then if s2.2.1 a0 13 = 0 then (if s2.1 = 0 ∨ s2.1 = 1 then some (s2.1, s2.2) else none) else (bM (mst s2.2 a0 23 1) fun M8 => jn (fun (t11 : Int) => (fX11_lineOf M8 a0 a1 t11 (s2.2.1 a0 12)).bind fun r12 => jn (fun (t15 : Int × Mem) => if t15.1 = 0 then (rec1 (t15.1, t15.2)) else (if t15.2.2.1 a0 = 10 then (fX11_token t15.2 a0).bind fun r17 => rec1 (t15.1, r17) else none)) (fun (j14 : (Int × Mem) → Option (Int × Mem)) => if r12.1 = 0 then (j14 (r12.1, r12.2)) else (if r12.2.2.1 a0 = 10 then if r12.2.1 a0 13 = 4 then (j14 (r12.1, r12.2)) else ((fX11_fails r12.2 a0).bind fun r23 => j14 (r23.1, r23.2)) else none))) (fun (j10 : Int → Option (Int × Mem)) => if M8.1 a0 13 = 2 then (j10 (M8.1 a0 15)) else (j10 0))) else none)) BIG (1, M)
set_option maxRecDepth 100000 in
set_option maxHeartbeats 4000000 in
theorem kX11_lines (d : Nat) (hd : 8 ≤ d) (M : Mem) (a0 a1 : Int) : Ct mX11_lines d 0 0 [pA a0, pI a1] M dIM (fX11_lines M a0 a1) := by
  obtain ⟨d, rfl⟩ : ∃ k, d = k + 1 := ⟨d - 1, by omega⟩
  refine Ct.of 2 (fun _ _ _ => trivial) (by decide +kernel) rfl ?_
  unfold fX11_lines
  refine v_iconst dX11_lines_0 (by decide) ?_
  refine v_istore_n (ls' := [some (pA a0), some (pI a1), some (pI 1), none]) dX11_lines_1 (by decide) rfl ?_
  refine v_loop (fun (s2 : Int × Mem) => [some (pA a0), some (pI a1), some (pI s2.1), none]) (fun (s2 : Int × Mem) => s2.2) (s0 := (1, M)) ?_
  intro rec1 hrec1 s2
  refine v_iload_n dX11_lines_2 rfl ?_
  refine v_if_eq (tgt := 74) dX11_lines_3 (by decide) (fun c3 => ?_) (fun c3 => ?_)
  · refine v_iload_n dX11_lines_74 rfl ?_
    refine v_if (fun h4 => ?_)
    exact v_breturn dX11_lines_75 rfl h4 rfl
  · refine v_aload_n dX11_lines_6 rfl ?_
    refine v_if (fun h5 => ?_)
    refine v_get (v := pI (s2.2.1 a0 13)) 10 13 rfl inX11 (by decide) tw1206 dX11_lines_7 h5 rfl ?_
    refine v_if_eq (tgt := 74) dX11_lines_10 (by decide) (fun c6 => ?_) (fun c6 => ?_)
    · refine v_iload_n dX11_lines_74 rfl ?_
      refine v_if (fun h7 => ?_)
      exact v_breturn dX11_lines_75 rfl h7 rfl
    · refine v_aload_n dX11_lines_13 rfl ?_
      refine v_get (v := pI (s2.2.1 a0 12)) 10 12 rfl inX11 (by decide) tw1205 dX11_lines_14 h5 rfl ?_
      refine v_istore_n (ls' := [some (pA a0), some (pI a1), some (pI s2.1), some (pI (s2.2.1 a0 12))]) dX11_lines_17 (by decide) rfl ?_
      refine v_aload_n dX11_lines_18 rfl ?_
      refine v_iconst dX11_lines_19 (by decide) ?_
      refine v_put (x := 1) 10 23 rfl inX11 (by decide) tw1216 (Or.inl rfl) rfl dX11_lines_20 h5 rfl (fun _ => by first | exact Or.inl rfl | exact Or.inr rfl) ?_
      refine v_bM (fun M8 e9 => ?_)
      refine v_aload_n dX11_lines_23 rfl ?_
      refine v_iload_n dX11_lines_24 rfl ?_
      refine v_aload_n dX11_lines_25 rfl ?_
      refine v_get (v := pI (M8.1 a0 13)) 10 13 rfl inX11 (by decide) tw1206 dX11_lines_26 (by rw [e9]; exact h5) rfl ?_
      refine v_iconst dX11_lines_29 (by decide) ?_
      refine v_join (fun (t11 : Int) => [some (pA a0), some (pI a1), none, some (pI (s2.2.1 a0 12))]) (fun (t11 : Int) => [pL t11, pI a1, pA a0]) (fun (t11 : Int) => M8) 41 (fun t11 => ?_) (fun j10 hj10 => ?_)
      · refine v_iload_n dX11_lines_41 rfl ?_
        refine v_cV (mi := mX11_lines) (c0 := 0) (c1 := 0) (As := [pI a1, pL t11, pI (s2.2.1 a0 12)]) (st := []) (kX11_lineOf d (by omega) _ _ _ _ _) rfl (by rw [e9]; exact h5) rfl okX11_lineOf (Or.inl tw1395) tw1397 tp35 rfl (Nat.le_of_ble_eq_true rfl) dX11_lines_42 (fun r12 => [pI r12.1]) (fun r12 => r12.2) (fun _ => rfl) (fun _ => rfl) (fun r12 h13 => ?_) rfl
        refine v_istore_n (ls' := [some (pA a0), some (pI a1), some (pI r12.1), some (pI (s2.2.1 a0 12))]) dX11_lines_45 (by decide) rfl ?_
        refine v_iload_n dX11_lines_46 rfl ?_
        refine v_join (fun (t15 : Int × Mem) => [some (pA a0), some (pI a1), some (pI t15.1), none]) (fun (t15 : Int × Mem) => []) (fun (t15 : Int × Mem) => t15.2) 63 (fun t15 => ?_) (fun j14 hj14 => ?_)
        · refine v_iload_n dX11_lines_63 rfl ?_
          refine v_if_eq (tgt := 71) dX11_lines_64 (by decide) (fun c16 => ?_) (fun c16 => ?_)
          · refine v_goto (tgt := 2) dX11_lines_71 (by decide) ?_
            exact hrec1 (t15.1, t15.2)
          · refine v_aload_n dX11_lines_67 rfl ?_
            refine v_if (fun h19 => ?_)
            refine v_cV (mi := mX11_lines) (c0 := 0) (c1 := 0) (As := []) (st := []) (kX11_token d (by omega) _ _) rfl h19 rfl okX11_token (Or.inl tw1383) tw1385 tp32 rfl (Nat.le_of_ble_eq_true rfl) dX11_lines_68 (fun r17 => []) (fun r17 => r17) (fun _ => rfl) (fun _ => rfl) (fun r17 h18 => ?_) rfl
            refine v_goto (tgt := 2) dX11_lines_71 (by decide) ?_
            exact hrec1 (t15.1, r17)
        · refine v_if_eq (tgt := 63) dX11_lines_47 (by decide) (fun c20 => ?_) (fun c20 => ?_)
          · exact v_drop [some (pA a0), some (pI a1), some (pI r12.1), none] (ls_s (ls_s (ls_s (ls_n ls_e)))) (hj14 (r12.1, r12.2))
          · refine v_aload_n dX11_lines_50 rfl ?_
            refine v_if (fun h21 => ?_)
            refine v_get (v := pI (r12.2.1 a0 13)) 10 13 rfl inX11 (by decide) tw1206 dX11_lines_51 h21 rfl ?_
            refine v_iconst dX11_lines_54 (by decide) ?_
            refine v_icmp_eq (tgt := 63) dX11_lines_55 (by decide) (fun c22 => ?_) (fun c22 => ?_)
            · exact v_drop [some (pA a0), some (pI a1), some (pI r12.1), none] (ls_s (ls_s (ls_s (ls_n ls_e)))) (hj14 (r12.1, r12.2))
            · refine v_aload_n dX11_lines_58 rfl ?_
              refine v_cV (mi := mX11_lines) (c0 := 0) (c1 := 0) (As := []) (st := []) (kX11_fails d (by omega) _ _) rfl h21 rfl okX11_fails (Or.inl tw1412) tw1414 tp37 rfl (Nat.le_of_ble_eq_true rfl) dX11_lines_59 (fun r23 => [pI r23.1]) (fun r23 => r23.2) (fun _ => rfl) (fun _ => rfl) (fun r23 h24 => ?_) rfl
              refine v_istore_n (ls' := [some (pA a0), some (pI a1), some (pI r23.1), some (pI (s2.2.1 a0 12))]) dX11_lines_62 (by decide) rfl ?_
              exact v_drop [some (pA a0), some (pI a1), some (pI r23.1), none] (ls_s (ls_s (ls_s (ls_n ls_e)))) (hj14 (r23.1, r23.2))
      · refine v_icmp_ne (tgt := 40) dX11_lines_30 (by decide) (fun c25 => ?_) (fun c25 => ?_)
        · refine v_aload_n dX11_lines_33 rfl ?_
          refine v_get (v := pL (M8.1 a0 15)) 10 15 rfl inX11 (by decide) tw1208 dX11_lines_34 (by rw [e9]; exact h5) rfl ?_
          refine v_goto (tgt := 41) dX11_lines_37 (by decide) ?_
          exact v_drop [some (pA a0), some (pI a1), none, some (pI (s2.2.1 a0 12))] (ls_s (ls_s (ls_n (ls_s ls_e)))) (hj10 (M8.1 a0 15))
        · refine v_lconst0 dX11_lines_40 ?_
          exact v_drop [some (pA a0), some (pI a1), none, some (pI (s2.2.1 a0 12))] (ls_s (ls_s (ls_n (ls_s ls_e)))) (hj10 0)
theorem dX11_blankTown_0 : decode cX11_blankTown 0 = .ok (.aload_n 0, 1) := by decide +kernel
theorem dX11_blankTown_1 : decode cX11_blankTown 1 = .ok (.getfield 38, 3) := by decide +kernel
theorem dX11_blankTown_4 : decode cX11_blankTown 4 = .ok (.iconst 0, 1) := by decide +kernel
theorem dX11_blankTown_5 : decode cX11_blankTown 5 = .ok (.iconst 3, 1) := by decide +kernel
theorem dX11_blankTown_6 : decode cX11_blankTown 6 = .ok (.iastore, 1) := by decide +kernel
theorem dX11_blankTown_7 : decode cX11_blankTown 7 = .ok (.iconst 0, 1) := by decide +kernel
theorem dX11_blankTown_8 : decode cX11_blankTown 8 = .ok (.istore_n 1, 1) := by decide +kernel
theorem dX11_blankTown_9 : decode cX11_blankTown 9 = .ok (.iload_n 1, 1) := by decide +kernel
theorem dX11_blankTown_10 : decode cX11_blankTown 10 = .ok (.bipush 6, 2) := by decide +kernel
theorem dX11_blankTown_12 : decode cX11_blankTown 12 = .ok (.if_icmp .ge 19, 3) := by decide +kernel
theorem dX11_blankTown_15 : decode cX11_blankTown 15 = .ok (.aload_n 0, 1) := by decide +kernel
theorem dX11_blankTown_16 : decode cX11_blankTown 16 = .ok (.getfield 38, 3) := by decide +kernel
theorem dX11_blankTown_19 : decode cX11_blankTown 19 = .ok (.bipush 68, 2) := by decide +kernel
theorem dX11_blankTown_21 : decode cX11_blankTown 21 = .ok (.iload_n 1, 1) := by decide +kernel
theorem dX11_blankTown_22 : decode cX11_blankTown 22 = .ok (.iadd, 1) := by decide +kernel
theorem dX11_blankTown_23 : decode cX11_blankTown 23 = .ok (.iload_n 1, 1) := by decide +kernel
theorem dX11_blankTown_24 : decode cX11_blankTown 24 = .ok (.iastore, 1) := by decide +kernel
theorem dX11_blankTown_25 : decode cX11_blankTown 25 = .ok (.iinc 1 1, 3) := by decide +kernel
theorem dX11_blankTown_28 : decode cX11_blankTown 28 = .ok (.goto (-19), 3) := by decide +kernel
theorem dX11_blankTown_31 : decode cX11_blankTown 31 = .ok (.iconst 0, 1) := by decide +kernel
theorem dX11_blankTown_32 : decode cX11_blankTown 32 = .ok (.istore_n 1, 1) := by decide +kernel
theorem dX11_blankTown_33 : decode cX11_blankTown 33 = .ok (.iload_n 1, 1) := by decide +kernel
theorem dX11_blankTown_34 : decode cX11_blankTown 34 = .ok (.iconst 5, 1) := by decide +kernel
theorem dX11_blankTown_35 : decode cX11_blankTown 35 = .ok (.if_icmp .ge 29, 3) := by decide +kernel
theorem dX11_blankTown_38 : decode cX11_blankTown 38 = .ok (.aload_n 0, 1) := by decide +kernel
theorem dX11_blankTown_39 : decode cX11_blankTown 39 = .ok (.getfield 38, 3) := by decide +kernel
theorem dX11_blankTown_42 : decode cX11_blankTown 42 = .ok (.bipush 74, 2) := by decide +kernel
theorem dX11_blankTown_44 : decode cX11_blankTown 44 = .ok (.iload_n 1, 1) := by decide +kernel
theorem dX11_blankTown_45 : decode cX11_blankTown 45 = .ok (.iadd, 1) := by decide +kernel
theorem dX11_blankTown_46 : decode cX11_blankTown 46 = .ok (.iconst 1, 1) := by decide +kernel
theorem dX11_blankTown_47 : decode cX11_blankTown 47 = .ok (.iastore, 1) := by decide +kernel
theorem dX11_blankTown_48 : decode cX11_blankTown 48 = .ok (.aload_n 0, 1) := by decide +kernel
theorem dX11_blankTown_49 : decode cX11_blankTown 49 = .ok (.getfield 38, 3) := by decide +kernel
theorem dX11_blankTown_52 : decode cX11_blankTown 52 = .ok (.bipush 79, 2) := by decide +kernel
theorem dX11_blankTown_54 : decode cX11_blankTown 54 = .ok (.iload_n 1, 1) := by decide +kernel
theorem dX11_blankTown_55 : decode cX11_blankTown 55 = .ok (.iadd, 1) := by decide +kernel
theorem dX11_blankTown_56 : decode cX11_blankTown 56 = .ok (.iconst 1, 1) := by decide +kernel
theorem dX11_blankTown_57 : decode cX11_blankTown 57 = .ok (.iastore, 1) := by decide +kernel
theorem dX11_blankTown_58 : decode cX11_blankTown 58 = .ok (.iinc 1 1, 3) := by decide +kernel
theorem dX11_blankTown_61 : decode cX11_blankTown 61 = .ok (.goto (-28), 3) := by decide +kernel
theorem dX11_blankTown_64 : decode cX11_blankTown 64 = .ok (.iconst 0, 1) := by decide +kernel
theorem dX11_blankTown_65 : decode cX11_blankTown 65 = .ok (.istore_n 1, 1) := by decide +kernel
theorem dX11_blankTown_66 : decode cX11_blankTown 66 = .ok (.iload_n 1, 1) := by decide +kernel
theorem dX11_blankTown_67 : decode cX11_blankTown 67 = .ok (.iconst 4, 1) := by decide +kernel
theorem dX11_blankTown_68 : decode cX11_blankTown 68 = .ok (.if_icmp .ge 19, 3) := by decide +kernel
theorem dX11_blankTown_71 : decode cX11_blankTown 71 = .ok (.aload_n 0, 1) := by decide +kernel
theorem dX11_blankTown_72 : decode cX11_blankTown 72 = .ok (.getfield 38, 3) := by decide +kernel
theorem dX11_blankTown_75 : decode cX11_blankTown 75 = .ok (.bipush 88, 2) := by decide +kernel
theorem dX11_blankTown_77 : decode cX11_blankTown 77 = .ok (.iload_n 1, 1) := by decide +kernel
theorem dX11_blankTown_78 : decode cX11_blankTown 78 = .ok (.iadd, 1) := by decide +kernel
theorem dX11_blankTown_79 : decode cX11_blankTown 79 = .ok (.iconst (-1), 1) := by decide +kernel
theorem dX11_blankTown_80 : decode cX11_blankTown 80 = .ok (.iastore, 1) := by decide +kernel
theorem dX11_blankTown_81 : decode cX11_blankTown 81 = .ok (.iinc 1 1, 3) := by decide +kernel
theorem dX11_blankTown_84 : decode cX11_blankTown 84 = .ok (.goto (-18), 3) := by decide +kernel
theorem dX11_blankTown_87 : decode cX11_blankTown 87 = .ok (.return_, 1) := by decide +kernel
abbrev mX11_blankTown : MI := (yX11_blankTown, cX11_blankTown, 2, none, noE)
theorem okX11_blankTown : cok mX11_blankTown 0 := ⟨tw1382, tw11, by decide, by decide, by decide, by decide +kernel⟩
def fX11_blankTown (M : Mem) (a0 : Int) : Option Mem :=
  if M.2.1 a0 = 10 then if M.2.1 (M.1 a0 19) = 12 ∧ (0 : Int) ≤ 0 ∧ 0 < M.2.2.1 (M.1 a0 19) then bM (mst M (M.1 a0 19) 0 3) fun M3 => iterC (fun (rec5 : (Int × Mem) → Option Mem) (s6 : Int × Mem) => if s6.1 < 6 then (if s6.2.2.1 a0 = 10 then if s6.2.2.1 (s6.2.1 a0 19) = 12 ∧ (0 : Int) ≤ (w32 (68 + s6.1)) ∧ (w32 (68 + s6.1)) < s6.2.2.2.1 (s6.2.1 a0 19) then bM (mst s6.2 (s6.2.1 a0 19) (w32 (68 + s6.1)) s6.1) fun M10 => rec5 (w32 (s6.1 + 1), M10) else none else none) else (iterC (fun (rec12 : (Int × Mem) → Option Mem) (s13 : Int × Mem) => if s13.1 < 5 then (if s13.2.2.1 a0 = 10 then if s13.2.2.1 (s13.2.1 a0 19) = 12 ∧ (0 : Int) ≤ (w32 (74 + s13.1)) ∧ (w32 (74 + s13.1)) < s13.2.2.2.1 (s13.2.1 a0 19) then bM (mst s13.2 (s13.2.1 a0 19) (w32 (74 + s13.1)) 1) fun M17 => if M17.2.1 (M17.1 a0 19) = 12 ∧ (0 : Int) ≤ (w32 (79 + s13.1)) ∧ (w32 (79 + s13.1)) < M17.2.2.1 (M17.1 a0 19) then bM (mst M17 (M17.1 a0 19) (w32 (79 + s13.1)) 1) fun M20 => rec12 (w32 (s13.1 + 1), M20) else none else none else none) else (iterC (fun (rec22 : (Int × Mem) → Option Mem) (s23 : Int × Mem) => if s23.1 < 4 then (if s23.2.2.1 a0 = 10 then if s23.2.2.1 (s23.2.1 a0 19) = 12 ∧ (0 : Int) ≤ (w32 (88 + s23.1)) ∧ (w32 (88 + s23.1)) < s23.2.2.2.1 (s23.2.1 a0 19) then bM (mst s23.2 (s23.2.1 a0 19) (w32 (88 + s23.1)) (-1)) fun M27 => rec22 (w32 (s23.1 + 1), M27) else none else none) else (some s23.2)) BIG (0, s13.2))) BIG (0, s6.2))) BIG (0, M3) else none else none
set_option maxRecDepth 100000 in
set_option maxHeartbeats 4000000 in
theorem kX11_blankTown (d : Nat) (hd : 0 ≤ d) (M : Mem) (a0 : Int) : Ct mX11_blankTown d 0 0 [pA a0] M dV (fX11_blankTown M a0) := by
  refine Ct.of 1 (fun _ _ _ => trivial) (by decide +kernel) rfl ?_
  unfold fX11_blankTown
  refine v_aload_n dX11_blankTown_0 rfl ?_
  refine v_if (fun h1 => ?_)
  refine v_get (v := pA (M.1 a0 19)) 10 19 rfl inX11 (by decide) tw1212 dX11_blankTown_1 h1 rfl ?_
  refine v_iconst dX11_blankTown_4 (by decide) ?_
  refine v_iconst dX11_blankTown_5 (by decide) ?_
  refine v_if (fun h2 => ?_)
  refine v_iastore h2 dX11_blankTown_6 ?_
  refine v_bM (fun M3 e4 => ?_)
  refine v_iconst dX11_blankTown_7 (by decide) ?_
  refine v_istore_n (ls' := [some (pA a0), some (pI 0)]) dX11_blankTown_8 (by decide) rfl ?_
  refine v_loop (fun (s6 : Int × Mem) => [some (pA a0), some (pI s6.1)]) (fun (s6 : Int × Mem) => s6.2) (s0 := (0, M3)) ?_
  intro rec5 hrec5 s6
  refine v_iload_n dX11_blankTown_9 rfl ?_
  refine v_bipush dX11_blankTown_10 (by decide) ?_
  refine v_icmp_ge (tgt := 31) dX11_blankTown_12 (by decide) (fun c7 => ?_) (fun c7 => ?_)
  · refine v_aload_n dX11_blankTown_15 rfl ?_
    refine v_if (fun h8 => ?_)
    refine v_get (v := pA (s6.2.1 a0 19)) 10 19 rfl inX11 (by decide) tw1212 dX11_blankTown_16 h8 rfl ?_
    refine v_bipush dX11_blankTown_19 (by decide) ?_
    refine v_iload_n dX11_blankTown_21 rfl ?_
    refine v_iadd dX11_blankTown_22 ?_
    refine v_iload_n dX11_blankTown_23 rfl ?_
    refine v_if (fun h9 => ?_)
    refine v_iastore h9 dX11_blankTown_24 ?_
    refine v_bM (fun M10 e11 => ?_)
    refine v_iinc (ls' := [some (pA a0), some (pI (w32 (s6.1 + 1)))]) dX11_blankTown_25 (by decide) rfl rfl ?_
    refine v_goto (tgt := 9) dX11_blankTown_28 (by decide) ?_
    exact hrec5 (w32 (s6.1 + 1), M10)
  · refine v_iconst dX11_blankTown_31 (by decide) ?_
    refine v_istore_n (ls' := [some (pA a0), some (pI 0)]) dX11_blankTown_32 (by decide) rfl ?_
    refine v_loop (fun (s13 : Int × Mem) => [some (pA a0), some (pI s13.1)]) (fun (s13 : Int × Mem) => s13.2) (s0 := (0, s6.2)) ?_
    intro rec12 hrec12 s13
    refine v_iload_n dX11_blankTown_33 rfl ?_
    refine v_iconst dX11_blankTown_34 (by decide) ?_
    refine v_icmp_ge (tgt := 64) dX11_blankTown_35 (by decide) (fun c14 => ?_) (fun c14 => ?_)
    · refine v_aload_n dX11_blankTown_38 rfl ?_
      refine v_if (fun h15 => ?_)
      refine v_get (v := pA (s13.2.1 a0 19)) 10 19 rfl inX11 (by decide) tw1212 dX11_blankTown_39 h15 rfl ?_
      refine v_bipush dX11_blankTown_42 (by decide) ?_
      refine v_iload_n dX11_blankTown_44 rfl ?_
      refine v_iadd dX11_blankTown_45 ?_
      refine v_iconst dX11_blankTown_46 (by decide) ?_
      refine v_if (fun h16 => ?_)
      refine v_iastore h16 dX11_blankTown_47 ?_
      refine v_bM (fun M17 e18 => ?_)
      refine v_aload_n dX11_blankTown_48 rfl ?_
      refine v_get (v := pA (M17.1 a0 19)) 10 19 rfl inX11 (by decide) tw1212 dX11_blankTown_49 (by rw [e18]; exact h15) rfl ?_
      refine v_bipush dX11_blankTown_52 (by decide) ?_
      refine v_iload_n dX11_blankTown_54 rfl ?_
      refine v_iadd dX11_blankTown_55 ?_
      refine v_iconst dX11_blankTown_56 (by decide) ?_
      refine v_if (fun h19 => ?_)
      refine v_iastore h19 dX11_blankTown_57 ?_
      refine v_bM (fun M20 e21 => ?_)
      refine v_iinc (ls' := [some (pA a0), some (pI (w32 (s13.1 + 1)))]) dX11_blankTown_58 (by decide) rfl rfl ?_
      refine v_goto (tgt := 33) dX11_blankTown_61 (by decide) ?_
      exact hrec12 (w32 (s13.1 + 1), M20)
    · refine v_iconst dX11_blankTown_64 (by decide) ?_
      refine v_istore_n (ls' := [some (pA a0), some (pI 0)]) dX11_blankTown_65 (by decide) rfl ?_
      refine v_loop (fun (s23 : Int × Mem) => [some (pA a0), some (pI s23.1)]) (fun (s23 : Int × Mem) => s23.2) (s0 := (0, s13.2)) ?_
      intro rec22 hrec22 s23
      refine v_iload_n dX11_blankTown_66 rfl ?_
      refine v_iconst dX11_blankTown_67 (by decide) ?_
      refine v_icmp_ge (tgt := 87) dX11_blankTown_68 (by decide) (fun c24 => ?_) (fun c24 => ?_)
      · refine v_aload_n dX11_blankTown_71 rfl ?_
        refine v_if (fun h25 => ?_)
        refine v_get (v := pA (s23.2.1 a0 19)) 10 19 rfl inX11 (by decide) tw1212 dX11_blankTown_72 h25 rfl ?_
        refine v_bipush dX11_blankTown_75 (by decide) ?_
        refine v_iload_n dX11_blankTown_77 rfl ?_
        refine v_iadd dX11_blankTown_78 ?_
        refine v_iconst dX11_blankTown_79 (by decide) ?_
        refine v_if (fun h26 => ?_)
        refine v_iastore h26 dX11_blankTown_80 ?_
        refine v_bM (fun M27 e28 => ?_)
        refine v_iinc (ls' := [some (pA a0), some (pI (w32 (s23.1 + 1)))]) dX11_blankTown_81 (by decide) rfl rfl ?_
        refine v_goto (tgt := 66) dX11_blankTown_84 (by decide) ?_
        exact hrec22 (w32 (s23.1 + 1), M27)
      · exact v_return dX11_blankTown_87 rfl rfl
