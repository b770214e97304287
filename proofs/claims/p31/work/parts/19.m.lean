theorem dX11_blank_0 : decode cX11_blank 0 = .ok (.iconst 0, 1) := by decide +kernel
theorem dX11_blank_1 : decode cX11_blank 1 = .ok (.istore_n 2, 1) := by decide +kernel
theorem dX11_blank_2 : decode cX11_blank 2 = .ok (.iload_n 2, 1) := by decide +kernel
theorem dX11_blank_3 : decode cX11_blank 3 = .ok (.sipush 161, 3) := by decide +kernel
theorem dX11_blank_6 : decode cX11_blank 6 = .ok (.if_icmp .ge 31, 3) := by decide +kernel
theorem dX11_blank_9 : decode cX11_blank 9 = .ok (.aload_n 0, 1) := by decide +kernel
theorem dX11_blank_10 : decode cX11_blank 10 = .ok (.getfield 38, 3) := by decide +kernel
theorem dX11_blank_13 : decode cX11_blank 13 = .ok (.iload_n 2, 1) := by decide +kernel
theorem dX11_blank_14 : decode cX11_blank 14 = .ok (.iload_n 1, 1) := by decide +kernel
theorem dX11_blank_15 : decode cX11_blank 15 = .ok (.iconst 3, 1) := by decide +kernel
theorem dX11_blank_16 : decode cX11_blank 16 = .ok (.if_icmp .ne 13, 3) := by decide +kernel
theorem dX11_blank_19 : decode cX11_blank 19 = .ok (.iload_n 2, 1) := by decide +kernel
theorem dX11_blank_20 : decode cX11_blank 20 = .ok (.bipush 17, 2) := by decide +kernel
theorem dX11_blank_22 : decode cX11_blank 22 = .ok (.if_icmp .lt 7, 3) := by decide +kernel
theorem dX11_blank_25 : decode cX11_blank 25 = .ok (.iconst (-1), 1) := by decide +kernel
theorem dX11_blank_26 : decode cX11_blank 26 = .ok (.goto 4, 3) := by decide +kernel
theorem dX11_blank_29 : decode cX11_blank 29 = .ok (.iconst 0, 1) := by decide +kernel
theorem dX11_blank_30 : decode cX11_blank 30 = .ok (.iastore, 1) := by decide +kernel
theorem dX11_blank_31 : decode cX11_blank 31 = .ok (.iinc 2 1, 3) := by decide +kernel
theorem dX11_blank_34 : decode cX11_blank 34 = .ok (.goto (-32), 3) := by decide +kernel
theorem dX11_blank_37 : decode cX11_blank 37 = .ok (.iload_n 1, 1) := by decide +kernel
theorem dX11_blank_38 : decode cX11_blank 38 = .ok (.ifCond .ne 7, 3) := by decide +kernel
theorem dX11_blank_41 : decode cX11_blank 41 = .ok (.aload_n 0, 1) := by decide +kernel
theorem dX11_blank_42 : decode cX11_blank 42 = .ok (.invokevirtual 251, 3) := by decide +kernel
theorem dX11_blank_45 : decode cX11_blank 45 = .ok (.iload_n 1, 1) := by decide +kernel
theorem dX11_blank_46 : decode cX11_blank 46 = .ok (.iconst 1, 1) := by decide +kernel
theorem dX11_blank_47 : decode cX11_blank 47 = .ok (.if_icmp .ne 18, 3) := by decide +kernel
theorem dX11_blank_50 : decode cX11_blank 50 = .ok (.aload_n 0, 1) := by decide +kernel
theorem dX11_blank_51 : decode cX11_blank 51 = .ok (.getfield 38, 3) := by decide +kernel
theorem dX11_blank_54 : decode cX11_blank 54 = .ok (.iconst 0, 1) := by decide +kernel
theorem dX11_blank_55 : decode cX11_blank 55 = .ok (.iconst 2, 1) := by decide +kernel
theorem dX11_blank_56 : decode cX11_blank 56 = .ok (.iastore, 1) := by decide +kernel
theorem dX11_blank_57 : decode cX11_blank 57 = .ok (.aload_n 0, 1) := by decide +kernel
theorem dX11_blank_58 : decode cX11_blank 58 = .ok (.getfield 38, 3) := by decide +kernel
theorem dX11_blank_61 : decode cX11_blank 61 = .ok (.iconst 1, 1) := by decide +kernel
theorem dX11_blank_62 : decode cX11_blank 62 = .ok (.bipush 20, 2) := by decide +kernel
theorem dX11_blank_64 : decode cX11_blank 64 = .ok (.iastore, 1) := by decide +kernel
theorem dX11_blank_65 : decode cX11_blank 65 = .ok (.return_, 1) := by decide +kernel
abbrev mX11_blank : MI := (yX11_blank, cX11_blank, 3, none, noE)
theorem okX11_blank : cok mX11_blank 1 := ⟨tw1378, tw11, by decide, by decide, by decide, by decide +kernel⟩
def fX11_blank (M : Mem) (a0 a1 : Int) : Option Mem :=
  iterC (fun (rec1 : (Int × Mem) → Option Mem) (s2 : Int × Mem) => if s2.1 < 161 then (if s2.2.2.1 a0 = 10 then jn (fun (t6 : Int) => if s2.2.2.1 (s2.2.1 a0 19) = 12 ∧ (0 : Int) ≤ s2.1 ∧ s2.1 < s2.2.2.2.1 (s2.2.1 a0 19) then bM (mst s2.2 (s2.2.1 a0 19) s2.1 t6) fun M8 => rec1 (w32 (s2.1 + 1), M8) else none) (fun (j5 : Int → Option Mem) => jn (fun (t11 : Unit) => j5 0) (fun (j10 : Unit → Option Mem) => if a1 = 3 then (if s2.1 < 17 then (j10 ()) else (j5 (-1))) else (j10 ()))) else none) else (jn (fun (t15 : Mem) => if a1 = 1 then (if t15.2.1 a0 = 10 then if t15.2.1 (t15.1 a0 19) = 12 ∧ (0 : Int) ≤ 0 ∧ 0 < t15.2.2.1 (t15.1 a0 19) then bM (mst t15 (t15.1 a0 19) 0 2) fun M19 => if M19.2.1 (M19.1 a0 19) = 12 ∧ (0 : Int) ≤ 1 ∧ 1 < M19.2.2.1 (M19.1 a0 19) then bM (mst M19 (M19.1 a0 19) 1 20) fun M22 => some M22 else none else none else none) else (some t15)) (fun (j14 : Mem → Option Mem) => if a1 = 0 then (if s2.2.2.1 a0 = 10 then (fX11_blankTown s2.2 a0).bind fun r25 => j14 r25 else none) else (j14 s2.2)))) BIG (0, M)
set_option maxRecDepth 100000 in
set_option maxHeartbeats 4000000 in
theorem kX11_blank (d : Nat) (hd : 1 ≤ d) (M : Mem) (a0 a1 : Int) : Ct mX11_blank d 0 0 [pA a0, pI a1] M dV (fX11_blank M a0 a1) := by
  obtain ⟨d, rfl⟩ : ∃ k, d = k + 1 := ⟨d - 1, by omega⟩
  refine Ct.of 1 (fun _ _ _ => trivial) (by decide +kernel) rfl ?_
  unfold fX11_blank
  refine v_iconst dX11_blank_0 (by decide) ?_
  refine v_istore_n (ls' := [some (pA a0), some (pI a1), some (pI 0)]) dX11_blank_1 (by decide) rfl ?_
  refine v_loop (fun (s2 : Int × Mem) => [some (pA a0), some (pI a1), some (pI s2.1)]) (fun (s2 : Int × Mem) => s2.2) (s0 := (0, M)) ?_
  intro rec1 hrec1 s2
  refine v_iload_n dX11_blank_2 rfl ?_
  refine v_sipush dX11_blank_3 (by decide) ?_
  refine v_icmp_ge (tgt := 37) dX11_blank_6 (by decide) (fun c3 => ?_) (fun c3 => ?_)
  · refine v_aload_n dX11_blank_9 rfl ?_
    refine v_if (fun h4 => ?_)
    refine v_get (v := pA (s2.2.1 a0 19)) 10 19 rfl inX11 (by decide) tw1212 dX11_blank_10 h4 rfl ?_
    refine v_iload_n dX11_blank_13 rfl ?_
    refine v_iload_n dX11_blank_14 rfl ?_
    refine v_iconst dX11_blank_15 (by decide) ?_
    refine v_join (fun (t6 : Int) => [some (pA a0), some (pI a1), some (pI s2.1)]) (fun (t6 : Int) => [pI t6, pI s2.1, pA (s2.2.1 a0 19)]) (fun (t6 : Int) => s2.2) 30 (fun t6 => ?_) (fun j5 hj5 => ?_)
    · refine v_if (fun h7 => ?_)
      refine v_iastore h7 dX11_blank_30 ?_
      refine v_bM (fun M8 e9 => ?_)
      refine v_iinc (ls' := [some (pA a0), some (pI a1), some (pI (w32 (s2.1 + 1)))]) dX11_blank_31 (by decide) rfl rfl ?_
      refine v_goto (tgt := 2) dX11_blank_34 (by decide) ?_
      exact hrec1 (w32 (s2.1 + 1), M8)
    · refine v_join (fun (t11 : Unit) => [some (pA a0), some (pI a1), some (pI s2.1)]) (fun (t11 : Unit) => [pI s2.1, pA (s2.2.1 a0 19)]) (fun (t11 : Unit) => s2.2) 29 (fun t11 => ?_) (fun j10 hj10 => ?_)
      · refine v_iconst dX11_blank_29 (by decide) ?_
        exact hj5 0
      · refine v_icmp_ne (tgt := 29) dX11_blank_16 (by decide) (fun c12 => ?_) (fun c12 => ?_)
        · refine v_iload_n dX11_blank_19 rfl ?_
          refine v_bipush dX11_blank_20 (by decide) ?_
          refine v_icmp_lt (tgt := 29) dX11_blank_22 (by decide) (fun c13 => ?_) (fun c13 => ?_)
          · exact hj10 ()
          · refine v_iconst dX11_blank_25 (by decide) ?_
            refine v_goto (tgt := 30) dX11_blank_26 (by decide) ?_
            exact hj5 (-1)
        · exact hj10 ()
  · refine v_iload_n dX11_blank_37 rfl ?_
    refine v_join (fun (t15 : Mem) => [some (pA a0), some (pI a1), none]) (fun (t15 : Mem) => []) (fun (t15 : Mem) => t15) 45 (fun t15 => ?_) (fun j14 hj14 => ?_)
    · refine v_iload_n dX11_blank_45 rfl ?_
      refine v_iconst dX11_blank_46 (by decide) ?_
      refine v_icmp_ne (tgt := 65) dX11_blank_47 (by decide) (fun c16 => ?_) (fun c16 => ?_)
      · refine v_aload_n dX11_blank_50 rfl ?_
        refine v_if (fun h17 => ?_)
        refine v_get (v := pA (t15.1 a0 19)) 10 19 rfl inX11 (by decide) tw1212 dX11_blank_51 h17 rfl ?_
        refine v_iconst dX11_blank_54 (by decide) ?_
        refine v_iconst dX11_blank_55 (by decide) ?_
        refine v_if (fun h18 => ?_)
        refine v_iastore h18 dX11_blank_56 ?_
        refine v_bM (fun M19 e20 => ?_)
        refine v_aload_n dX11_blank_57 rfl ?_
        refine v_get (v := pA (M19.1 a0 19)) 10 19 rfl inX11 (by decide) tw1212 dX11_blank_58 (by rw [e20]; exact h17) rfl ?_
        refine v_iconst dX11_blank_61 (by decide) ?_
        refine v_bipush dX11_blank_62 (by decide) ?_
        refine v_if (fun h21 => ?_)
        refine v_iastore h21 dX11_blank_64 ?_
        refine v_bM (fun M22 e23 => ?_)
        exact v_return dX11_blank_65 rfl rfl
      · exact v_return dX11_blank_65 rfl rfl
    · refine v_if_ne (tgt := 45) dX11_blank_38 (by decide) (fun c24 => ?_) (fun c24 => ?_)
      · refine v_aload_n dX11_blank_41 rfl ?_
        refine v_if (fun h27 => ?_)
        refine v_cV (mi := mX11_blank) (c0 := 0) (c1 := 0) (As := []) (st := []) (kX11_blankTown d (by omega) _ _) rfl h27 rfl okX11_blankTown (Or.inl tw1379) tw1381 tp31 rfl (Nat.le_of_ble_eq_true rfl) dX11_blank_42 (fun r25 => []) (fun r25 => r25) (fun _ => rfl) (fun _ => rfl) (fun r25 h26 => ?_) rfl
        exact v_drop [some (pA a0), some (pI a1), none] (ls_s (ls_s (ls_n ls_e))) (hj14 r25)
      · exact v_drop [some (pA a0), some (pI a1), none] (ls_s (ls_s (ls_n ls_e))) (hj14 s2.2)
theorem dX11_readText_0 : decode cX11_readText 0 = .ok (.aload_n 0, 1) := by decide +kernel
theorem dX11_readText_1 : decode cX11_readText 1 = .ok (.iload_n 1, 1) := by decide +kernel
theorem dX11_readText_2 : decode cX11_readText 2 = .ok (.invokevirtual 254, 3) := by decide +kernel
theorem dX11_readText_5 : decode cX11_readText 5 = .ok (.aload_n 0, 1) := by decide +kernel
theorem dX11_readText_6 : decode cX11_readText 6 = .ok (.iconst (-1), 1) := by decide +kernel
theorem dX11_readText_7 : decode cX11_readText 7 = .ok (.putfield 160, 3) := by decide +kernel
theorem dX11_readText_10 : decode cX11_readText 10 = .ok (.aload_n 0, 1) := by decide +kernel
theorem dX11_readText_11 : decode cX11_readText 11 = .ok (.iconst (-1), 1) := by decide +kernel
theorem dX11_readText_12 : decode cX11_readText 12 = .ok (.putfield 174, 3) := by decide +kernel
theorem dX11_readText_15 : decode cX11_readText 15 = .ok (.aload_n 0, 1) := by decide +kernel
theorem dX11_readText_16 : decode cX11_readText 16 = .ok (.iconst 0, 1) := by decide +kernel
theorem dX11_readText_17 : decode cX11_readText 17 = .ok (.putfield 106, 3) := by decide +kernel
theorem dX11_readText_20 : decode cX11_readText 20 = .ok (.aload_n 0, 1) := by decide +kernel
theorem dX11_readText_21 : decode cX11_readText 21 = .ok (.iconst 0, 1) := by decide +kernel
theorem dX11_readText_22 : decode cX11_readText 22 = .ok (.putfield 132, 3) := by decide +kernel
theorem dX11_readText_25 : decode cX11_readText 25 = .ok (.aload_n 0, 1) := by decide +kernel
theorem dX11_readText_26 : decode cX11_readText 26 = .ok (.invokevirtual 150, 3) := by decide +kernel
theorem dX11_readText_29 : decode cX11_readText 29 = .ok (.aload_n 0, 1) := by decide +kernel
theorem dX11_readText_30 : decode cX11_readText 30 = .ok (.iload_n 1, 1) := by decide +kernel
theorem dX11_readText_31 : decode cX11_readText 31 = .ok (.invokevirtual 257, 3) := by decide +kernel
theorem dX11_readText_34 : decode cX11_readText 34 = .ok (.istore_n 2, 1) := by decide +kernel
theorem dX11_readText_35 : decode cX11_readText 35 = .ok (.iload_n 2, 1) := by decide +kernel
theorem dX11_readText_36 : decode cX11_readText 36 = .ok (.ifCond .eq 49, 3) := by decide +kernel
theorem dX11_readText_39 : decode cX11_readText 39 = .ok (.iload_n 1, 1) := by decide +kernel
theorem dX11_readText_40 : decode cX11_readText 40 = .ok (.ifCond .ne 45, 3) := by decide +kernel
theorem dX11_readText_43 : decode cX11_readText 43 = .ok (.aload_n 0, 1) := by decide +kernel
theorem dX11_readText_44 : decode cX11_readText 44 = .ok (.getfield 132, 3) := by decide +kernel
theorem dX11_readText_47 : decode cX11_readText 47 = .ok (.ifCond .ne 38, 3) := by decide +kernel
theorem dX11_readText_50 : decode cX11_readText 50 = .ok (.aload_n 0, 1) := by decide +kernel
theorem dX11_readText_51 : decode cX11_readText 51 = .ok (.getfield 160, 3) := by decide +kernel
theorem dX11_readText_54 : decode cX11_readText 54 = .ok (.aload_n 0, 1) := by decide +kernel
theorem dX11_readText_55 : decode cX11_readText 55 = .ok (.getfield 38, 3) := by decide +kernel
theorem dX11_readText_58 : decode cX11_readText 58 = .ok (.iconst 0, 1) := by decide +kernel
theorem dX11_readText_59 : decode cX11_readText 59 = .ok (.iaload, 1) := by decide +kernel
theorem dX11_readText_60 : decode cX11_readText 60 = .ok (.if_icmp .ge 16, 3) := by decide +kernel
theorem dX11_readText_63 : decode cX11_readText 63 = .ok (.aload_n 0, 1) := by decide +kernel
theorem dX11_readText_64 : decode cX11_readText 64 = .ok (.getfield 174, 3) := by decide +kernel
theorem dX11_readText_67 : decode cX11_readText 67 = .ok (.aload_n 0, 1) := by decide +kernel
theorem dX11_readText_68 : decode cX11_readText 68 = .ok (.getfield 38, 3) := by decide +kernel
theorem dX11_readText_71 : decode cX11_readText 71 = .ok (.iconst 1, 1) := by decide +kernel
theorem dX11_readText_72 : decode cX11_readText 72 = .ok (.iaload, 1) := by decide +kernel
theorem dX11_readText_73 : decode cX11_readText 73 = .ok (.if_icmp .lt 12, 3) := by decide +kernel
theorem dX11_readText_76 : decode cX11_readText 76 = .ok (.aload_n 0, 1) := by decide +kernel
theorem dX11_readText_77 : decode cX11_readText 77 = .ok (.iconst 4, 1) := by decide +kernel
theorem dX11_readText_78 : decode cX11_readText 78 = .ok (.aload_n 0, 1) := by decide +kernel
theorem dX11_readText_79 : decode cX11_readText 79 = .ok (.getfield 116, 3) := by decide +kernel
theorem dX11_readText_82 : decode cX11_readText 82 = .ok (.invokevirtual 142, 3) := by decide +kernel
theorem dX11_readText_85 : decode cX11_readText 85 = .ok (.aload_n 0, 1) := by decide +kernel
theorem dX11_readText_86 : decode cX11_readText 86 = .ok (.getfield 17, 3) := by decide +kernel
theorem dX11_readText_89 : decode cX11_readText 89 = .ok (.iconst 0, 1) := by decide +kernel
theorem dX11_readText_90 : decode cX11_readText 90 = .ok (.iload_n 2, 1) := by decide +kernel
theorem dX11_readText_91 : decode cX11_readText 91 = .ok (.ifCond .eq 10, 3) := by decide +kernel
theorem dX11_readText_94 : decode cX11_readText 94 = .ok (.aload_n 0, 1) := by decide +kernel
theorem dX11_readText_95 : decode cX11_readText 95 = .ok (.getfield 132, 3) := by decide +kernel
theorem dX11_readText_98 : decode cX11_readText 98 = .ok (.goto 4, 3) := by decide +kernel
theorem dX11_readText_101 : decode cX11_readText 101 = .ok (.iconst 1, 1) := by decide +kernel
theorem dX11_readText_102 : decode cX11_readText 102 = .ok (.iastore, 1) := by decide +kernel
theorem dX11_readText_103 : decode cX11_readText 103 = .ok (.aload_n 0, 1) := by decide +kernel
theorem dX11_readText_104 : decode cX11_readText 104 = .ok (.getfield 20, 3) := by decide +kernel
theorem dX11_readText_107 : decode cX11_readText 107 = .ok (.iconst 0, 1) := by decide +kernel
theorem dX11_readText_108 : decode cX11_readText 108 = .ok (.iload_n 2, 1) := by decide +kernel
theorem dX11_readText_109 : decode cX11_readText 109 = .ok (.ifCond .ne 10, 3) := by decide +kernel
theorem dX11_readText_112 : decode cX11_readText 112 = .ok (.aload_n 0, 1) := by decide +kernel
theorem dX11_readText_113 : decode cX11_readText 113 = .ok (.getfield 129, 3) := by decide +kernel
theorem dX11_readText_116 : decode cX11_readText 116 = .ok (.goto 18, 3) := by decide +kernel
theorem dX11_readText_119 : decode cX11_readText 119 = .ok (.aload_n 0, 1) := by decide +kernel
theorem dX11_readText_120 : decode cX11_readText 120 = .ok (.getfield 132, 3) := by decide +kernel
theorem dX11_readText_123 : decode cX11_readText 123 = .ok (.ifCond .le 10, 3) := by decide +kernel
theorem dX11_readText_126 : decode cX11_readText 126 = .ok (.aload_n 0, 1) := by decide +kernel
theorem dX11_readText_127 : decode cX11_readText 127 = .ok (.getfield 135, 3) := by decide +kernel
theorem dX11_readText_130 : decode cX11_readText 130 = .ok (.goto 4, 3) := by decide +kernel
theorem dX11_readText_133 : decode cX11_readText 133 = .ok (.iconst (-1), 1) := by decide +kernel
theorem dX11_readText_134 : decode cX11_readText 134 = .ok (.iastore, 1) := by decide +kernel
theorem dX11_readText_135 : decode cX11_readText 135 = .ok (.aload_n 0, 1) := by decide +kernel
theorem dX11_readText_136 : decode cX11_readText 136 = .ok (.getfield 17, 3) := by decide +kernel
theorem dX11_readText_139 : decode cX11_readText 139 = .ok (.iconst 0, 1) := by decide +kernel
theorem dX11_readText_140 : decode cX11_readText 140 = .ok (.iaload, 1) := by decide +kernel
theorem dX11_readText_141 : decode cX11_readText 141 = .ok (.ifCond .ne 7, 3) := by decide +kernel
theorem dX11_readText_144 : decode cX11_readText 144 = .ok (.iconst 1, 1) := by decide +kernel
theorem dX11_readText_145 : decode cX11_readText 145 = .ok (.goto 4, 3) := by decide +kernel
theorem dX11_readText_148 : decode cX11_readText 148 = .ok (.iconst 0, 1) := by decide +kernel
theorem dX11_readText_149 : decode cX11_readText 149 = .ok (.ireturn, 1) := by decide +kernel
abbrev mX11_readText : MI := (yX11_readText, cX11_readText, 3, (some .boolean), noE)
theorem okX11_readText : cok mX11_readText 1 := ⟨tw1374, tw11, by decide, by decide, by decide, by decide +kernel⟩
def fX11_readText (M : Mem) (a0 a1 : Int) : Option (Int × Mem) :=
  if M.2.1 a0 = 10 then (fX11_blank M a0 a1).bind fun r1 => if r1.2.1 a0 = 10 then bM (mst r1 a0 21 (-1)) fun M5 => bM (mst M5 a0 22 (-1)) fun M7 => bM (mst M7 a0 10 0) fun M9 => bM (mst M9 a0 17 0) fun M11 => (fX11_token M11 a0).bind fun r13 => if r13.2.1 a0 = 10 then (fX11_lines r13 a0 a1).bind fun r15 => jn (fun (t19 : Mem) => if t19.2.1 a0 = 10 then jn (fun (t22 : Int) => if t19.2.1 (t19.1 a0 3) = 12 ∧ (0 : Int) ≤ 0 ∧ 0 < t19.2.2.1 (t19.1 a0 3) then bM (mst t19 (t19.1 a0 3) 0 t22) fun M24 => jn (fun (t27 : Int) => if M24.2.1 (M24.1 a0 4) = 12 ∧ (0 : Int) ≤ 0 ∧ 0 < M24.2.2.1 (M24.1 a0 4) then bM (mst M24 (M24.1 a0 4) 0 t27) fun M29 => if M29.2.1 (M29.1 a0 3) = 12 ∧ (0 : Int) ≤ 0 ∧ 0 < M29.2.2.1 (M29.1 a0 3) then if M29.1 (M29.1 a0 3) 0 = 0 then (some (1, M29)) else (some (0, M29)) else none else none) (fun (j26 : Int → Option (Int × Mem)) => if r15.1 = 0 then (j26 (M24.1 a0 16)) else (if 0 < M24.1 a0 17 then (j26 (M24.1 a0 18)) else (j26 (-1)))) else none) (fun (j21 : Int → Option (Int × Mem)) => if r15.1 = 0 then (j21 1) else (j21 (t19.1 a0 17))) else none) (fun (j18 : Mem → Option (Int × Mem)) => if r15.1 = 0 then (j18 r15.2) else (if a1 = 0 then (if r15.2.2.1 a0 = 10 then if r15.2.1 a0 17 = 0 then (if r15.2.2.1 (r15.2.1 a0 19) = 12 ∧ (0 : Int) ≤ 0 ∧ 0 < r15.2.2.2.1 (r15.2.1 a0 19) then jn (fun (t42 : Unit) => (fX11_later r15.2 a0 4 (r15.2.1 a0 12)).bind fun r43 => j18 r43) (fun (j41 : Unit → Option (Int × Mem)) => if r15.2.1 a0 21 < r15.2.1 (r15.2.1 a0 19) 0 then (if r15.2.2.1 (r15.2.1 a0 19) = 12 ∧ (0 : Int) ≤ 1 ∧ 1 < r15.2.2.2.1 (r15.2.1 a0 19) then if r15.2.1 a0 22 < r15.2.1 (r15.2.1 a0 19) 1 then (j18 r15.2) else (j41 ()) else none) else (j41 ())) else none) else (j18 r15.2) else none) else (j18 r15.2))) else none else none else none
set_option maxRecDepth 100000 in
set_option maxHeartbeats 4000000 in
theorem kX11_readText (d : Nat) (hd : 9 ≤ d) (M : Mem) (a0 a1 : Int) : Ct mX11_readText d 0 0 [pA a0, pI a1] M dIM (fX11_readText M a0 a1) := by
  obtain ⟨d, rfl⟩ : ∃ k, d = k + 1 := ⟨d - 1, by omega⟩
  refine Ct.of 1 (fun _ _ _ => trivial) (by decide +kernel) rfl ?_
  unfold fX11_readText
  refine v_aload_n dX11_readText_0 rfl ?_
  refine v_iload_n dX11_readText_1 rfl ?_
  refine v_if (fun h3 => ?_)
  refine v_cV (mi := mX11_readText) (c0 := 0) (c1 := 0) (As := [pI a1]) (st := []) (kX11_blank d (by omega) _ _ _) rfl h3 rfl okX11_blank (Or.inl tw1375) tw1377 tp30 rfl (Nat.le_of_ble_eq_true rfl) dX11_readText_2 (fun r1 => []) (fun r1 => r1) (fun _ => rfl) (fun _ => rfl) (fun r1 h2 => ?_) rfl
  refine v_aload_n dX11_readText_5 rfl ?_
  refine v_iconst dX11_readText_6 (by decide) ?_
  refine v_if (fun h4 => ?_)
  refine v_put (x := (-1)) 10 21 rfl inX11 (by decide) tw1214 (Or.inl rfl) rfl dX11_readText_7 h4 rfl id ?_
  refine v_bM (fun M5 e6 => ?_)
  refine v_aload_n dX11_readText_10 rfl ?_
  refine v_iconst dX11_readText_11 (by decide) ?_
  refine v_put (x := (-1)) 10 22 rfl inX11 (by decide) tw1215 (Or.inl rfl) rfl dX11_readText_12 (by rw [e6]; exact h4) rfl id ?_
  refine v_bM (fun M7 e8 => ?_)
  refine v_aload_n dX11_readText_15 rfl ?_
  refine v_iconst dX11_readText_16 (by decide) ?_
  refine v_put (x := 0) 10 10 rfl inX11 (by decide) tw1203 (Or.inl rfl) rfl dX11_readText_17 (by rw [e8, e6]; exact h4) rfl id ?_
  refine v_bM (fun M9 e10 => ?_)
  refine v_aload_n dX11_readText_20 rfl ?_
  refine v_iconst dX11_readText_21 (by decide) ?_
  refine v_put (x := 0) 10 17 rfl inX11 (by decide) tw1210 (Or.inl rfl) rfl dX11_readText_22 (by rw [e10, e8, e6]; exact h4) rfl id ?_
  refine v_bM (fun M11 e12 => ?_)
  refine v_aload_n dX11_readText_25 rfl ?_
  refine v_cV (mi := mX11_readText) (c0 := 0) (c1 := 0) (As := []) (st := []) (kX11_token d (by omega) _ _) rfl (by rw [e12, e10, e8, e6]; exact h4) rfl okX11_token (Or.inl tw1383) tw1385 tp32 rfl (Nat.le_of_ble_eq_true rfl) dX11_readText_26 (fun r13 => []) (fun r13 => r13) (fun _ => rfl) (fun _ => rfl) (fun r13 h14 => ?_) rfl
  refine v_aload_n dX11_readText_29 rfl ?_
  refine v_iload_n dX11_readText_30 rfl ?_
  refine v_if (fun h17 => ?_)
  refine v_cV (mi := mX11_readText) (c0 := 0) (c1 := 0) (As := [pI a1]) (st := []) (kX11_lines d (by omega) _ _ _) rfl h17 rfl okX11_lines (Or.inl tw1391) tw1393 tp34 rfl (Nat.le_of_ble_eq_true rfl) dX11_readText_31 (fun r15 => [pI r15.1]) (fun r15 => r15.2) (fun _ => rfl) (fun _ => rfl) (fun r15 h16 => ?_) rfl
  refine v_istore_n (ls' := [some (pA a0), some (pI a1), some (pI r15.1)]) dX11_readText_34 (by decide) rfl ?_
  refine v_iload_n dX11_readText_35 rfl ?_
  refine v_join (fun (t19 : Mem) => [some (pA a0), none, some (pI r15.1)]) (fun (t19 : Mem) => []) (fun (t19 : Mem) => t19) 85 (fun t19 => ?_) (fun j18 hj18 => ?_)
  · refine v_aload_n dX11_readText_85 rfl ?_
    refine v_if (fun h20 => ?_)
    refine v_get (v := pA (t19.1 a0 3)) 10 3 rfl inX11 (by decide) tw1196 dX11_readText_86 h20 rfl ?_
    refine v_iconst dX11_readText_89 (by decide) ?_
    refine v_iload_n dX11_readText_90 rfl ?_
    refine v_join (fun (t22 : Int) => [some (pA a0), none, some (pI r15.1)]) (fun (t22 : Int) => [pI t22, pI 0, pA (t19.1 a0 3)]) (fun (t22 : Int) => t19) 102 (fun t22 => ?_) (fun j21 hj21 => ?_)
    · refine v_if (fun h23 => ?_)
      refine v_iastore h23 dX11_readText_102 ?_
      refine v_bM (fun M24 e25 => ?_)
      refine v_aload_n dX11_readText_103 rfl ?_
      refine v_get (v := pA (M24.1 a0 4)) 10 4 rfl inX11 (by decide) tw1197 dX11_readText_104 (by rw [e25]; exact h20) rfl ?_
      refine v_iconst dX11_readText_107 (by decide) ?_
      refine v_iload_n dX11_readText_108 rfl ?_
      refine v_join (fun (t27 : Int) => [some (pA a0), none, none]) (fun (t27 : Int) => [pI t27, pI 0, pA (M24.1 a0 4)]) (fun (t27 : Int) => M24) 134 (fun t27 => ?_) (fun j26 hj26 => ?_)
      · refine v_if (fun h28 => ?_)
        refine v_iastore h28 dX11_readText_134 ?_
        refine v_bM (fun M29 e30 => ?_)
        refine v_aload_n dX11_readText_135 rfl ?_
        refine v_get (v := pA (M29.1 a0 3)) 10 3 rfl inX11 (by decide) tw1196 dX11_readText_136 (by rw [e30, e25]; exact h20) rfl ?_
        refine v_iconst dX11_readText_139 (by decide) ?_
        refine v_if (fun h31 => ?_)
        refine v_iaload h31 dX11_readText_140 ?_
        refine v_if_ne (tgt := 148) dX11_readText_141 (by decide) (fun c32 => ?_) (fun c32 => ?_)
        · refine v_iconst dX11_readText_144 (by decide) ?_
          refine v_goto (tgt := 149) dX11_readText_145 (by decide) ?_
          exact v_breturn dX11_readText_149 rfl (by decide) rfl
        · refine v_iconst dX11_readText_148 (by decide) ?_
          exact v_breturn dX11_readText_149 rfl (by decide) rfl
      · refine v_if_ne (tgt := 119) dX11_readText_109 (by decide) (fun c33 => ?_) (fun c33 => ?_)
        · refine v_aload_n dX11_readText_112 rfl ?_
          refine v_get (v := pI (M24.1 a0 16)) 10 16 rfl inX11 (by decide) tw1209 dX11_readText_113 (by rw [e25]; exact h20) rfl ?_
          refine v_goto (tgt := 134) dX11_readText_116 (by decide) ?_
          exact v_drop [some (pA a0), none, none] (ls_s (ls_n (ls_n ls_e))) (hj26 (M24.1 a0 16))
        · refine v_aload_n dX11_readText_119 rfl ?_
          refine v_get (v := pI (M24.1 a0 17)) 10 17 rfl inX11 (by decide) tw1210 dX11_readText_120 (by rw [e25]; exact h20) rfl ?_
          refine v_if_le (tgt := 133) dX11_readText_123 (by decide) (fun c34 => ?_) (fun c34 => ?_)
          · refine v_aload_n dX11_readText_126 rfl ?_
            refine v_get (v := pI (M24.1 a0 18)) 10 18 rfl inX11 (by decide) tw1211 dX11_readText_127 (by rw [e25]; exact h20) rfl ?_
            refine v_goto (tgt := 134) dX11_readText_130 (by decide) ?_
            exact v_drop [some (pA a0), none, none] (ls_s (ls_n (ls_n ls_e))) (hj26 (M24.1 a0 18))
          · refine v_iconst dX11_readText_133 (by decide) ?_
            exact v_drop [some (pA a0), none, none] (ls_s (ls_n (ls_n ls_e))) (hj26 (-1))
    · refine v_if_eq (tgt := 101) dX11_readText_91 (by decide) (fun c35 => ?_) (fun c35 => ?_)
      · refine v_iconst dX11_readText_101 (by decide) ?_
        exact hj21 1
      · refine v_aload_n dX11_readText_94 rfl ?_
        refine v_get (v := pI (t19.1 a0 17)) 10 17 rfl inX11 (by decide) tw1210 dX11_readText_95 h20 rfl ?_
        refine v_goto (tgt := 102) dX11_readText_98 (by decide) ?_
        exact hj21 (t19.1 a0 17)
  · refine v_if_eq (tgt := 85) dX11_readText_36 (by decide) (fun c36 => ?_) (fun c36 => ?_)
    · exact v_drop [some (pA a0), none, some (pI r15.1)] (ls_s (ls_n (ls_s ls_e))) (hj18 r15.2)
    · refine v_iload_n dX11_readText_39 rfl ?_
      refine v_if_ne (tgt := 85) dX11_readText_40 (by decide) (fun c37 => ?_) (fun c37 => ?_)
      · refine v_aload_n dX11_readText_43 rfl ?_
        refine v_if (fun h38 => ?_)
        refine v_get (v := pI (r15.2.1 a0 17)) 10 17 rfl inX11 (by decide) tw1210 dX11_readText_44 h38 rfl ?_
        refine v_if_ne (tgt := 85) dX11_readText_47 (by decide) (fun c39 => ?_) (fun c39 => ?_)
        · refine v_aload_n dX11_readText_50 rfl ?_
          refine v_get (v := pI (r15.2.1 a0 21)) 10 21 rfl inX11 (by decide) tw1214 dX11_readText_51 h38 rfl ?_
          refine v_aload_n dX11_readText_54 rfl ?_
          refine v_get (v := pA (r15.2.1 a0 19)) 10 19 rfl inX11 (by decide) tw1212 dX11_readText_55 h38 rfl ?_
          refine v_iconst dX11_readText_58 (by decide) ?_
          refine v_if (fun h40 => ?_)
          refine v_iaload h40 dX11_readText_59 ?_
          refine v_join (fun (t42 : Unit) => [some (pA a0), none, some (pI r15.1)]) (fun (t42 : Unit) => []) (fun (t42 : Unit) => r15.2) 76 (fun t42 => ?_) (fun j41 hj41 => ?_)
          · refine v_aload_n dX11_readText_76 rfl ?_
            refine v_iconst dX11_readText_77 (by decide) ?_
            refine v_aload_n dX11_readText_78 rfl ?_
            refine v_get (v := pI (r15.2.1 a0 12)) 10 12 rfl inX11 (by decide) tw1205 dX11_readText_79 h38 rfl ?_
            refine v_cV (mi := mX11_readText) (c0 := 0) (c1 := 0) (As := [pI 4, pI (r15.2.1 a0 12)]) (st := []) (kX11_later d (by omega) _ _ _ _) rfl h38 rfl okX11_later (Or.inl tw1420) tw1422 tp39 rfl (Nat.le_of_ble_eq_true rfl) dX11_readText_82 (fun r43 => []) (fun r43 => r43) (fun _ => rfl) (fun _ => rfl) (fun r43 h44 => ?_) rfl
            exact hj18 r43
          · refine v_icmp_ge (tgt := 76) dX11_readText_60 (by decide) (fun c45 => ?_) (fun c45 => ?_)
            · refine v_aload_n dX11_readText_63 rfl ?_
              refine v_get (v := pI (r15.2.1 a0 22)) 10 22 rfl inX11 (by decide) tw1215 dX11_readText_64 h38 rfl ?_
              refine v_aload_n dX11_readText_67 rfl ?_
              refine v_get (v := pA (r15.2.1 a0 19)) 10 19 rfl inX11 (by decide) tw1212 dX11_readText_68 h38 rfl ?_
              refine v_iconst dX11_readText_71 (by decide) ?_
              refine v_if (fun h46 => ?_)
              refine v_iaload h46 dX11_readText_72 ?_
              refine v_icmp_lt (tgt := 85) dX11_readText_73 (by decide) (fun c47 => ?_) (fun c47 => ?_)
              · exact v_drop [some (pA a0), none, some (pI r15.1)] (ls_s (ls_n (ls_s ls_e))) (hj18 r15.2)
              · exact v_drop [some (pA a0), none, some (pI r15.1)] (ls_s (ls_n (ls_s ls_e))) (hj41 ())
            · exact v_drop [some (pA a0), none, some (pI r15.1)] (ls_s (ls_n (ls_s ls_e))) (hj41 ())
        · exact v_drop [some (pA a0), none, some (pI r15.1)] (ls_s (ls_n (ls_s ls_e))) (hj18 r15.2)
      · exact v_drop [some (pA a0), none, some (pI r15.1)] (ls_s (ls_n (ls_s ls_e))) (hj18 r15.2)
theorem dX11_store_0 : decode cX11_store 0 = .ok (.iconst 0, 1) := by decide +kernel
theorem dX11_store_1 : decode cX11_store 1 = .ok (.istore 4, 2) := by decide +kernel
theorem dX11_store_3 : decode cX11_store 3 = .ok (.iload 4, 2) := by decide +kernel
theorem dX11_store_5 : decode cX11_store 5 = .ok (.iload_n 2, 1) := by decide +kernel
theorem dX11_store_6 : decode cX11_store 6 = .ok (.if_icmp .ge 24, 3) := by decide +kernel
theorem dX11_store_9 : decode cX11_store 9 = .ok (.aload_n 1, 1) := by decide +kernel
theorem dX11_store_10 : decode cX11_store 10 = .ok (.iload_n 2, 1) := by decide +kernel
theorem dX11_store_11 : decode cX11_store 11 = .ok (.iload_n 3, 1) := by decide +kernel
theorem dX11_store_12 : decode cX11_store 12 = .ok (.imul, 1) := by decide +kernel
theorem dX11_store_13 : decode cX11_store 13 = .ok (.iload 4, 2) := by decide +kernel
theorem dX11_store_15 : decode cX11_store 15 = .ok (.iadd, 1) := by decide +kernel
theorem dX11_store_16 : decode cX11_store 16 = .ok (.aload_n 0, 1) := by decide +kernel
theorem dX11_store_17 : decode cX11_store 17 = .ok (.getfield 38, 3) := by decide +kernel
theorem dX11_store_20 : decode cX11_store 20 = .ok (.iload 4, 2) := by decide +kernel
theorem dX11_store_22 : decode cX11_store 22 = .ok (.iaload, 1) := by decide +kernel
theorem dX11_store_23 : decode cX11_store 23 = .ok (.iastore, 1) := by decide +kernel
theorem dX11_store_24 : decode cX11_store 24 = .ok (.iinc 4 1, 3) := by decide +kernel
theorem dX11_store_27 : decode cX11_store 27 = .ok (.goto (-24), 3) := by decide +kernel
theorem dX11_store_30 : decode cX11_store 30 = .ok (.return_, 1) := by decide +kernel
abbrev mX11_store : MI := (yX11_store, cX11_store, 5, none, noE)
theorem okX11_store : cok mX11_store 3 := ⟨tw1491, tw11, by decide, by decide, by decide, by decide +kernel⟩
def fX11_store (M : Mem) (a0 a1 a2 a3 : Int) : Option Mem :=
  iterC (fun (rec1 : (Int × Mem) → Option Mem) (s2 : Int × Mem) => if s2.1 < a2 then (if s2.2.2.1 a0 = 10 then if s2.2.2.1 (s2.2.1 a0 19) = 12 ∧ (0 : Int) ≤ s2.1 ∧ s2.1 < s2.2.2.2.1 (s2.2.1 a0 19) then if s2.2.2.1 a1 = 12 ∧ (0 : Int) ≤ (w32 ((w32 (a2 * a3)) + s2.1)) ∧ (w32 ((w32 (a2 * a3)) + s2.1)) < s2.2.2.2.1 a1 then bM (mst s2.2 a1 (w32 ((w32 (a2 * a3)) + s2.1)) (s2.2.1 (s2.2.1 a0 19) s2.1)) fun M7 => rec1 (w32 (s2.1 + 1), M7) else none else none else none) else (some s2.2)) BIG (0, M)
set_option maxRecDepth 100000 in
set_option maxHeartbeats 4000000 in
theorem kX11_store (d : Nat) (hd : 0 ≤ d) (M : Mem) (a0 a1 a2 a3 : Int) : Ct mX11_store d 0 0 [pA a0, pA a1, pI a2, pI a3] M dV (fX11_store M a0 a1 a2 a3) := by
  refine Ct.of 1 (fun _ _ _ => trivial) (by decide +kernel) rfl ?_
  unfold fX11_store
  refine v_iconst dX11_store_0 (by decide) ?_
  refine v_istore (ls' := [some (pA a0), some (pA a1), some (pI a2), some (pI a3), some (pI 0)]) dX11_store_1 (by decide) rfl ?_
  refine v_loop (fun (s2 : Int × Mem) => [some (pA a0), some (pA a1), some (pI a2), some (pI a3), some (pI s2.1)]) (fun (s2 : Int × Mem) => s2.2) (s0 := (0, M)) ?_
  intro rec1 hrec1 s2
  refine v_iload dX11_store_3 rfl ?_
  refine v_iload_n dX11_store_5 rfl ?_
  refine v_icmp_ge (tgt := 30) dX11_store_6 (by decide) (fun c3 => ?_) (fun c3 => ?_)
  · refine v_aload_n dX11_store_9 rfl ?_
    refine v_iload_n dX11_store_10 rfl ?_
    refine v_iload_n dX11_store_11 rfl ?_
    refine v_imul dX11_store_12 ?_
    refine v_iload dX11_store_13 rfl ?_
    refine v_iadd dX11_store_15 ?_
    refine v_aload_n dX11_store_16 rfl ?_
    refine v_if (fun h4 => ?_)
    refine v_get (v := pA (s2.2.1 a0 19)) 10 19 rfl inX11 (by decide) tw1212 dX11_store_17 h4 rfl ?_
    refine v_iload dX11_store_20 rfl ?_
    refine v_if (fun h5 => ?_)
    refine v_iaload h5 dX11_store_22 ?_
    refine v_if (fun h6 => ?_)
    refine v_iastore h6 dX11_store_23 ?_
    refine v_bM (fun M7 e8 => ?_)
    refine v_iinc (ls' := [some (pA a0), some (pA a1), some (pI a2), some (pI a3), some (pI (w32 (s2.1 + 1)))]) dX11_store_24 (by decide) rfl rfl ?_
    refine v_goto (tgt := 3) dX11_store_27 (by decide) ?_
    exact hrec1 (w32 (s2.1 + 1), M7)
  · exact v_return dX11_store_30 rfl rfl
theorem dX11_storeAll_0 : decode cX11_storeAll 0 = .ok (.iload_n 1, 1) := by decide +kernel
theorem dX11_storeAll_1 : decode cX11_storeAll 1 = .ok (.tableswitch 63 0 2 #[27, 39, 50], 27) := by decide +kernel
theorem dX11_storeAll_28 : decode cX11_storeAll 28 = .ok (.aload_n 0, 1) := by decide +kernel
theorem dX11_storeAll_29 : decode cX11_storeAll 29 = .ok (.aload_n 0, 1) := by decide +kernel
theorem dX11_storeAll_30 : decode cX11_storeAll 30 = .ok (.getfield 26, 3) := by decide +kernel
theorem dX11_storeAll_33 : decode cX11_storeAll 33 = .ok (.bipush 92, 2) := by decide +kernel
theorem dX11_storeAll_35 : decode cX11_storeAll 35 = .ok (.iload_n 2, 1) := by decide +kernel
theorem dX11_storeAll_36 : decode cX11_storeAll 36 = .ok (.invokevirtual 260, 3) := by decide +kernel
theorem dX11_storeAll_39 : decode cX11_storeAll 39 = .ok (.return_, 1) := by decide +kernel
theorem dX11_storeAll_40 : decode cX11_storeAll 40 = .ok (.aload_n 0, 1) := by decide +kernel
theorem dX11_storeAll_41 : decode cX11_storeAll 41 = .ok (.aload_n 0, 1) := by decide +kernel
theorem dX11_storeAll_42 : decode cX11_storeAll 42 = .ok (.getfield 29, 3) := by decide +kernel
theorem dX11_storeAll_45 : decode cX11_storeAll 45 = .ok (.iconst 3, 1) := by decide +kernel
theorem dX11_storeAll_46 : decode cX11_storeAll 46 = .ok (.iload_n 2, 1) := by decide +kernel
theorem dX11_storeAll_47 : decode cX11_storeAll 47 = .ok (.invokevirtual 260, 3) := by decide +kernel
theorem dX11_storeAll_50 : decode cX11_storeAll 50 = .ok (.return_, 1) := by decide +kernel
theorem dX11_storeAll_51 : decode cX11_storeAll 51 = .ok (.aload_n 0, 1) := by decide +kernel
theorem dX11_storeAll_52 : decode cX11_storeAll 52 = .ok (.aload_n 0, 1) := by decide +kernel
theorem dX11_storeAll_53 : decode cX11_storeAll 53 = .ok (.getfield 32, 3) := by decide +kernel
theorem dX11_storeAll_56 : decode cX11_storeAll 56 = .ok (.sipush 161, 3) := by decide +kernel
theorem dX11_storeAll_59 : decode cX11_storeAll 59 = .ok (.iload_n 2, 1) := by decide +kernel
theorem dX11_storeAll_60 : decode cX11_storeAll 60 = .ok (.invokevirtual 260, 3) := by decide +kernel
theorem dX11_storeAll_63 : decode cX11_storeAll 63 = .ok (.return_, 1) := by decide +kernel
theorem dX11_storeAll_64 : decode cX11_storeAll 64 = .ok (.aload_n 0, 1) := by decide +kernel
theorem dX11_storeAll_65 : decode cX11_storeAll 65 = .ok (.aload_n 0, 1) := by decide +kernel
theorem dX11_storeAll_66 : decode cX11_storeAll 66 = .ok (.getfield 35, 3) := by decide +kernel
theorem dX11_storeAll_69 : decode cX11_storeAll 69 = .ok (.bipush 47, 2) := by decide +kernel
theorem dX11_storeAll_71 : decode cX11_storeAll 71 = .ok (.iload_n 2, 1) := by decide +kernel
theorem dX11_storeAll_72 : decode cX11_storeAll 72 = .ok (.invokevirtual 260, 3) := by decide +kernel
theorem dX11_storeAll_75 : decode cX11_storeAll 75 = .ok (.return_, 1) := by decide +kernel
abbrev mX11_storeAll : MI := (yX11_storeAll, cX11_storeAll, 3, none, noE)
theorem okX11_storeAll : cok mX11_storeAll 2 := ⟨tw1487, tw11, by decide, by decide, by decide, by decide +kernel⟩
def fX11_storeAll (M : Mem) (a0 a1 a2 : Int) : Option Mem :=
  if a1 = 0 then (if M.2.1 a0 = 10 then (fX11_store M a0 (M.1 a0 6) 92 a2).bind fun r3 => some r3 else none) else if a1 = 1 then (if M.2.1 a0 = 10 then (fX11_store M a0 (M.1 a0 7) 3 a2).bind fun r7 => some r7 else none) else if a1 = 2 then (if M.2.1 a0 = 10 then (fX11_store M a0 (M.1 a0 8) 161 a2).bind fun r11 => some r11 else none) else if M.2.1 a0 = 10 then (fX11_store M a0 (M.1 a0 9) 47 a2).bind fun r14 => some r14 else none
set_option maxRecDepth 100000 in
set_option maxHeartbeats 4000000 in
theorem kX11_storeAll (d : Nat) (hd : 1 ≤ d) (M : Mem) (a0 a1 a2 : Int) : Ct mX11_storeAll d 0 0 [pA a0, pI a1, pI a2] M dV (fX11_storeAll M a0 a1 a2) := by
  obtain ⟨d, rfl⟩ : ∃ k, d = k + 1 := ⟨d - 1, by omega⟩
  refine Ct.of 0 (fun _ _ _ => trivial) (by decide +kernel) rfl ?_
  unfold fX11_storeAll
  refine v_iload_n dX11_storeAll_0 rfl ?_
  refine v_ite (fun h1 => ?_) (fun h1 => ?_)
  · refine v_tabIn (off := 27) (tgt := 28) dX11_storeAll_1 h1 (by decide) ?_
    refine v_aload_n dX11_storeAll_28 rfl ?_
    refine v_aload_n dX11_storeAll_29 rfl ?_
    refine v_if (fun h2 => ?_)
    refine v_get (v := pA (M.1 a0 6)) 10 6 rfl inX11 (by decide) tw1199 dX11_storeAll_30 h2 rfl ?_
    refine v_bipush dX11_storeAll_33 (by decide) ?_
    refine v_iload_n dX11_storeAll_35 rfl ?_
    refine v_cV (mi := mX11_storeAll) (c0 := 0) (c1 := 0) (As := [pA (M.1 a0 6), pI 92, pI a2]) (st := []) (kX11_store d (by omega) _ _ _ _ _) rfl h2 rfl okX11_store (Or.inl tw1488) tw1490 tp53 rfl (Nat.le_of_ble_eq_true rfl) dX11_storeAll_36 (fun r3 => []) (fun r3 => r3) (fun _ => rfl) (fun _ => rfl) (fun r3 h4 => ?_) rfl
    exact v_return dX11_storeAll_39 rfl rfl
  · refine v_ite (fun h5 => ?_) (fun h5 => ?_)
    · refine v_tabIn (off := 39) (tgt := 40) dX11_storeAll_1 h5 (by decide) ?_
      refine v_aload_n dX11_storeAll_40 rfl ?_
      refine v_aload_n dX11_storeAll_41 rfl ?_
      refine v_if (fun h6 => ?_)
      refine v_get (v := pA (M.1 a0 7)) 10 7 rfl inX11 (by decide) tw1200 dX11_storeAll_42 h6 rfl ?_
      refine v_iconst dX11_storeAll_45 (by decide) ?_
      refine v_iload_n dX11_storeAll_46 rfl ?_
      refine v_cV (mi := mX11_storeAll) (c0 := 0) (c1 := 0) (As := [pA (M.1 a0 7), pI 3, pI a2]) (st := []) (kX11_store d (by omega) _ _ _ _ _) rfl h6 rfl okX11_store (Or.inl tw1488) tw1490 tp53 rfl (Nat.le_of_ble_eq_true rfl) dX11_storeAll_47 (fun r7 => []) (fun r7 => r7) (fun _ => rfl) (fun _ => rfl) (fun r7 h8 => ?_) rfl
      exact v_return dX11_storeAll_50 rfl rfl
    · refine v_ite (fun h9 => ?_) (fun h9 => ?_)
      · refine v_tabIn (off := 50) (tgt := 51) dX11_storeAll_1 h9 (by decide) ?_
        refine v_aload_n dX11_storeAll_51 rfl ?_
        refine v_aload_n dX11_storeAll_52 rfl ?_
        refine v_if (fun h10 => ?_)
        refine v_get (v := pA (M.1 a0 8)) 10 8 rfl inX11 (by decide) tw1201 dX11_storeAll_53 h10 rfl ?_
        refine v_sipush dX11_storeAll_56 (by decide) ?_
        refine v_iload_n dX11_storeAll_59 rfl ?_
        refine v_cV (mi := mX11_storeAll) (c0 := 0) (c1 := 0) (As := [pA (M.1 a0 8), pI 161, pI a2]) (st := []) (kX11_store d (by omega) _ _ _ _ _) rfl h10 rfl okX11_store (Or.inl tw1488) tw1490 tp53 rfl (Nat.le_of_ble_eq_true rfl) dX11_storeAll_60 (fun r11 => []) (fun r11 => r11) (fun _ => rfl) (fun _ => rfl) (fun r11 h12 => ?_) rfl
        exact v_return dX11_storeAll_63 rfl rfl
      · refine v_tabOut (tgt := 64) dX11_storeAll_1 (by omega) (by decide) ?_
        refine v_aload_n dX11_storeAll_64 rfl ?_
        refine v_aload_n dX11_storeAll_65 rfl ?_
        refine v_if (fun h13 => ?_)
        refine v_get (v := pA (M.1 a0 9)) 10 9 rfl inX11 (by decide) tw1202 dX11_storeAll_66 h13 rfl ?_
        refine v_bipush dX11_storeAll_69 (by decide) ?_
        refine v_iload_n dX11_storeAll_71 rfl ?_
        refine v_cV (mi := mX11_storeAll) (c0 := 0) (c1 := 0) (As := [pA (M.1 a0 9), pI 47, pI a2]) (st := []) (kX11_store d (by omega) _ _ _ _ _) rfl h13 rfl okX11_store (Or.inl tw1488) tw1490 tp53 rfl (Nat.le_of_ble_eq_true rfl) dX11_storeAll_72 (fun r14 => []) (fun r14 => r14) (fun _ => rfl) (fun _ => rfl) (fun r14 h15 => ?_) rfl
        exact v_return dX11_storeAll_75 rfl rfl
theorem dX11_text_0 : decode cX11_text 0 = .ok (.aload_n 0, 1) := by decide +kernel
theorem dX11_text_1 : decode cX11_text 1 = .ok (.iconst 0, 1) := by decide +kernel
theorem dX11_text_2 : decode cX11_text 2 = .ok (.putfield 90, 3) := by decide +kernel
theorem dX11_text_5 : decode cX11_text 5 = .ok (.aload_n 0, 1) := by decide +kernel
theorem dX11_text_6 : decode cX11_text 6 = .ok (.aload_n 0, 1) := by decide +kernel
theorem dX11_text_7 : decode cX11_text 7 = .ok (.getfield 13, 3) := by decide +kernel
theorem dX11_text_10 : decode cX11_text 10 = .ok (.iconst 0, 1) := by decide +kernel
theorem dX11_text_11 : decode cX11_text 11 = .ok (.iaload, 1) := by decide +kernel
theorem dX11_text_12 : decode cX11_text 12 = .ok (.putfield 109, 3) := by decide +kernel
theorem dX11_text_15 : decode cX11_text 15 = .ok (.aload_n 0, 1) := by decide +kernel
theorem dX11_text_16 : decode cX11_text 16 = .ok (.getfield 13, 3) := by decide +kernel
theorem dX11_text_19 : decode cX11_text 19 = .ok (.iconst 0, 1) := by decide +kernel
theorem dX11_text_20 : decode cX11_text 20 = .ok (.iconst 0, 1) := by decide +kernel
theorem dX11_text_21 : decode cX11_text 21 = .ok (.iastore, 1) := by decide +kernel
theorem dX11_text_22 : decode cX11_text 22 = .ok (.aload_n 0, 1) := by decide +kernel
theorem dX11_text_23 : decode cX11_text 23 = .ok (.getfield 17, 3) := by decide +kernel
theorem dX11_text_26 : decode cX11_text 26 = .ok (.iconst 0, 1) := by decide +kernel
theorem dX11_text_27 : decode cX11_text 27 = .ok (.iconst 0, 1) := by decide +kernel
theorem dX11_text_28 : decode cX11_text 28 = .ok (.iastore, 1) := by decide +kernel
theorem dX11_text_29 : decode cX11_text 29 = .ok (.aload_n 0, 1) := by decide +kernel
theorem dX11_text_30 : decode cX11_text 30 = .ok (.getfield 20, 3) := by decide +kernel
theorem dX11_text_33 : decode cX11_text 33 = .ok (.iconst 0, 1) := by decide +kernel
theorem dX11_text_34 : decode cX11_text 34 = .ok (.iconst (-1), 1) := by decide +kernel
theorem dX11_text_35 : decode cX11_text 35 = .ok (.iastore, 1) := by decide +kernel
theorem dX11_text_36 : decode cX11_text 36 = .ok (.iload_n 1, 1) := by decide +kernel
theorem dX11_text_37 : decode cX11_text 37 = .ok (.iconst 0, 1) := by decide +kernel
theorem dX11_text_38 : decode cX11_text 38 = .ok (.iconst 3, 1) := by decide +kernel
theorem dX11_text_39 : decode cX11_text 39 = .ok (.invokestatic 98, 3) := by decide +kernel
theorem dX11_text_42 : decode cX11_text 42 = .ok (.ifCond .eq 30, 3) := by decide +kernel
theorem dX11_text_45 : decode cX11_text 45 = .ok (.iload_n 2, 1) := by decide +kernel
theorem dX11_text_46 : decode cX11_text 46 = .ok (.iconst (-1), 1) := by decide +kernel
theorem dX11_text_47 : decode cX11_text 47 = .ok (.if_icmp .ne 16, 3) := by decide +kernel
theorem dX11_text_50 : decode cX11_text 50 = .ok (.aload_n 0, 1) := by decide +kernel
theorem dX11_text_51 : decode cX11_text 51 = .ok (.getfield 23, 3) := by decide +kernel
theorem dX11_text_54 : decode cX11_text 54 = .ok (.iload_n 1, 1) := by decide +kernel
theorem dX11_text_55 : decode cX11_text 55 = .ok (.iaload, 1) := by decide +kernel
theorem dX11_text_56 : decode cX11_text 56 = .ok (.iconst 2, 1) := by decide +kernel
theorem dX11_text_57 : decode cX11_text 57 = .ok (.if_icmp .ne 18, 3) := by decide +kernel
theorem dX11_text_60 : decode cX11_text 60 = .ok (.goto 12, 3) := by decide +kernel
theorem dX11_text_63 : decode cX11_text 63 = .ok (.aload_n 0, 1) := by decide +kernel
theorem dX11_text_64 : decode cX11_text 64 = .ok (.iload_n 1, 1) := by decide +kernel
theorem dX11_text_65 : decode cX11_text 65 = .ok (.iload_n 2, 1) := by decide +kernel
theorem dX11_text_66 : decode cX11_text 66 = .ok (.invokevirtual 264, 3) := by decide +kernel
theorem dX11_text_69 : decode cX11_text 69 = .ok (.ifCond .ne 6, 3) := by decide +kernel
theorem dX11_text_72 : decode cX11_text 72 = .ok (.bipush (-2), 2) := by decide +kernel
theorem dX11_text_74 : decode cX11_text 74 = .ok (.ireturn, 1) := by decide +kernel
theorem dX11_text_75 : decode cX11_text 75 = .ok (.aload_n 0, 1) := by decide +kernel
theorem dX11_text_76 : decode cX11_text 76 = .ok (.iload_n 1, 1) := by decide +kernel
theorem dX11_text_77 : decode cX11_text 77 = .ok (.invokevirtual 268, 3) := by decide +kernel
theorem dX11_text_80 : decode cX11_text 80 = .ok (.ifCond .ne 5, 3) := by decide +kernel
theorem dX11_text_83 : decode cX11_text 83 = .ok (.iconst (-1), 1) := by decide +kernel
theorem dX11_text_84 : decode cX11_text 84 = .ok (.ireturn, 1) := by decide +kernel
theorem dX11_text_85 : decode cX11_text 85 = .ok (.iload_n 2, 1) := by decide +kernel
theorem dX11_text_86 : decode cX11_text 86 = .ok (.iconst (-1), 1) := by decide +kernel
theorem dX11_text_87 : decode cX11_text 87 = .ok (.if_icmp .ne 12, 3) := by decide +kernel
theorem dX11_text_90 : decode cX11_text 90 = .ok (.aload_n 0, 1) := by decide +kernel
theorem dX11_text_91 : decode cX11_text 91 = .ok (.getfield 23, 3) := by decide +kernel
theorem dX11_text_94 : decode cX11_text 94 = .ok (.iload_n 1, 1) := by decide +kernel
theorem dX11_text_95 : decode cX11_text 95 = .ok (.iaload, 1) := by decide +kernel
theorem dX11_text_96 : decode cX11_text 96 = .ok (.goto 4, 3) := by decide +kernel
theorem dX11_text_99 : decode cX11_text 99 = .ok (.iload_n 2, 1) := by decide +kernel
theorem dX11_text_100 : decode cX11_text 100 = .ok (.istore_n 3, 1) := by decide +kernel
theorem dX11_text_101 : decode cX11_text 101 = .ok (.aload_n 0, 1) := by decide +kernel
theorem dX11_text_102 : decode cX11_text 102 = .ok (.getfield 23, 3) := by decide +kernel
theorem dX11_text_105 : decode cX11_text 105 = .ok (.iload_n 1, 1) := by decide +kernel
theorem dX11_text_106 : decode cX11_text 106 = .ok (.dup2, 1) := by decide +kernel
theorem dX11_text_107 : decode cX11_text 107 = .ok (.iaload, 1) := by decide +kernel
theorem dX11_text_108 : decode cX11_text 108 = .ok (.iload_n 2, 1) := by decide +kernel
theorem dX11_text_109 : decode cX11_text 109 = .ok (.iconst (-1), 1) := by decide +kernel
theorem dX11_text_110 : decode cX11_text 110 = .ok (.if_icmp .ne 7, 3) := by decide +kernel
theorem dX11_text_113 : decode cX11_text 113 = .ok (.iconst 1, 1) := by decide +kernel
theorem dX11_text_114 : decode cX11_text 114 = .ok (.goto 4, 3) := by decide +kernel
theorem dX11_text_117 : decode cX11_text 117 = .ok (.iconst 0, 1) := by decide +kernel
theorem dX11_text_118 : decode cX11_text 118 = .ok (.iadd, 1) := by decide +kernel
theorem dX11_text_119 : decode cX11_text 119 = .ok (.iastore, 1) := by decide +kernel
theorem dX11_text_120 : decode cX11_text 120 = .ok (.aload_n 0, 1) := by decide +kernel
theorem dX11_text_121 : decode cX11_text 121 = .ok (.iload_n 1, 1) := by decide +kernel
theorem dX11_text_122 : decode cX11_text 122 = .ok (.iload_n 3, 1) := by decide +kernel
theorem dX11_text_123 : decode cX11_text 123 = .ok (.invokevirtual 271, 3) := by decide +kernel
theorem dX11_text_126 : decode cX11_text 126 = .ok (.iload_n 3, 1) := by decide +kernel
theorem dX11_text_127 : decode cX11_text 127 = .ok (.ireturn, 1) := by decide +kernel
abbrev mX11_text : MI := (yX11_text, cX11_text, 4, (some .int), noE)
theorem okX11_text : cok mX11_text 2 := ⟨tw1366, tw11, by decide, by decide, by decide, by decide +kernel⟩
def fX11_text (M : Mem) (a0 a1 a2 : Int) : Option (Int × Mem) :=
  if M.2.1 a0 = 10 then bM (mst M a0 0 0) fun M2 => if M2.2.1 (M2.1 a0 2) = 12 ∧ (0 : Int) ≤ 0 ∧ 0 < M2.2.2.1 (M2.1 a0 2) then bM (mst M2 a0 11 (M2.1 (M2.1 a0 2) 0)) fun M5 => if M5.2.1 (M5.1 a0 2) = 12 ∧ (0 : Int) ≤ 0 ∧ 0 < M5.2.2.1 (M5.1 a0 2) then bM (mst M5 (M5.1 a0 2) 0 0) fun M8 => if M8.2.1 (M8.1 a0 3) = 12 ∧ (0 : Int) ≤ 0 ∧ 0 < M8.2.2.1 (M8.1 a0 3) then bM (mst M8 (M8.1 a0 3) 0 0) fun M11 => if M11.2.1 (M11.1 a0 4) = 12 ∧ (0 : Int) ≤ 0 ∧ 0 < M11.2.2.1 (M11.1 a0 4) then bM (mst M11 (M11.1 a0 4) 0 (-1)) fun M14 => (fX11_in M14 a1 0 3).bind fun r16 => if r16 = 0 then (some ((-2), M14)) else (jn (fun (t20 : Unit) => (fX11_readText M14 a0 a1).bind fun r21 => if r21.1 = 0 then (some ((-1), r21.2)) else (jn (fun (t25 : Int) => if r21.2.2.1 a0 = 10 then if r21.2.2.1 (r21.2.1 a0 5) = 12 ∧ (0 : Int) ≤ a1 ∧ a1 < r21.2.2.2.1 (r21.2.1 a0 5) then jn (fun (t29 : Int) => if r21.2.2.1 (r21.2.1 a0 5) = 12 ∧ (0 : Int) ≤ a1 ∧ a1 < r21.2.2.2.1 (r21.2.1 a0 5) then bM (mst r21.2 (r21.2.1 a0 5) a1 (w32 ((r21.2.1 (r21.2.1 a0 5) a1) + t29))) fun M31 => (fX11_storeAll M31 a0 a1 t25).bind fun r33 => some (t25, r33) else none) (fun (j28 : Int → Option (Int × Mem)) => if a2 = (-1) then (j28 1) else (j28 0)) else none else none) (fun (j24 : Int → Option (Int × Mem)) => if a2 = (-1) then (if r21.2.2.1 a0 = 10 then if r21.2.2.1 (r21.2.1 a0 5) = 12 ∧ (0 : Int) ≤ a1 ∧ a1 < r21.2.2.2.1 (r21.2.1 a0 5) then j24 (r21.2.1 (r21.2.1 a0 5) a1) else none else none) else (j24 a2)))) (fun (j19 : Unit → Option (Int × Mem)) => if a2 = (-1) then (if M14.2.1 (M14.1 a0 5) = 12 ∧ (0 : Int) ≤ a1 ∧ a1 < M14.2.2.1 (M14.1 a0 5) then if M14.1 (M14.1 a0 5) a1 = 2 then (some ((-2), M14)) else (j19 ()) else none) else ((fX11_is M14 a0 a1 a2).bind fun r42 => if r42 = 0 then (some ((-2), M14)) else (j19 ())))) else none else none else none else none else none
set_option maxRecDepth 100000 in
set_option maxHeartbeats 4000000 in
theorem kX11_text (d : Nat) (hd : 10 ≤ d) (M : Mem) (a0 a1 a2 : Int) : Ct mX11_text d 0 0 [pA a0, pI a1, pI a2] M dIM (fX11_text M a0 a1 a2) := by
  obtain ⟨d, rfl⟩ : ∃ k, d = k + 1 := ⟨d - 1, by omega⟩
  refine Ct.of 1 (fun _ _ _ => trivial) (by decide +kernel) rfl ?_
  unfold fX11_text
  refine v_aload_n dX11_text_0 rfl ?_
  refine v_iconst dX11_text_1 (by decide) ?_
  refine v_if (fun h1 => ?_)
  refine v_put (x := 0) 10 0 rfl inX11 (by decide) tw1193 (Or.inl rfl) rfl dX11_text_2 h1 rfl id ?_
  refine v_bM (fun M2 e3 => ?_)
  refine v_aload_n dX11_text_5 rfl ?_
  refine v_aload_n dX11_text_6 rfl ?_
  refine v_get (v := pA (M2.1 a0 2)) 10 2 rfl inX11 (by decide) tw1195 dX11_text_7 (by rw [e3]; exact h1) rfl ?_
  refine v_iconst dX11_text_10 (by decide) ?_
  refine v_if (fun h4 => ?_)
  refine v_iaload h4 dX11_text_11 ?_
  refine v_put (x := M2.1 (M2.1 a0 2) 0) 10 11 rfl inX11 (by decide) tw1204 (Or.inl rfl) rfl dX11_text_12 (by rw [e3]; exact h1) rfl id ?_
  refine v_bM (fun M5 e6 => ?_)
  refine v_aload_n dX11_text_15 rfl ?_
  refine v_get (v := pA (M5.1 a0 2)) 10 2 rfl inX11 (by decide) tw1195 dX11_text_16 (by rw [e6, e3]; exact h1) rfl ?_
  refine v_iconst dX11_text_19 (by decide) ?_
  refine v_iconst dX11_text_20 (by decide) ?_
  refine v_if (fun h7 => ?_)
  refine v_iastore h7 dX11_text_21 ?_
  refine v_bM (fun M8 e9 => ?_)
  refine v_aload_n dX11_text_22 rfl ?_
  refine v_get (v := pA (M8.1 a0 3)) 10 3 rfl inX11 (by decide) tw1196 dX11_text_23 (by rw [e9, e6, e3]; exact h1) rfl ?_
  refine v_iconst dX11_text_26 (by decide) ?_
  refine v_iconst dX11_text_27 (by decide) ?_
  refine v_if (fun h10 => ?_)
  refine v_iastore h10 dX11_text_28 ?_
  refine v_bM (fun M11 e12 => ?_)
  refine v_aload_n dX11_text_29 rfl ?_
  refine v_get (v := pA (M11.1 a0 4)) 10 4 rfl inX11 (by decide) tw1197 dX11_text_30 (by rw [e12, e9, e6, e3]; exact h1) rfl ?_
  refine v_iconst dX11_text_33 (by decide) ?_
  refine v_iconst dX11_text_34 (by decide) ?_
  refine v_if (fun h13 => ?_)
  refine v_iastore h13 dX11_text_35 ?_
  refine v_bM (fun M14 e15 => ?_)
  refine v_iload_n dX11_text_36 rfl ?_
  refine v_iconst dX11_text_37 (by decide) ?_
  refine v_iconst dX11_text_38 (by decide) ?_
  refine v_cS (mi := mX11_text) (c0 := 0) (c1 := 0) (As := [pI a1, pI 0, pI 3]) (st := []) (kX11_in d (by omega) _ _ _ _) okX11_in (Or.inl tw1360) tw1361 rfl (Nat.le_of_ble_eq_true rfl) dX11_text_39 (fun r16 => [pI r16]) (fun r16 => M14) (fun _ => rfl) (fun _ => rfl) (fun r16 h17 => ?_) rfl
  refine v_if_eq (tgt := 72) dX11_text_42 (by decide) (fun c18 => ?_) (fun c18 => ?_)
  · refine v_bipush dX11_text_72 (by decide) ?_
    exact v_ireturn dX11_text_74 rfl rfl
  · refine v_iload_n dX11_text_45 rfl ?_
    refine v_iconst dX11_text_46 (by decide) ?_
    refine v_join (fun (t20 : Unit) => [some (pA a0), some (pI a1), some (pI a2), none]) (fun (t20 : Unit) => []) (fun (t20 : Unit) => M14) 75 (fun t20 => ?_) (fun j19 hj19 => ?_)
    · refine v_aload_n dX11_text_75 rfl ?_
      refine v_iload_n dX11_text_76 rfl ?_
      refine v_cV (mi := mX11_text) (c0 := 0) (c1 := 0) (As := [pI a1]) (st := []) (kX11_readText d (by omega) _ _ _) rfl (by rw [e15, e12, e9, e6, e3]; exact h1) rfl okX11_readText (Or.inl tw1371) tw1373 tp29 rfl (Nat.le_of_ble_eq_true rfl) dX11_text_77 (fun r21 => [pI r21.1]) (fun r21 => r21.2) (fun _ => rfl) (fun _ => rfl) (fun r21 h22 => ?_) rfl
      refine v_if_ne (tgt := 85) dX11_text_80 (by decide) (fun c23 => ?_) (fun c23 => ?_)
      · refine v_iconst dX11_text_83 (by decide) ?_
        exact v_ireturn dX11_text_84 rfl rfl
      · refine v_iload_n dX11_text_85 rfl ?_
        refine v_iconst dX11_text_86 (by decide) ?_
        refine v_join (fun (t25 : Int) => [some (pA a0), some (pI a1), some (pI a2), none]) (fun (t25 : Int) => [pI t25]) (fun (t25 : Int) => r21.2) 100 (fun t25 => ?_) (fun j24 hj24 => ?_)
        · refine v_istore_n (ls' := [some (pA a0), some (pI a1), some (pI a2), some (pI t25)]) dX11_text_100 (by decide) rfl ?_
          refine v_aload_n dX11_text_101 rfl ?_
          refine v_if (fun h26 => ?_)
          refine v_get (v := pA (r21.2.1 a0 5)) 10 5 rfl inX11 (by decide) tw1198 dX11_text_102 h26 rfl ?_
          refine v_iload_n dX11_text_105 rfl ?_
          refine v_dup2 dX11_text_106 (by intro z hz; cases hz) (by intro z hz; cases hz) ?_
          refine v_if (fun h27 => ?_)
          refine v_iaload h27 dX11_text_107 ?_
          refine v_iload_n dX11_text_108 rfl ?_
          refine v_iconst dX11_text_109 (by decide) ?_
          refine v_join (fun (t29 : Int) => [some (pA a0), some (pI a1), none, some (pI t25)]) (fun (t29 : Int) => [pI t29, pI (r21.2.1 (r21.2.1 a0 5) a1), pI a1, pA (r21.2.1 a0 5)]) (fun (t29 : Int) => r21.2) 118 (fun t29 => ?_) (fun j28 hj28 => ?_)
          · refine v_iadd dX11_text_118 ?_
            refine v_if (fun h30 => ?_)
            refine v_iastore h30 dX11_text_119 ?_
            refine v_bM (fun M31 e32 => ?_)
            refine v_aload_n dX11_text_120 rfl ?_
            refine v_iload_n dX11_text_121 rfl ?_
            refine v_iload_n dX11_text_122 rfl ?_
            refine v_cV (mi := mX11_text) (c0 := 0) (c1 := 0) (As := [pI a1, pI t25]) (st := []) (kX11_storeAll d (by omega) _ _ _ _) rfl (by rw [e32]; exact h26) rfl okX11_storeAll (Or.inl tw1484) tw1486 tp52 rfl (Nat.le_of_ble_eq_true rfl) dX11_text_123 (fun r33 => []) (fun r33 => r33) (fun _ => rfl) (fun _ => rfl) (fun r33 h34 => ?_) rfl
            refine v_iload_n dX11_text_126 rfl ?_
            exact v_ireturn dX11_text_127 rfl rfl
          · refine v_icmp_ne (tgt := 117) dX11_text_110 (by decide) (fun c35 => ?_) (fun c35 => ?_)
            · refine v_iconst dX11_text_113 (by decide) ?_
              refine v_goto (tgt := 118) dX11_text_114 (by decide) ?_
              exact v_drop [some (pA a0), some (pI a1), none, some (pI t25)] (ls_s (ls_s (ls_n (ls_s ls_e)))) (hj28 1)
            · refine v_iconst dX11_text_117 (by decide) ?_
              exact v_drop [some (pA a0), some (pI a1), none, some (pI t25)] (ls_s (ls_s (ls_n (ls_s ls_e)))) (hj28 0)
        · refine v_icmp_ne (tgt := 99) dX11_text_87 (by decide) (fun c36 => ?_) (fun c36 => ?_)
          · refine v_aload_n dX11_text_90 rfl ?_
            refine v_if (fun h37 => ?_)
            refine v_get (v := pA (r21.2.1 a0 5)) 10 5 rfl inX11 (by decide) tw1198 dX11_text_91 h37 rfl ?_
            refine v_iload_n dX11_text_94 rfl ?_
            refine v_if (fun h38 => ?_)
            refine v_iaload h38 dX11_text_95 ?_
            refine v_goto (tgt := 100) dX11_text_96 (by decide) ?_
            exact hj24 (r21.2.1 (r21.2.1 a0 5) a1)
          · refine v_iload_n dX11_text_99 rfl ?_
            exact hj24 a2
    · refine v_icmp_ne (tgt := 63) dX11_text_47 (by decide) (fun c39 => ?_) (fun c39 => ?_)
      · refine v_aload_n dX11_text_50 rfl ?_
        refine v_get (v := pA (M14.1 a0 5)) 10 5 rfl inX11 (by decide) tw1198 dX11_text_51 (by rw [e15, e12, e9, e6, e3]; exact h1) rfl ?_
        refine v_iload_n dX11_text_54 rfl ?_
        refine v_if (fun h40 => ?_)
        refine v_iaload h40 dX11_text_55 ?_
        refine v_iconst dX11_text_56 (by decide) ?_
        refine v_icmp_ne (tgt := 75) dX11_text_57 (by decide) (fun c41 => ?_) (fun c41 => ?_)
        · refine v_goto (tgt := 72) dX11_text_60 (by decide) ?_
          refine v_bipush dX11_text_72 (by decide) ?_
          exact v_ireturn dX11_text_74 rfl rfl
        · exact hj19 ()
      · refine v_aload_n dX11_text_63 rfl ?_
        refine v_iload_n dX11_text_64 rfl ?_
        refine v_iload_n dX11_text_65 rfl ?_
        refine v_cV (mi := mX11_text) (c0 := 0) (c1 := 0) (As := [pI a1, pI a2]) (st := []) (kX11_is d (by omega) _ _ _ _) rfl (by rw [e15, e12, e9, e6, e3]; exact h1) rfl okX11_is (Or.inl tw1367) tw1369 tp28 rfl (Nat.le_of_ble_eq_true rfl) dX11_text_66 (fun r42 => [pI r42]) (fun r42 => M14) (fun _ => rfl) (fun _ => rfl) (fun r42 h43 => ?_) rfl
        refine v_if_ne (tgt := 75) dX11_text_69 (by decide) (fun c44 => ?_) (fun c44 => ?_)
        · refine v_bipush dX11_text_72 (by decide) ?_
          exact v_ireturn dX11_text_74 rfl rfl
        · exact hj19 ()
theorem dX11_fault_0 : decode cX11_fault 0 = .ok (.aload_n 0, 1) := by decide +kernel
theorem dX11_fault_1 : decode cX11_fault 1 = .ok (.iconst 0, 1) := by decide +kernel
theorem dX11_fault_2 : decode cX11_fault 2 = .ok (.putfield 90, 3) := by decide +kernel
theorem dX11_fault_5 : decode cX11_fault 5 = .ok (.iload_n 1, 1) := by decide +kernel
theorem dX11_fault_6 : decode cX11_fault 6 = .ok (.ifCond .ne 12, 3) := by decide +kernel
theorem dX11_fault_9 : decode cX11_fault 9 = .ok (.aload_n 0, 1) := by decide +kernel
theorem dX11_fault_10 : decode cX11_fault 10 = .ok (.getfield 17, 3) := by decide +kernel
theorem dX11_fault_13 : decode cX11_fault 13 = .ok (.iconst 0, 1) := by decide +kernel
theorem dX11_fault_14 : decode cX11_fault 14 = .ok (.iaload, 1) := by decide +kernel
theorem dX11_fault_15 : decode cX11_fault 15 = .ok (.goto 18, 3) := by decide +kernel
theorem dX11_fault_18 : decode cX11_fault 18 = .ok (.iload_n 1, 1) := by decide +kernel
theorem dX11_fault_19 : decode cX11_fault 19 = .ok (.iconst 1, 1) := by decide +kernel
theorem dX11_fault_20 : decode cX11_fault 20 = .ok (.if_icmp .ne 12, 3) := by decide +kernel
theorem dX11_fault_23 : decode cX11_fault 23 = .ok (.aload_n 0, 1) := by decide +kernel
theorem dX11_fault_24 : decode cX11_fault 24 = .ok (.getfield 20, 3) := by decide +kernel
theorem dX11_fault_27 : decode cX11_fault 27 = .ok (.iconst 0, 1) := by decide +kernel
theorem dX11_fault_28 : decode cX11_fault 28 = .ok (.iaload, 1) := by decide +kernel
theorem dX11_fault_29 : decode cX11_fault 29 = .ok (.goto 4, 3) := by decide +kernel
theorem dX11_fault_32 : decode cX11_fault 32 = .ok (.iconst (-1), 1) := by decide +kernel
theorem dX11_fault_33 : decode cX11_fault 33 = .ok (.ireturn, 1) := by decide +kernel
abbrev mX11_fault : MI := (yX11_fault, cX11_fault, 2, (some .int), noE)
theorem okX11_fault : cok mX11_fault 1 := ⟨tw1495, tw11, by decide, by decide, by decide, by decide +kernel⟩
def fX11_fault (M : Mem) (a0 a1 : Int) : Option (Int × Mem) :=
  if M.2.1 a0 = 10 then bM (mst M a0 0 0) fun M2 => if a1 = 0 then (if M2.2.1 (M2.1 a0 3) = 12 ∧ (0 : Int) ≤ 0 ∧ 0 < M2.2.2.1 (M2.1 a0 3) then some (M2.1 (M2.1 a0 3) 0, M2) else none) else (if a1 = 1 then (if M2.2.1 (M2.1 a0 4) = 12 ∧ (0 : Int) ≤ 0 ∧ 0 < M2.2.2.1 (M2.1 a0 4) then some (M2.1 (M2.1 a0 4) 0, M2) else none) else (some ((-1), M2))) else none
set_option maxRecDepth 100000 in
set_option maxHeartbeats 4000000 in
theorem kX11_fault (d : Nat) (hd : 0 ≤ d) (M : Mem) (a0 a1 : Int) : Ct mX11_fault d 0 0 [pA a0, pI a1] M dIM (fX11_fault M a0 a1) := by
  refine Ct.of 0 (fun _ _ _ => trivial) (by decide +kernel) rfl ?_
  unfold fX11_fault
  refine v_aload_n dX11_fault_0 rfl ?_
  refine v_iconst dX11_fault_1 (by decide) ?_
  refine v_if (fun h1 => ?_)
  refine v_put (x := 0) 10 0 rfl inX11 (by decide) tw1193 (Or.inl rfl) rfl dX11_fault_2 h1 rfl id ?_
  refine v_bM (fun M2 e3 => ?_)
  refine v_iload_n dX11_fault_5 rfl ?_
  refine v_if_ne (tgt := 18) dX11_fault_6 (by decide) (fun c4 => ?_) (fun c4 => ?_)
  · refine v_aload_n dX11_fault_9 rfl ?_
    refine v_get (v := pA (M2.1 a0 3)) 10 3 rfl inX11 (by decide) tw1196 dX11_fault_10 (by rw [e3]; exact h1) rfl ?_
    refine v_iconst dX11_fault_13 (by decide) ?_
    refine v_if (fun h5 => ?_)
    refine v_iaload h5 dX11_fault_14 ?_
    refine v_goto (tgt := 33) dX11_fault_15 (by decide) ?_
    exact v_ireturn dX11_fault_33 rfl rfl
  · refine v_iload_n dX11_fault_18 rfl ?_
    refine v_iconst dX11_fault_19 (by decide) ?_
    refine v_icmp_ne (tgt := 32) dX11_fault_20 (by decide) (fun c6 => ?_) (fun c6 => ?_)
    · refine v_aload_n dX11_fault_23 rfl ?_
      refine v_get (v := pA (M2.1 a0 4)) 10 4 rfl inX11 (by decide) tw1197 dX11_fault_24 (by rw [e3]; exact h1) rfl ?_
      refine v_iconst dX11_fault_27 (by decide) ?_
      refine v_if (fun h7 => ?_)
      refine v_iaload h7 dX11_fault_28 ?_
      refine v_goto (tgt := 33) dX11_fault_29 (by decide) ?_
      exact v_ireturn dX11_fault_33 rfl rfl
    · refine v_iconst dX11_fault_32 (by decide) ?_
      exact v_ireturn dX11_fault_33 rfl rfl
theorem dX11_of_0 : decode cX11_of 0 = .ok (.aload_n 0, 1) := by decide +kernel
theorem dX11_of_1 : decode cX11_of 1 = .ok (.getfield 26, 3) := by decide +kernel
theorem dX11_of_4 : decode cX11_of 4 = .ok (.bipush 92, 2) := by decide +kernel
theorem dX11_of_6 : decode cX11_of 6 = .ok (.aload_n 0, 1) := by decide +kernel
theorem dX11_of_7 : decode cX11_of 7 = .ok (.getfield 274, 3) := by decide +kernel
theorem dX11_of_10 : decode cX11_of 10 = .ok (.imul, 1) := by decide +kernel
theorem dX11_of_11 : decode cX11_of 11 = .ok (.iload_n 1, 1) := by decide +kernel
theorem dX11_of_12 : decode cX11_of 12 = .ok (.iadd, 1) := by decide +kernel
theorem dX11_of_13 : decode cX11_of 13 = .ok (.iaload, 1) := by decide +kernel
theorem dX11_of_14 : decode cX11_of 14 = .ok (.ireturn, 1) := by decide +kernel
abbrev mX11_of : MI := (yX11_of, cX11_of, 2, (some .int), noE)
theorem okX11_of : cok mX11_of 1 := ⟨tw1507, tw11, by decide, by decide, by decide, by decide +kernel⟩
def fX11_of (M : Mem) (a0 a1 : Int) : Option Int :=
  if M.2.1 a0 = 10 then if M.2.1 (M.1 a0 6) = 12 ∧ (0 : Int) ≤ (w32 ((w32 (92 * (M.1 a0 24))) + a1)) ∧ (w32 ((w32 (92 * (M.1 a0 24))) + a1)) < M.2.2.1 (M.1 a0 6) then some (M.1 (M.1 a0 6) (w32 ((w32 (92 * (M.1 a0 24))) + a1))) else none else none
set_option maxRecDepth 100000 in
set_option maxHeartbeats 4000000 in
theorem kX11_of (d : Nat) (hd : 0 ≤ d) (M : Mem) (a0 a1 : Int) : Ct mX11_of d 0 0 [pA a0, pI a1] M (dI M) (fX11_of M a0 a1) := by
  refine Ct.of 0 (fun _ _ _ => trivial) (by decide +kernel) rfl ?_
  unfold fX11_of
  refine v_aload_n dX11_of_0 rfl ?_
  refine v_if (fun h1 => ?_)
  refine v_get (v := pA (M.1 a0 6)) 10 6 rfl inX11 (by decide) tw1199 dX11_of_1 h1 rfl ?_
  refine v_bipush dX11_of_4 (by decide) ?_
  refine v_aload_n dX11_of_6 rfl ?_
  refine v_get (v := pI (M.1 a0 24)) 10 24 rfl inX11 (by decide) tw1217 dX11_of_7 h1 rfl ?_
  refine v_imul dX11_of_10 ?_
  refine v_iload_n dX11_of_11 rfl ?_
  refine v_iadd dX11_of_12 ?_
  refine v_if (fun h2 => ?_)
  refine v_iaload h2 dX11_of_13 ?_
  exact v_ireturn dX11_of_14 rfl rfl
theorem dX11_hand_0 : decode cX11_hand 0 = .ok (.aload_n 0, 1) := by decide +kernel
theorem dX11_hand_1 : decode cX11_hand 1 = .ok (.iconst 0, 1) := by decide +kernel
theorem dX11_hand_2 : decode cX11_hand 2 = .ok (.iload_n 1, 1) := by decide +kernel
theorem dX11_hand_3 : decode cX11_hand 3 = .ok (.invokevirtual 264, 3) := by decide +kernel
theorem dX11_hand_6 : decode cX11_hand 6 = .ok (.ifCond .ne 5, 3) := by decide +kernel
theorem dX11_hand_9 : decode cX11_hand 9 = .ok (.iconst 0, 1) := by decide +kernel
theorem dX11_hand_10 : decode cX11_hand 10 = .ok (.ireturn, 1) := by decide +kernel
theorem dX11_hand_11 : decode cX11_hand 11 = .ok (.aload_n 0, 1) := by decide +kernel
theorem dX11_hand_12 : decode cX11_hand 12 = .ok (.iload_n 1, 1) := by decide +kernel
theorem dX11_hand_13 : decode cX11_hand 13 = .ok (.putfield 274, 3) := by decide +kernel
theorem dX11_hand_16 : decode cX11_hand 16 = .ok (.aload_n 0, 1) := by decide +kernel
theorem dX11_hand_17 : decode cX11_hand 17 = .ok (.aload_n 0, 1) := by decide +kernel
theorem dX11_hand_18 : decode cX11_hand 18 = .ok (.iconst 0, 1) := by decide +kernel
theorem dX11_hand_19 : decode cX11_hand 19 = .ok (.invokevirtual 277, 3) := by decide +kernel
theorem dX11_hand_22 : decode cX11_hand 22 = .ok (.putfield 281, 3) := by decide +kernel
theorem dX11_hand_25 : decode cX11_hand 25 = .ok (.aload_n 0, 1) := by decide +kernel
theorem dX11_hand_26 : decode cX11_hand 26 = .ok (.aload_n 0, 1) := by decide +kernel
theorem dX11_hand_27 : decode cX11_hand 27 = .ok (.iconst 1, 1) := by decide +kernel
theorem dX11_hand_28 : decode cX11_hand 28 = .ok (.invokevirtual 277, 3) := by decide +kernel
theorem dX11_hand_31 : decode cX11_hand 31 = .ok (.putfield 284, 3) := by decide +kernel
theorem dX11_hand_34 : decode cX11_hand 34 = .ok (.iconst 1, 1) := by decide +kernel
theorem dX11_hand_35 : decode cX11_hand 35 = .ok (.ireturn, 1) := by decide +kernel
abbrev mX11_hand : MI := (yX11_hand, cX11_hand, 2, (some .boolean), noE)
theorem okX11_hand : cok mX11_hand 1 := ⟨tw1503, tw11, by decide, by decide, by decide, by decide +kernel⟩
def fX11_hand (M : Mem) (a0 a1 : Int) : Option (Int × Mem) :=
  if M.2.1 a0 = 10 then (fX11_is M a0 0 a1).bind fun r1 => if r1 = 0 then (some (0, M)) else (bM (mst M a0 24 a1) fun M5 => (fX11_of M5 a0 0).bind fun r7 => bM (mst M5 a0 25 r7) fun M9 => (fX11_of M9 a0 1).bind fun r11 => bM (mst M9 a0 26 r11) fun M13 => some (1, M13)) else none
set_option maxRecDepth 100000 in
set_option maxHeartbeats 4000000 in
theorem kX11_hand (d : Nat) (hd : 2 ≤ d) (M : Mem) (a0 a1 : Int) : Ct mX11_hand d 0 0 [pA a0, pI a1] M dIM (fX11_hand M a0 a1) := by
  obtain ⟨d, rfl⟩ : ∃ k, d = k + 1 := ⟨d - 1, by omega⟩
  refine Ct.of 0 (fun _ _ _ => trivial) (by decide +kernel) rfl ?_
  unfold fX11_hand
  refine v_aload_n dX11_hand_0 rfl ?_
  refine v_iconst dX11_hand_1 (by decide) ?_
  refine v_iload_n dX11_hand_2 rfl ?_
  refine v_if (fun h3 => ?_)
  refine v_cV (mi := mX11_hand) (c0 := 0) (c1 := 0) (As := [pI 0, pI a1]) (st := []) (kX11_is d (by omega) _ _ _ _) rfl h3 rfl okX11_is (Or.inl tw1367) tw1369 tp28 rfl (Nat.le_of_ble_eq_true rfl) dX11_hand_3 (fun r1 => [pI r1]) (fun r1 => M) (fun _ => rfl) (fun _ => rfl) (fun r1 h2 => ?_) rfl
  refine v_if_ne (tgt := 11) dX11_hand_6 (by decide) (fun c4 => ?_) (fun c4 => ?_)
  · refine v_iconst dX11_hand_9 (by decide) ?_
    exact v_breturn dX11_hand_10 rfl (by decide) rfl
  · refine v_aload_n dX11_hand_11 rfl ?_
    refine v_iload_n dX11_hand_12 rfl ?_
    refine v_put (x := a1) 10 24 rfl inX11 (by decide) tw1217 (Or.inl rfl) rfl dX11_hand_13 h3 rfl id ?_
    refine v_bM (fun M5 e6 => ?_)
    refine v_aload_n dX11_hand_16 rfl ?_
    refine v_aload_n dX11_hand_17 rfl ?_
    refine v_iconst dX11_hand_18 (by decide) ?_
    refine v_cV (mi := mX11_hand) (c0 := 0) (c1 := 0) (As := [pI 0]) (st := [pA a0]) (kX11_of d (by omega) _ _ _) rfl (by rw [e6]; exact h3) rfl okX11_of (Or.inl tw1504) tw1506 tp55 rfl (Nat.le_of_ble_eq_true rfl) dX11_hand_19 (fun r7 => [pI r7, pA a0]) (fun r7 => M5) (fun _ => rfl) (fun _ => rfl) (fun r7 h8 => ?_) rfl
    refine v_put (x := r7) 10 25 rfl inX11 (by decide) tw1218 (Or.inl rfl) rfl dX11_hand_22 (by rw [e6]; exact h3) rfl id ?_
    refine v_bM (fun M9 e10 => ?_)
    refine v_aload_n dX11_hand_25 rfl ?_
    refine v_aload_n dX11_hand_26 rfl ?_
    refine v_iconst dX11_hand_27 (by decide) ?_
    refine v_cV (mi := mX11_hand) (c0 := 0) (c1 := 0) (As := [pI 1]) (st := [pA a0]) (kX11_of d (by omega) _ _ _) rfl (by rw [e10, e6]; exact h3) rfl okX11_of (Or.inl tw1504) tw1506 tp55 rfl (Nat.le_of_ble_eq_true rfl) dX11_hand_28 (fun r11 => [pI r11, pA a0]) (fun r11 => M9) (fun _ => rfl) (fun _ => rfl) (fun r11 h12 => ?_) rfl
    refine v_put (x := r11) 10 26 rfl inX11 (by decide) tw1219 (Or.inl rfl) rfl dX11_hand_31 (by rw [e10, e6]; exact h3) rfl id ?_
    refine v_bM (fun M13 e14 => ?_)
    refine v_iconst dX11_hand_34 (by decide) ?_
    exact v_breturn dX11_hand_35 rfl (by decide) rfl
theorem dX11_isHouse_0 : decode cX11_isHouse 0 = .ok (.iload_n 1, 1) := by decide +kernel
theorem dX11_isHouse_1 : decode cX11_isHouse 1 = .ok (.iconst 0, 1) := by decide +kernel
theorem dX11_isHouse_2 : decode cX11_isHouse 2 = .ok (.aload_n 0, 1) := by decide +kernel
theorem dX11_isHouse_3 : decode cX11_isHouse 3 = .ok (.getfield 281, 3) := by decide +kernel
theorem dX11_isHouse_6 : decode cX11_isHouse 6 = .ok (.iconst 1, 1) := by decide +kernel
theorem dX11_isHouse_7 : decode cX11_isHouse 7 = .ok (.isub, 1) := by decide +kernel
theorem dX11_isHouse_8 : decode cX11_isHouse 8 = .ok (.invokestatic 98, 3) := by decide +kernel
theorem dX11_isHouse_11 : decode cX11_isHouse 11 = .ok (.ireturn, 1) := by decide +kernel
abbrev mX11_isHouse : MI := (yX11_isHouse, cX11_isHouse, 2, (some .boolean), noE)
theorem okX11_isHouse : cok mX11_isHouse 1 := ⟨tw1511, tw11, by decide, by decide, by decide, by decide +kernel⟩
def fX11_isHouse (M : Mem) (a0 a1 : Int) : Option Int :=
  if M.2.1 a0 = 10 then (fX11_in M a1 0 (w32 ((M.1 a0 25) - 1))).bind fun r2 => if r2 = 0 ∨ r2 = 1 then some r2 else none else none
set_option maxRecDepth 100000 in
set_option maxHeartbeats 4000000 in
theorem kX11_isHouse (d : Nat) (hd : 1 ≤ d) (M : Mem) (a0 a1 : Int) : Ct mX11_isHouse d 0 0 [pA a0, pI a1] M (dI M) (fX11_isHouse M a0 a1) := by
  obtain ⟨d, rfl⟩ : ∃ k, d = k + 1 := ⟨d - 1, by omega⟩
  refine Ct.of 0 (fun _ _ _ => trivial) (by decide +kernel) rfl ?_
  unfold fX11_isHouse
  refine v_iload_n dX11_isHouse_0 rfl ?_
  refine v_iconst dX11_isHouse_1 (by decide) ?_
  refine v_aload_n dX11_isHouse_2 rfl ?_
  refine v_if (fun h1 => ?_)
  refine v_get (v := pI (M.1 a0 25)) 10 25 rfl inX11 (by decide) tw1218 dX11_isHouse_3 h1 rfl ?_
  refine v_iconst dX11_isHouse_6 (by decide) ?_
  refine v_isub dX11_isHouse_7 ?_
  refine v_cS (mi := mX11_isHouse) (c0 := 0) (c1 := 0) (As := [pI a1, pI 0, pI (w32 ((M.1 a0 25) - 1))]) (st := []) (kX11_in d (by omega) _ _ _ _) okX11_in (Or.inl tw1360) tw1361 rfl (Nat.le_of_ble_eq_true rfl) dX11_isHouse_8 (fun r2 => [pI r2]) (fun r2 => M) (fun _ => rfl) (fun _ => rfl) (fun r2 h3 => ?_) rfl
  refine v_if (fun h4 => ?_)
  exact v_breturn dX11_isHouse_11 rfl h4 rfl
theorem dX11_isThief_0 : decode cX11_isThief 0 = .ok (.iload_n 1, 1) := by decide +kernel
theorem dX11_isThief_1 : decode cX11_isThief 1 = .ok (.iconst 0, 1) := by decide +kernel
theorem dX11_isThief_2 : decode cX11_isThief 2 = .ok (.aload_n 0, 1) := by decide +kernel
theorem dX11_isThief_3 : decode cX11_isThief 3 = .ok (.getfield 284, 3) := by decide +kernel
theorem dX11_isThief_6 : decode cX11_isThief 6 = .ok (.iconst 1, 1) := by decide +kernel
theorem dX11_isThief_7 : decode cX11_isThief 7 = .ok (.isub, 1) := by decide +kernel
theorem dX11_isThief_8 : decode cX11_isThief 8 = .ok (.invokestatic 98, 3) := by decide +kernel
theorem dX11_isThief_11 : decode cX11_isThief 11 = .ok (.ireturn, 1) := by decide +kernel
abbrev mX11_isThief : MI := (yX11_isThief, cX11_isThief, 2, (some .boolean), noE)
theorem okX11_isThief : cok mX11_isThief 1 := ⟨tw1518, tw11, by decide, by decide, by decide, by decide +kernel⟩
def fX11_isThief (M : Mem) (a0 a1 : Int) : Option Int :=
  if M.2.1 a0 = 10 then (fX11_in M a1 0 (w32 ((M.1 a0 26) - 1))).bind fun r2 => if r2 = 0 ∨ r2 = 1 then some r2 else none else none
set_option maxRecDepth 100000 in
set_option maxHeartbeats 4000000 in
theorem kX11_isThief (d : Nat) (hd : 1 ≤ d) (M : Mem) (a0 a1 : Int) : Ct mX11_isThief d 0 0 [pA a0, pI a1] M (dI M) (fX11_isThief M a0 a1) := by
  obtain ⟨d, rfl⟩ : ∃ k, d = k + 1 := ⟨d - 1, by omega⟩
  refine Ct.of 0 (fun _ _ _ => trivial) (by decide +kernel) rfl ?_
  unfold fX11_isThief
  refine v_iload_n dX11_isThief_0 rfl ?_
  refine v_iconst dX11_isThief_1 (by decide) ?_
  refine v_aload_n dX11_isThief_2 rfl ?_
  refine v_if (fun h1 => ?_)
  refine v_get (v := pI (M.1 a0 26)) 10 26 rfl inX11 (by decide) tw1219 dX11_isThief_3 h1 rfl ?_
  refine v_iconst dX11_isThief_6 (by decide) ?_
  refine v_isub dX11_isThief_7 ?_
  refine v_cS (mi := mX11_isThief) (c0 := 0) (c1 := 0) (As := [pI a1, pI 0, pI (w32 ((M.1 a0 26) - 1))]) (st := []) (kX11_in d (by omega) _ _ _ _) okX11_in (Or.inl tw1360) tw1361 rfl (Nat.le_of_ble_eq_true rfl) dX11_isThief_8 (fun r2 => [pI r2]) (fun r2 => M) (fun _ => rfl) (fun _ => rfl) (fun r2 h3 => ?_) rfl
  refine v_if (fun h4 => ?_)
  exact v_breturn dX11_isThief_11 rfl h4 rfl
theorem dX11_isGood_0 : decode cX11_isGood 0 = .ok (.iload_n 0, 1) := by decide +kernel
theorem dX11_isGood_1 : decode cX11_isGood 1 = .ok (.iconst 0, 1) := by decide +kernel
theorem dX11_isGood_2 : decode cX11_isGood 2 = .ok (.iconst 4, 1) := by decide +kernel
theorem dX11_isGood_3 : decode cX11_isGood 3 = .ok (.invokestatic 98, 3) := by decide +kernel
theorem dX11_isGood_6 : decode cX11_isGood 6 = .ok (.ireturn, 1) := by decide +kernel
abbrev mX11_isGood : MI := (yX11_isGood, cX11_isGood, 1, (some .boolean), noE)
theorem okX11_isGood : cok mX11_isGood 1 := ⟨tw1514, tw11, by decide, by decide, by decide, by decide +kernel⟩
def fX11_isGood (M : Mem) (a0 : Int) : Option Int :=
  (fX11_in M a0 0 4).bind fun r1 => if r1 = 0 ∨ r1 = 1 then some r1 else none
set_option maxRecDepth 100000 in
set_option maxHeartbeats 4000000 in
theorem kX11_isGood (d : Nat) (hd : 1 ≤ d) (M : Mem) (a0 : Int) : Ct mX11_isGood d 0 0 [pI a0] M (dI M) (fX11_isGood M a0) := by
  obtain ⟨d, rfl⟩ : ∃ k, d = k + 1 := ⟨d - 1, by omega⟩
  refine Ct.of 0 (fun _ _ _ => trivial) (by decide +kernel) rfl ?_
  unfold fX11_isGood
  refine v_iload_n dX11_isGood_0 rfl ?_
  refine v_iconst dX11_isGood_1 (by decide) ?_
  refine v_iconst dX11_isGood_2 (by decide) ?_
  refine v_cS (mi := mX11_isGood) (c0 := 0) (c1 := 0) (As := [pI a0, pI 0, pI 4]) (st := []) (kX11_in d (by omega) _ _ _ _) okX11_in (Or.inl tw1360) tw1361 rfl (Nat.le_of_ble_eq_true rfl) dX11_isGood_3 (fun r1 => [pI r1]) (fun r1 => M) (fun _ => rfl) (fun _ => rfl) (fun r1 h2 => ?_) rfl
  refine v_if (fun h3 => ?_)
  exact v_breturn dX11_isGood_6 rfl h3 rfl
theorem dX11_spare_0 : decode cX11_spare 0 = .ok (.iconst 0, 1) := by decide +kernel
theorem dX11_spare_1 : decode cX11_spare 1 = .ok (.aload_n 0, 1) := by decide +kernel
theorem dX11_spare_2 : decode cX11_spare 2 = .ok (.iconst 2, 1) := by decide +kernel
theorem dX11_spare_3 : decode cX11_spare 3 = .ok (.iconst 5, 1) := by decide +kernel
theorem dX11_spare_4 : decode cX11_spare 4 = .ok (.iload_n 1, 1) := by decide +kernel
theorem dX11_spare_5 : decode cX11_spare 5 = .ok (.imul, 1) := by decide +kernel
theorem dX11_spare_6 : decode cX11_spare 6 = .ok (.iadd, 1) := by decide +kernel
theorem dX11_spare_7 : decode cX11_spare 7 = .ok (.iload_n 2, 1) := by decide +kernel
theorem dX11_spare_8 : decode cX11_spare 8 = .ok (.iadd, 1) := by decide +kernel
theorem dX11_spare_9 : decode cX11_spare 9 = .ok (.invokevirtual 277, 3) := by decide +kernel
theorem dX11_spare_12 : decode cX11_spare 12 = .ok (.aload_n 0, 1) := by decide +kernel
theorem dX11_spare_13 : decode cX11_spare 13 = .ok (.bipush 32, 2) := by decide +kernel
theorem dX11_spare_15 : decode cX11_spare 15 = .ok (.iconst 5, 1) := by decide +kernel
theorem dX11_spare_16 : decode cX11_spare 16 = .ok (.iload_n 1, 1) := by decide +kernel
theorem dX11_spare_17 : decode cX11_spare 17 = .ok (.imul, 1) := by decide +kernel
theorem dX11_spare_18 : decode cX11_spare 18 = .ok (.iadd, 1) := by decide +kernel
theorem dX11_spare_19 : decode cX11_spare 19 = .ok (.iload_n 2, 1) := by decide +kernel
theorem dX11_spare_20 : decode cX11_spare 20 = .ok (.iadd, 1) := by decide +kernel
theorem dX11_spare_21 : decode cX11_spare 21 = .ok (.invokevirtual 277, 3) := by decide +kernel
theorem dX11_spare_24 : decode cX11_spare 24 = .ok (.isub, 1) := by decide +kernel
theorem dX11_spare_25 : decode cX11_spare 25 = .ok (.invokestatic 163, 3) := by decide +kernel
theorem dX11_spare_28 : decode cX11_spare 28 = .ok (.ireturn, 1) := by decide +kernel
abbrev mX11_spare : MI := (yX11_spare, cX11_spare, 3, (some .int), noE)
theorem okX11_spare : cok mX11_spare 2 := ⟨tw1526, tw11, by decide, by decide, by decide, by decide +kernel⟩
def fX11_spare (M : Mem) (a0 a1 a2 : Int) : Option Int :=
  if M.2.1 a0 = 10 then (fX11_of M a0 (w32 ((w32 (2 + (w32 (5 * a1)))) + a2))).bind fun r1 => (fX11_of M a0 (w32 ((w32 (32 + (w32 (5 * a1)))) + a2))).bind fun r4 => (fX11_greater M 0 (w32 (r1 - r4))).bind fun r6 => some r6 else none
set_option maxRecDepth 100000 in
set_option maxHeartbeats 4000000 in
theorem kX11_spare (d : Nat) (hd : 1 ≤ d) (M : Mem) (a0 a1 a2 : Int) : Ct mX11_spare d 0 0 [pA a0, pI a1, pI a2] M (dI M) (fX11_spare M a0 a1 a2) := by
  obtain ⟨d, rfl⟩ : ∃ k, d = k + 1 := ⟨d - 1, by omega⟩
  refine Ct.of 0 (fun _ _ _ => trivial) (by decide +kernel) rfl ?_
  unfold fX11_spare
  refine v_iconst dX11_spare_0 (by decide) ?_
  refine v_aload_n dX11_spare_1 rfl ?_
  refine v_iconst dX11_spare_2 (by decide) ?_
  refine v_iconst dX11_spare_3 (by decide) ?_
  refine v_iload_n dX11_spare_4 rfl ?_
  refine v_imul dX11_spare_5 ?_
  refine v_iadd dX11_spare_6 ?_
  refine v_iload_n dX11_spare_7 rfl ?_
  refine v_iadd dX11_spare_8 ?_
  refine v_if (fun h3 => ?_)
  refine v_cV (mi := mX11_spare) (c0 := 0) (c1 := 0) (As := [pI (w32 ((w32 (2 + (w32 (5 * a1)))) + a2))]) (st := [pI 0]) (kX11_of d (by omega) _ _ _) rfl h3 rfl okX11_of (Or.inl tw1504) tw1506 tp55 rfl (Nat.le_of_ble_eq_true rfl) dX11_spare_9 (fun r1 => [pI r1, pI 0]) (fun r1 => M) (fun _ => rfl) (fun _ => rfl) (fun r1 h2 => ?_) rfl
  refine v_aload_n dX11_spare_12 rfl ?_
  refine v_bipush dX11_spare_13 (by decide) ?_
  refine v_iconst dX11_spare_15 (by decide) ?_
  refine v_iload_n dX11_spare_16 rfl ?_
  refine v_imul dX11_spare_17 ?_
  refine v_iadd dX11_spare_18 ?_
  refine v_iload_n dX11_spare_19 rfl ?_
  refine v_iadd dX11_spare_20 ?_
  refine v_cV (mi := mX11_spare) (c0 := 0) (c1 := 0) (As := [pI (w32 ((w32 (32 + (w32 (5 * a1)))) + a2))]) (st := [pI r1, pI 0]) (kX11_of d (by omega) _ _ _) rfl h3 rfl okX11_of (Or.inl tw1504) tw1506 tp55 rfl (Nat.le_of_ble_eq_true rfl) dX11_spare_21 (fun r4 => [pI r4, pI r1, pI 0]) (fun r4 => M) (fun _ => rfl) (fun _ => rfl) (fun r4 h5 => ?_) rfl
  refine v_isub dX11_spare_24 ?_
  refine v_cS (mi := mX11_spare) (c0 := 0) (c1 := 0) (As := [pI 0, pI (w32 (r1 - r4))]) (st := []) (kX11_greater d (by omega) _ _ _) okX11_greater (Or.inl tw1440) tw1441 rfl (Nat.le_of_ble_eq_true rfl) dX11_spare_25 (fun r6 => [pI r6]) (fun r6 => M) (fun _ => rfl) (fun _ => rfl) (fun r6 h7 => ?_) rfl
  exact v_ireturn dX11_spare_28 rfl rfl
theorem dX11_lacks_0 : decode cX11_lacks 0 = .ok (.iconst 0, 1) := by decide +kernel
theorem dX11_lacks_1 : decode cX11_lacks 1 = .ok (.aload_n 0, 1) := by decide +kernel
theorem dX11_lacks_2 : decode cX11_lacks 2 = .ok (.bipush 32, 2) := by decide +kernel
theorem dX11_lacks_4 : decode cX11_lacks 4 = .ok (.iconst 5, 1) := by decide +kernel
theorem dX11_lacks_5 : decode cX11_lacks 5 = .ok (.iload_n 1, 1) := by decide +kernel
theorem dX11_lacks_6 : decode cX11_lacks 6 = .ok (.imul, 1) := by decide +kernel
theorem dX11_lacks_7 : decode cX11_lacks 7 = .ok (.iadd, 1) := by decide +kernel
theorem dX11_lacks_8 : decode cX11_lacks 8 = .ok (.iload_n 2, 1) := by decide +kernel
theorem dX11_lacks_9 : decode cX11_lacks 9 = .ok (.iadd, 1) := by decide +kernel
theorem dX11_lacks_10 : decode cX11_lacks 10 = .ok (.invokevirtual 277, 3) := by decide +kernel
theorem dX11_lacks_13 : decode cX11_lacks 13 = .ok (.aload_n 0, 1) := by decide +kernel
theorem dX11_lacks_14 : decode cX11_lacks 14 = .ok (.iconst 2, 1) := by decide +kernel
theorem dX11_lacks_15 : decode cX11_lacks 15 = .ok (.iconst 5, 1) := by decide +kernel
theorem dX11_lacks_16 : decode cX11_lacks 16 = .ok (.iload_n 1, 1) := by decide +kernel
theorem dX11_lacks_17 : decode cX11_lacks 17 = .ok (.imul, 1) := by decide +kernel
theorem dX11_lacks_18 : decode cX11_lacks 18 = .ok (.iadd, 1) := by decide +kernel
theorem dX11_lacks_19 : decode cX11_lacks 19 = .ok (.iload_n 2, 1) := by decide +kernel
theorem dX11_lacks_20 : decode cX11_lacks 20 = .ok (.iadd, 1) := by decide +kernel
theorem dX11_lacks_21 : decode cX11_lacks 21 = .ok (.invokevirtual 277, 3) := by decide +kernel
theorem dX11_lacks_24 : decode cX11_lacks 24 = .ok (.isub, 1) := by decide +kernel
theorem dX11_lacks_25 : decode cX11_lacks 25 = .ok (.invokestatic 163, 3) := by decide +kernel
theorem dX11_lacks_28 : decode cX11_lacks 28 = .ok (.ireturn, 1) := by decide +kernel
abbrev mX11_lacks : MI := (yX11_lacks, cX11_lacks, 3, (some .int), noE)
theorem okX11_lacks : cok mX11_lacks 2 := ⟨tw1530, tw11, by decide, by decide, by decide, by decide +kernel⟩
def fX11_lacks (M : Mem) (a0 a1 a2 : Int) : Option Int :=
  if M.2.1 a0 = 10 then (fX11_of M a0 (w32 ((w32 (32 + (w32 (5 * a1)))) + a2))).bind fun r1 => (fX11_of M a0 (w32 ((w32 (2 + (w32 (5 * a1)))) + a2))).bind fun r4 => (fX11_greater M 0 (w32 (r1 - r4))).bind fun r6 => some r6 else none
set_option maxRecDepth 100000 in
set_option maxHeartbeats 4000000 in
theorem kX11_lacks (d : Nat) (hd : 1 ≤ d) (M : Mem) (a0 a1 a2 : Int) : Ct mX11_lacks d 0 0 [pA a0, pI a1, pI a2] M (dI M) (fX11_lacks M a0 a1 a2) := by
  obtain ⟨d, rfl⟩ : ∃ k, d = k + 1 := ⟨d - 1, by omega⟩
  refine Ct.of 0 (fun _ _ _ => trivial) (by decide +kernel) rfl ?_
  unfold fX11_lacks
  refine v_iconst dX11_lacks_0 (by decide) ?_
  refine v_aload_n dX11_lacks_1 rfl ?_
  refine v_bipush dX11_lacks_2 (by decide) ?_
  refine v_iconst dX11_lacks_4 (by decide) ?_
  refine v_iload_n dX11_lacks_5 rfl ?_
  refine v_imul dX11_lacks_6 ?_
  refine v_iadd dX11_lacks_7 ?_
  refine v_iload_n dX11_lacks_8 rfl ?_
  refine v_iadd dX11_lacks_9 ?_
  refine v_if (fun h3 => ?_)
  refine v_cV (mi := mX11_lacks) (c0 := 0) (c1 := 0) (As := [pI (w32 ((w32 (32 + (w32 (5 * a1)))) + a2))]) (st := [pI 0]) (kX11_of d (by omega) _ _ _) rfl h3 rfl okX11_of (Or.inl tw1504) tw1506 tp55 rfl (Nat.le_of_ble_eq_true rfl) dX11_lacks_10 (fun r1 => [pI r1, pI 0]) (fun r1 => M) (fun _ => rfl) (fun _ => rfl) (fun r1 h2 => ?_) rfl
  refine v_aload_n dX11_lacks_13 rfl ?_
  refine v_iconst dX11_lacks_14 (by decide) ?_
  refine v_iconst dX11_lacks_15 (by decide) ?_
  refine v_iload_n dX11_lacks_16 rfl ?_
  refine v_imul dX11_lacks_17 ?_
  refine v_iadd dX11_lacks_18 ?_
  refine v_iload_n dX11_lacks_19 rfl ?_
  refine v_iadd dX11_lacks_20 ?_
  refine v_cV (mi := mX11_lacks) (c0 := 0) (c1 := 0) (As := [pI (w32 ((w32 (2 + (w32 (5 * a1)))) + a2))]) (st := [pI r1, pI 0]) (kX11_of d (by omega) _ _ _) rfl h3 rfl okX11_of (Or.inl tw1504) tw1506 tp55 rfl (Nat.le_of_ble_eq_true rfl) dX11_lacks_21 (fun r4 => [pI r4, pI r1, pI 0]) (fun r4 => M) (fun _ => rfl) (fun _ => rfl) (fun r4 h5 => ?_) rfl
  refine v_isub dX11_lacks_24 ?_
  refine v_cS (mi := mX11_lacks) (c0 := 0) (c1 := 0) (As := [pI 0, pI (w32 (r1 - r4))]) (st := []) (kX11_greater d (by omega) _ _ _) okX11_greater (Or.inl tw1440) tw1441 rfl (Nat.le_of_ble_eq_true rfl) dX11_lacks_25 (fun r6 => [pI r6]) (fun r6 => M) (fun _ => rfl) (fun _ => rfl) (fun r6 h7 => ?_) rfl
  exact v_ireturn dX11_lacks_28 rfl rfl
theorem dX11_town_0 : decode cX11_town 0 = .ok (.aload_n 0, 1) := by decide +kernel
theorem dX11_town_1 : decode cX11_town 1 = .ok (.iconst 0, 1) := by decide +kernel
theorem dX11_town_2 : decode cX11_town 2 = .ok (.putfield 90, 3) := by decide +kernel
theorem dX11_town_5 : decode cX11_town 5 = .ok (.aload_n 0, 1) := by decide +kernel
theorem dX11_town_6 : decode cX11_town 6 = .ok (.iload_n 1, 1) := by decide +kernel
theorem dX11_town_7 : decode cX11_town 7 = .ok (.invokevirtual 287, 3) := by decide +kernel
theorem dX11_town_10 : decode cX11_town 10 = .ok (.ifCond .ne 6, 3) := by decide +kernel
theorem dX11_town_13 : decode cX11_town 13 = .ok (.bipush (-2), 2) := by decide +kernel
theorem dX11_town_15 : decode cX11_town 15 = .ok (.ireturn, 1) := by decide +kernel
theorem dX11_town_16 : decode cX11_town 16 = .ok (.iload_n 2, 1) := by decide +kernel
theorem dX11_town_17 : decode cX11_town 17 = .ok (.bipush 10, 2) := by decide +kernel
theorem dX11_town_19 : decode cX11_town 19 = .ok (.irem, 1) := by decide +kernel
theorem dX11_town_20 : decode cX11_town 20 = .ok (.istore_n 3, 1) := by decide +kernel
theorem dX11_town_21 : decode cX11_town 21 = .ok (.iload_n 2, 1) := by decide +kernel
theorem dX11_town_22 : decode cX11_town 22 = .ok (.bipush 10, 2) := by decide +kernel
theorem dX11_town_24 : decode cX11_town 24 = .ok (.idiv, 1) := by decide +kernel
theorem dX11_town_25 : decode cX11_town 25 = .ok (.tableswitch 169 1 6 #[39, 61, 83, 104, 125, 147], 39) := by decide +kernel
theorem dX11_town_64 : decode cX11_town 64 = .ok (.aload_n 0, 1) := by decide +kernel
theorem dX11_town_65 : decode cX11_town 65 = .ok (.iload_n 3, 1) := by decide +kernel
theorem dX11_town_66 : decode cX11_town 66 = .ok (.invokevirtual 290, 3) := by decide +kernel
theorem dX11_town_69 : decode cX11_town 69 = .ok (.ifCond .eq 14, 3) := by decide +kernel
theorem dX11_town_72 : decode cX11_town 72 = .ok (.aload_n 0, 1) := by decide +kernel
theorem dX11_town_73 : decode cX11_town 73 = .ok (.bipush 62, 2) := by decide +kernel
theorem dX11_town_75 : decode cX11_town 75 = .ok (.iload_n 3, 1) := by decide +kernel
theorem dX11_town_76 : decode cX11_town 76 = .ok (.iadd, 1) := by decide +kernel
theorem dX11_town_77 : decode cX11_town 77 = .ok (.invokevirtual 277, 3) := by decide +kernel
theorem dX11_town_80 : decode cX11_town 80 = .ok (.goto 5, 3) := by decide +kernel
theorem dX11_town_83 : decode cX11_town 83 = .ok (.bipush (-2), 2) := by decide +kernel
theorem dX11_town_85 : decode cX11_town 85 = .ok (.ireturn, 1) := by decide +kernel
theorem dX11_town_86 : decode cX11_town 86 = .ok (.aload_n 0, 1) := by decide +kernel
theorem dX11_town_87 : decode cX11_town 87 = .ok (.iload_n 3, 1) := by decide +kernel
theorem dX11_town_88 : decode cX11_town 88 = .ok (.invokevirtual 290, 3) := by decide +kernel
theorem dX11_town_91 : decode cX11_town 91 = .ok (.ifCond .eq 14, 3) := by decide +kernel
theorem dX11_town_94 : decode cX11_town 94 = .ok (.aload_n 0, 1) := by decide +kernel
theorem dX11_town_95 : decode cX11_town 95 = .ok (.bipush 68, 2) := by decide +kernel
theorem dX11_town_97 : decode cX11_town 97 = .ok (.iload_n 3, 1) := by decide +kernel
theorem dX11_town_98 : decode cX11_town 98 = .ok (.iadd, 1) := by decide +kernel
theorem dX11_town_99 : decode cX11_town 99 = .ok (.invokevirtual 277, 3) := by decide +kernel
theorem dX11_town_102 : decode cX11_town 102 = .ok (.goto 5, 3) := by decide +kernel
theorem dX11_town_105 : decode cX11_town 105 = .ok (.bipush (-2), 2) := by decide +kernel
theorem dX11_town_107 : decode cX11_town 107 = .ok (.ireturn, 1) := by decide +kernel
theorem dX11_town_108 : decode cX11_town 108 = .ok (.iload_n 3, 1) := by decide +kernel
theorem dX11_town_109 : decode cX11_town 109 = .ok (.invokestatic 293, 3) := by decide +kernel
theorem dX11_town_112 : decode cX11_town 112 = .ok (.ifCond .eq 14, 3) := by decide +kernel
theorem dX11_town_115 : decode cX11_town 115 = .ok (.aload_n 0, 1) := by decide +kernel
theorem dX11_town_116 : decode cX11_town 116 = .ok (.bipush 74, 2) := by decide +kernel
theorem dX11_town_118 : decode cX11_town 118 = .ok (.iload_n 3, 1) := by decide +kernel
theorem dX11_town_119 : decode cX11_town 119 = .ok (.iadd, 1) := by decide +kernel
theorem dX11_town_120 : decode cX11_town 120 = .ok (.invokevirtual 277, 3) := by decide +kernel
theorem dX11_town_123 : decode cX11_town 123 = .ok (.goto 5, 3) := by decide +kernel
theorem dX11_town_126 : decode cX11_town 126 = .ok (.bipush (-2), 2) := by decide +kernel
theorem dX11_town_128 : decode cX11_town 128 = .ok (.ireturn, 1) := by decide +kernel
theorem dX11_town_129 : decode cX11_town 129 = .ok (.iload_n 3, 1) := by decide +kernel
theorem dX11_town_130 : decode cX11_town 130 = .ok (.invokestatic 293, 3) := by decide +kernel
theorem dX11_town_133 : decode cX11_town 133 = .ok (.ifCond .eq 14, 3) := by decide +kernel
theorem dX11_town_136 : decode cX11_town 136 = .ok (.aload_n 0, 1) := by decide +kernel
theorem dX11_town_137 : decode cX11_town 137 = .ok (.bipush 79, 2) := by decide +kernel
theorem dX11_town_139 : decode cX11_town 139 = .ok (.iload_n 3, 1) := by decide +kernel
theorem dX11_town_140 : decode cX11_town 140 = .ok (.iadd, 1) := by decide +kernel
theorem dX11_town_141 : decode cX11_town 141 = .ok (.invokevirtual 277, 3) := by decide +kernel
theorem dX11_town_144 : decode cX11_town 144 = .ok (.goto 5, 3) := by decide +kernel
theorem dX11_town_147 : decode cX11_town 147 = .ok (.bipush (-2), 2) := by decide +kernel
theorem dX11_town_149 : decode cX11_town 149 = .ok (.ireturn, 1) := by decide +kernel
theorem dX11_town_150 : decode cX11_town 150 = .ok (.aload_n 0, 1) := by decide +kernel
theorem dX11_town_151 : decode cX11_town 151 = .ok (.iload_n 3, 1) := by decide +kernel
theorem dX11_town_152 : decode cX11_town 152 = .ok (.invokevirtual 296, 3) := by decide +kernel
theorem dX11_town_155 : decode cX11_town 155 = .ok (.ifCond .eq 14, 3) := by decide +kernel
theorem dX11_town_158 : decode cX11_town 158 = .ok (.aload_n 0, 1) := by decide +kernel
theorem dX11_town_159 : decode cX11_town 159 = .ok (.bipush 84, 2) := by decide +kernel
theorem dX11_town_161 : decode cX11_town 161 = .ok (.iload_n 3, 1) := by decide +kernel
theorem dX11_town_162 : decode cX11_town 162 = .ok (.iadd, 1) := by decide +kernel
theorem dX11_town_163 : decode cX11_town 163 = .ok (.invokevirtual 277, 3) := by decide +kernel
theorem dX11_town_166 : decode cX11_town 166 = .ok (.goto 5, 3) := by decide +kernel
theorem dX11_town_169 : decode cX11_town 169 = .ok (.bipush (-2), 2) := by decide +kernel
theorem dX11_town_171 : decode cX11_town 171 = .ok (.ireturn, 1) := by decide +kernel
theorem dX11_town_172 : decode cX11_town 172 = .ok (.aload_n 0, 1) := by decide +kernel
theorem dX11_town_173 : decode cX11_town 173 = .ok (.iload_n 3, 1) := by decide +kernel
theorem dX11_town_174 : decode cX11_town 174 = .ok (.invokevirtual 296, 3) := by decide +kernel
theorem dX11_town_177 : decode cX11_town 177 = .ok (.ifCond .eq 14, 3) := by decide +kernel
theorem dX11_town_180 : decode cX11_town 180 = .ok (.aload_n 0, 1) := by decide +kernel
theorem dX11_town_181 : decode cX11_town 181 = .ok (.bipush 88, 2) := by decide +kernel
theorem dX11_town_183 : decode cX11_town 183 = .ok (.iload_n 3, 1) := by decide +kernel
theorem dX11_town_184 : decode cX11_town 184 = .ok (.iadd, 1) := by decide +kernel
theorem dX11_town_185 : decode cX11_town 185 = .ok (.invokevirtual 277, 3) := by decide +kernel
theorem dX11_town_188 : decode cX11_town 188 = .ok (.goto 5, 3) := by decide +kernel
theorem dX11_town_191 : decode cX11_town 191 = .ok (.bipush (-2), 2) := by decide +kernel
theorem dX11_town_193 : decode cX11_town 193 = .ok (.ireturn, 1) := by decide +kernel
theorem dX11_town_194 : decode cX11_town 194 = .ok (.iload_n 2, 1) := by decide +kernel
theorem dX11_town_195 : decode cX11_town 195 = .ok (.iconst 0, 1) := by decide +kernel
theorem dX11_town_196 : decode cX11_town 196 = .ok (.iconst 1, 1) := by decide +kernel
theorem dX11_town_197 : decode cX11_town 197 = .ok (.invokestatic 98, 3) := by decide +kernel
theorem dX11_town_200 : decode cX11_town 200 = .ok (.ifCond .eq 11, 3) := by decide +kernel
theorem dX11_town_203 : decode cX11_town 203 = .ok (.aload_n 0, 1) := by decide +kernel
theorem dX11_town_204 : decode cX11_town 204 = .ok (.iload_n 2, 1) := by decide +kernel
theorem dX11_town_205 : decode cX11_town 205 = .ok (.invokevirtual 277, 3) := by decide +kernel
theorem dX11_town_208 : decode cX11_town 208 = .ok (.goto 5, 3) := by decide +kernel
theorem dX11_town_211 : decode cX11_town 211 = .ok (.bipush (-2), 2) := by decide +kernel
theorem dX11_town_213 : decode cX11_town 213 = .ok (.ireturn, 1) := by decide +kernel
abbrev mX11_town : MI := (yX11_town, cX11_town, 4, (some .int), noE)
theorem okX11_town : cok mX11_town 2 := ⟨tw1499, tw11, by decide, by decide, by decide, by decide +kernel⟩
def fX11_town (M : Mem) (a0 a1 a2 : Int) : Option (Int × Mem) :=
  if M.2.1 a0 = 10 then bM (mst M a0 0 0) fun M2 => (fX11_hand M2 a0 a1).bind fun r4 => if r4.1 = 0 then (some ((-2), r4.2)) else (if w32 (a2.tdiv 10) = 1 then (if r4.2.2.1 a0 = 10 then (fX11_isHouse r4.2 a0 (a2.tmod 10)).bind fun r8 => if r8 = 0 then (some ((-2), r4.2)) else ((fX11_of r4.2 a0 (w32 (62 + (a2.tmod 10)))).bind fun r12 => some (r12, r4.2)) else none) else if w32 (a2.tdiv 10) = 2 then (if r4.2.2.1 a0 = 10 then (fX11_isHouse r4.2 a0 (a2.tmod 10)).bind fun r15 => if r15 = 0 then (some ((-2), r4.2)) else ((fX11_of r4.2 a0 (w32 (68 + (a2.tmod 10)))).bind fun r19 => some (r19, r4.2)) else none) else if w32 (a2.tdiv 10) = 3 then ((fX11_isGood r4.2 (a2.tmod 10)).bind fun r22 => if r22 = 0 then (some ((-2), r4.2)) else (if r4.2.2.1 a0 = 10 then (fX11_of r4.2 a0 (w32 (74 + (a2.tmod 10)))).bind fun r25 => some (r25, r4.2) else none)) else if w32 (a2.tdiv 10) = 4 then ((fX11_isGood r4.2 (a2.tmod 10)).bind fun r29 => if r29 = 0 then (some ((-2), r4.2)) else (if r4.2.2.1 a0 = 10 then (fX11_of r4.2 a0 (w32 (79 + (a2.tmod 10)))).bind fun r32 => some (r32, r4.2) else none)) else if w32 (a2.tdiv 10) = 5 then (if r4.2.2.1 a0 = 10 then (fX11_isThief r4.2 a0 (a2.tmod 10)).bind fun r36 => if r36 = 0 then (some ((-2), r4.2)) else ((fX11_of r4.2 a0 (w32 (84 + (a2.tmod 10)))).bind fun r40 => some (r40, r4.2)) else none) else if w32 (a2.tdiv 10) = 6 then (if r4.2.2.1 a0 = 10 then (fX11_isThief r4.2 a0 (a2.tmod 10)).bind fun r43 => if r43 = 0 then (some ((-2), r4.2)) else ((fX11_of r4.2 a0 (w32 (88 + (a2.tmod 10)))).bind fun r47 => some (r47, r4.2)) else none) else (fX11_in r4.2 a2 0 1).bind fun r49 => if r49 = 0 then (some ((-2), r4.2)) else (if r4.2.2.1 a0 = 10 then (fX11_of r4.2 a0 a2).bind fun r52 => some (r52, r4.2) else none)) else none
set_option maxRecDepth 100000 in
set_option maxHeartbeats 4000000 in
theorem kX11_town (d : Nat) (hd : 3 ≤ d) (M : Mem) (a0 a1 a2 : Int) : Ct mX11_town d 0 0 [pA a0, pI a1, pI a2] M dIM (fX11_town M a0 a1 a2) := by
  obtain ⟨d, rfl⟩ : ∃ k, d = k + 1 := ⟨d - 1, by omega⟩
  refine Ct.of 1 (fun _ _ _ => trivial) (by decide +kernel) rfl ?_
  unfold fX11_town
  refine v_aload_n dX11_town_0 rfl ?_
  refine v_iconst dX11_town_1 (by decide) ?_
  refine v_if (fun h1 => ?_)
  refine v_put (x := 0) 10 0 rfl inX11 (by decide) tw1193 (Or.inl rfl) rfl dX11_town_2 h1 rfl id ?_
  refine v_bM (fun M2 e3 => ?_)
  refine v_aload_n dX11_town_5 rfl ?_
  refine v_iload_n dX11_town_6 rfl ?_
  refine v_cV (mi := mX11_town) (c0 := 0) (c1 := 0) (As := [pI a1]) (st := []) (kX11_hand d (by omega) _ _ _) rfl (by rw [e3]; exact h1) rfl okX11_hand (Or.inl tw1500) tw1502 tp54 rfl (Nat.le_of_ble_eq_true rfl) dX11_town_7 (fun r4 => [pI r4.1]) (fun r4 => r4.2) (fun _ => rfl) (fun _ => rfl) (fun r4 h5 => ?_) rfl
  refine v_if_ne (tgt := 16) dX11_town_10 (by decide) (fun c6 => ?_) (fun c6 => ?_)
  · refine v_bipush dX11_town_13 (by decide) ?_
    exact v_ireturn dX11_town_15 rfl rfl
  · refine v_iload_n dX11_town_16 rfl ?_
    refine v_bipush dX11_town_17 (by decide) ?_
    refine v_irem (by decide) dX11_town_19 ?_
    refine v_istore_n (ls' := [some (pA a0), some (pI a1), some (pI a2), some (pI (a2.tmod 10))]) dX11_town_20 (by decide) rfl ?_
    refine v_iload_n dX11_town_21 rfl ?_
    refine v_bipush dX11_town_22 (by decide) ?_
    refine v_idiv (by decide) dX11_town_24 ?_
    refine v_ite (fun h7 => ?_) (fun h7 => ?_)
    · refine v_tabIn (off := 39) (tgt := 64) dX11_town_25 h7 (by decide) ?_
      refine v_aload_n dX11_town_64 rfl ?_
      refine v_iload_n dX11_town_65 rfl ?_
      refine v_if (fun h10 => ?_)
      refine v_cV (mi := mX11_town) (c0 := 0) (c1 := 0) (As := [pI (a2.tmod 10)]) (st := []) (kX11_isHouse d (by omega) _ _ _) rfl h10 rfl okX11_isHouse (Or.inl tw1508) tw1510 tp56 rfl (Nat.le_of_ble_eq_true rfl) dX11_town_66 (fun r8 => [pI r8]) (fun r8 => r4.2) (fun _ => rfl) (fun _ => rfl) (fun r8 h9 => ?_) rfl
      refine v_if_eq (tgt := 83) dX11_town_69 (by decide) (fun c11 => ?_) (fun c11 => ?_)
      · refine v_bipush dX11_town_83 (by decide) ?_
        exact v_ireturn dX11_town_85 rfl rfl
      · refine v_aload_n dX11_town_72 rfl ?_
        refine v_bipush dX11_town_73 (by decide) ?_
        refine v_iload_n dX11_town_75 rfl ?_
        refine v_iadd dX11_town_76 ?_
        refine v_cV (mi := mX11_town) (c0 := 0) (c1 := 0) (As := [pI (w32 (62 + (a2.tmod 10)))]) (st := []) (kX11_of d (by omega) _ _ _) rfl h10 rfl okX11_of (Or.inl tw1504) tw1506 tp55 rfl (Nat.le_of_ble_eq_true rfl) dX11_town_77 (fun r12 => [pI r12]) (fun r12 => r4.2) (fun _ => rfl) (fun _ => rfl) (fun r12 h13 => ?_) rfl
        refine v_goto (tgt := 85) dX11_town_80 (by decide) ?_
        exact v_ireturn dX11_town_85 rfl rfl
    · refine v_ite (fun h14 => ?_) (fun h14 => ?_)
      · refine v_tabIn (off := 61) (tgt := 86) dX11_town_25 h14 (by decide) ?_
        refine v_aload_n dX11_town_86 rfl ?_
        refine v_iload_n dX11_town_87 rfl ?_
        refine v_if (fun h17 => ?_)
        refine v_cV (mi := mX11_town) (c0 := 0) (c1 := 0) (As := [pI (a2.tmod 10)]) (st := []) (kX11_isHouse d (by omega) _ _ _) rfl h17 rfl okX11_isHouse (Or.inl tw1508) tw1510 tp56 rfl (Nat.le_of_ble_eq_true rfl) dX11_town_88 (fun r15 => [pI r15]) (fun r15 => r4.2) (fun _ => rfl) (fun _ => rfl) (fun r15 h16 => ?_) rfl
        refine v_if_eq (tgt := 105) dX11_town_91 (by decide) (fun c18 => ?_) (fun c18 => ?_)
        · refine v_bipush dX11_town_105 (by decide) ?_
          exact v_ireturn dX11_town_107 rfl rfl
        · refine v_aload_n dX11_town_94 rfl ?_
          refine v_bipush dX11_town_95 (by decide) ?_
          refine v_iload_n dX11_town_97 rfl ?_
          refine v_iadd dX11_town_98 ?_
          refine v_cV (mi := mX11_town) (c0 := 0) (c1 := 0) (As := [pI (w32 (68 + (a2.tmod 10)))]) (st := []) (kX11_of d (by omega) _ _ _) rfl h17 rfl okX11_of (Or.inl tw1504) tw1506 tp55 rfl (Nat.le_of_ble_eq_true rfl) dX11_town_99 (fun r19 => [pI r19]) (fun r19 => r4.2) (fun _ => rfl) (fun _ => rfl) (fun r19 h20 => ?_) rfl
          refine v_goto (tgt := 107) dX11_town_102 (by decide) ?_
          exact v_ireturn dX11_town_107 rfl rfl
      · refine v_ite (fun h21 => ?_) (fun h21 => ?_)
        · refine v_tabIn (off := 83) (tgt := 108) dX11_town_25 h21 (by decide) ?_
          refine v_iload_n dX11_town_108 rfl ?_
          refine v_cS (mi := mX11_town) (c0 := 0) (c1 := 0) (As := [pI (a2.tmod 10)]) (st := []) (kX11_isGood d (by omega) _ _) okX11_isGood (Or.inl tw1512) tw1513 rfl (Nat.le_of_ble_eq_true rfl) dX11_town_109 (fun r22 => [pI r22]) (fun r22 => r4.2) (fun _ => rfl) (fun _ => rfl) (fun r22 h23 => ?_) rfl
          refine v_if_eq (tgt := 126) dX11_town_112 (by decide) (fun c24 => ?_) (fun c24 => ?_)
          · refine v_bipush dX11_town_126 (by decide) ?_
            exact v_ireturn dX11_town_128 rfl rfl
          · refine v_aload_n dX11_town_115 rfl ?_
            refine v_bipush dX11_town_116 (by decide) ?_
            refine v_iload_n dX11_town_118 rfl ?_
            refine v_iadd dX11_town_119 ?_
            refine v_if (fun h27 => ?_)
            refine v_cV (mi := mX11_town) (c0 := 0) (c1 := 0) (As := [pI (w32 (74 + (a2.tmod 10)))]) (st := []) (kX11_of d (by omega) _ _ _) rfl h27 rfl okX11_of (Or.inl tw1504) tw1506 tp55 rfl (Nat.le_of_ble_eq_true rfl) dX11_town_120 (fun r25 => [pI r25]) (fun r25 => r4.2) (fun _ => rfl) (fun _ => rfl) (fun r25 h26 => ?_) rfl
            refine v_goto (tgt := 128) dX11_town_123 (by decide) ?_
            exact v_ireturn dX11_town_128 rfl rfl
        · refine v_ite (fun h28 => ?_) (fun h28 => ?_)
          · refine v_tabIn (off := 104) (tgt := 129) dX11_town_25 h28 (by decide) ?_
            refine v_iload_n dX11_town_129 rfl ?_
            refine v_cS (mi := mX11_town) (c0 := 0) (c1 := 0) (As := [pI (a2.tmod 10)]) (st := []) (kX11_isGood d (by omega) _ _) okX11_isGood (Or.inl tw1512) tw1513 rfl (Nat.le_of_ble_eq_true rfl) dX11_town_130 (fun r29 => [pI r29]) (fun r29 => r4.2) (fun _ => rfl) (fun _ => rfl) (fun r29 h30 => ?_) rfl
            refine v_if_eq (tgt := 147) dX11_town_133 (by decide) (fun c31 => ?_) (fun c31 => ?_)
            · refine v_bipush dX11_town_147 (by decide) ?_
              exact v_ireturn dX11_town_149 rfl rfl
            · refine v_aload_n dX11_town_136 rfl ?_
              refine v_bipush dX11_town_137 (by decide) ?_
              refine v_iload_n dX11_town_139 rfl ?_
              refine v_iadd dX11_town_140 ?_
              refine v_if (fun h34 => ?_)
              refine v_cV (mi := mX11_town) (c0 := 0) (c1 := 0) (As := [pI (w32 (79 + (a2.tmod 10)))]) (st := []) (kX11_of d (by omega) _ _ _) rfl h34 rfl okX11_of (Or.inl tw1504) tw1506 tp55 rfl (Nat.le_of_ble_eq_true rfl) dX11_town_141 (fun r32 => [pI r32]) (fun r32 => r4.2) (fun _ => rfl) (fun _ => rfl) (fun r32 h33 => ?_) rfl
              refine v_goto (tgt := 149) dX11_town_144 (by decide) ?_
              exact v_ireturn dX11_town_149 rfl rfl
          · refine v_ite (fun h35 => ?_) (fun h35 => ?_)
            · refine v_tabIn (off := 125) (tgt := 150) dX11_town_25 h35 (by decide) ?_
              refine v_aload_n dX11_town_150 rfl ?_
              refine v_iload_n dX11_town_151 rfl ?_
              refine v_if (fun h38 => ?_)
              refine v_cV (mi := mX11_town) (c0 := 0) (c1 := 0) (As := [pI (a2.tmod 10)]) (st := []) (kX11_isThief d (by omega) _ _ _) rfl h38 rfl okX11_isThief (Or.inl tw1515) tw1517 tp57 rfl (Nat.le_of_ble_eq_true rfl) dX11_town_152 (fun r36 => [pI r36]) (fun r36 => r4.2) (fun _ => rfl) (fun _ => rfl) (fun r36 h37 => ?_) rfl
              refine v_if_eq (tgt := 169) dX11_town_155 (by decide) (fun c39 => ?_) (fun c39 => ?_)
              · refine v_bipush dX11_town_169 (by decide) ?_
                exact v_ireturn dX11_town_171 rfl rfl
              · refine v_aload_n dX11_town_158 rfl ?_
                refine v_bipush dX11_town_159 (by decide) ?_
                refine v_iload_n dX11_town_161 rfl ?_
                refine v_iadd dX11_town_162 ?_
                refine v_cV (mi := mX11_town) (c0 := 0) (c1 := 0) (As := [pI (w32 (84 + (a2.tmod 10)))]) (st := []) (kX11_of d (by omega) _ _ _) rfl h38 rfl okX11_of (Or.inl tw1504) tw1506 tp55 rfl (Nat.le_of_ble_eq_true rfl) dX11_town_163 (fun r40 => [pI r40]) (fun r40 => r4.2) (fun _ => rfl) (fun _ => rfl) (fun r40 h41 => ?_) rfl
                refine v_goto (tgt := 171) dX11_town_166 (by decide) ?_
                exact v_ireturn dX11_town_171 rfl rfl
            · refine v_ite (fun h42 => ?_) (fun h42 => ?_)
              · refine v_tabIn (off := 147) (tgt := 172) dX11_town_25 h42 (by decide) ?_
                refine v_aload_n dX11_town_172 rfl ?_
                refine v_iload_n dX11_town_173 rfl ?_
                refine v_if (fun h45 => ?_)
                refine v_cV (mi := mX11_town) (c0 := 0) (c1 := 0) (As := [pI (a2.tmod 10)]) (st := []) (kX11_isThief d (by omega) _ _ _) rfl h45 rfl okX11_isThief (Or.inl tw1515) tw1517 tp57 rfl (Nat.le_of_ble_eq_true rfl) dX11_town_174 (fun r43 => [pI r43]) (fun r43 => r4.2) (fun _ => rfl) (fun _ => rfl) (fun r43 h44 => ?_) rfl
                refine v_if_eq (tgt := 191) dX11_town_177 (by decide) (fun c46 => ?_) (fun c46 => ?_)
                · refine v_bipush dX11_town_191 (by decide) ?_
                  exact v_ireturn dX11_town_193 rfl rfl
                · refine v_aload_n dX11_town_180 rfl ?_
                  refine v_bipush dX11_town_181 (by decide) ?_
                  refine v_iload_n dX11_town_183 rfl ?_
                  refine v_iadd dX11_town_184 ?_
                  refine v_cV (mi := mX11_town) (c0 := 0) (c1 := 0) (As := [pI (w32 (88 + (a2.tmod 10)))]) (st := []) (kX11_of d (by omega) _ _ _) rfl h45 rfl okX11_of (Or.inl tw1504) tw1506 tp55 rfl (Nat.le_of_ble_eq_true rfl) dX11_town_185 (fun r47 => [pI r47]) (fun r47 => r4.2) (fun _ => rfl) (fun _ => rfl) (fun r47 h48 => ?_) rfl
                  refine v_goto (tgt := 193) dX11_town_188 (by decide) ?_
                  exact v_ireturn dX11_town_193 rfl rfl
              · refine v_tabOut (tgt := 194) dX11_town_25 (by omega) (by decide) ?_
                refine v_iload_n dX11_town_194 rfl ?_
                refine v_iconst dX11_town_195 (by decide) ?_
                refine v_iconst dX11_town_196 (by decide) ?_
                refine v_cS (mi := mX11_town) (c0 := 0) (c1 := 0) (As := [pI a2, pI 0, pI 1]) (st := []) (kX11_in d (by omega) _ _ _ _) okX11_in (Or.inl tw1360) tw1361 rfl (Nat.le_of_ble_eq_true rfl) dX11_town_197 (fun r49 => [pI r49]) (fun r49 => r4.2) (fun _ => rfl) (fun _ => rfl) (fun r49 h50 => ?_) rfl
                refine v_if_eq (tgt := 211) dX11_town_200 (by decide) (fun c51 => ?_) (fun c51 => ?_)
                · refine v_bipush dX11_town_211 (by decide) ?_
                  exact v_ireturn dX11_town_213 rfl rfl
                · refine v_aload_n dX11_town_203 rfl ?_
                  refine v_iload_n dX11_town_204 rfl ?_
                  refine v_if (fun h54 => ?_)
                  refine v_cV (mi := mX11_town) (c0 := 0) (c1 := 0) (As := [pI a2]) (st := []) (kX11_of d (by omega) _ _ _) rfl h54 rfl okX11_of (Or.inl tw1504) tw1506 tp55 rfl (Nat.le_of_ble_eq_true rfl) dX11_town_205 (fun r52 => [pI r52]) (fun r52 => r4.2) (fun _ => rfl) (fun _ => rfl) (fun r52 h53 => ?_) rfl
                  refine v_goto (tgt := 213) dX11_town_208 (by decide) ?_
                  exact v_ireturn dX11_town_213 rfl rfl
theorem dX11_house_0 : decode cX11_house 0 = .ok (.aload_n 0, 1) := by decide +kernel
theorem dX11_house_1 : decode cX11_house 1 = .ok (.iconst 0, 1) := by decide +kernel
theorem dX11_house_2 : decode cX11_house 2 = .ok (.putfield 90, 3) := by decide +kernel
theorem dX11_house_5 : decode cX11_house 5 = .ok (.aload_n 0, 1) := by decide +kernel
theorem dX11_house_6 : decode cX11_house 6 = .ok (.iload_n 1, 1) := by decide +kernel
theorem dX11_house_7 : decode cX11_house 7 = .ok (.invokevirtual 287, 3) := by decide +kernel
theorem dX11_house_10 : decode cX11_house 10 = .ok (.ifCond .eq 28, 3) := by decide +kernel
theorem dX11_house_13 : decode cX11_house 13 = .ok (.aload_n 0, 1) := by decide +kernel
theorem dX11_house_14 : decode cX11_house 14 = .ok (.iload_n 2, 1) := by decide +kernel
theorem dX11_house_15 : decode cX11_house 15 = .ok (.invokevirtual 290, 3) := by decide +kernel
theorem dX11_house_18 : decode cX11_house 18 = .ok (.ifCond .eq 20, 3) := by decide +kernel
theorem dX11_house_21 : decode cX11_house 21 = .ok (.iload_n 3, 1) := by decide +kernel
theorem dX11_house_22 : decode cX11_house 22 = .ok (.invokestatic 293, 3) := by decide +kernel
theorem dX11_house_25 : decode cX11_house 25 = .ok (.ifCond .eq 13, 3) := by decide +kernel
theorem dX11_house_28 : decode cX11_house 28 = .ok (.iload 4, 2) := by decide +kernel
theorem dX11_house_30 : decode cX11_house 30 = .ok (.iconst 0, 1) := by decide +kernel
theorem dX11_house_31 : decode cX11_house 31 = .ok (.iconst 3, 1) := by decide +kernel
theorem dX11_house_32 : decode cX11_house 32 = .ok (.invokestatic 98, 3) := by decide +kernel
theorem dX11_house_35 : decode cX11_house 35 = .ok (.ifCond .ne 5, 3) := by decide +kernel
theorem dX11_house_38 : decode cX11_house 38 = .ok (.iconst (-1), 1) := by decide +kernel
theorem dX11_house_39 : decode cX11_house 39 = .ok (.ireturn, 1) := by decide +kernel
theorem dX11_house_40 : decode cX11_house 40 = .ok (.iload 4, 2) := by decide +kernel
theorem dX11_house_42 : decode cX11_house 42 = .ok (.iconst 2, 1) := by decide +kernel
theorem dX11_house_43 : decode cX11_house 43 = .ok (.if_icmp .ne 12, 3) := by decide +kernel
theorem dX11_house_46 : decode cX11_house 46 = .ok (.aload_n 0, 1) := by decide +kernel
theorem dX11_house_47 : decode cX11_house 47 = .ok (.iload_n 2, 1) := by decide +kernel
theorem dX11_house_48 : decode cX11_house 48 = .ok (.iload_n 3, 1) := by decide +kernel
theorem dX11_house_49 : decode cX11_house 49 = .ok (.invokevirtual 299, 3) := by decide +kernel
theorem dX11_house_52 : decode cX11_house 52 = .ok (.goto 39, 3) := by decide +kernel
theorem dX11_house_55 : decode cX11_house 55 = .ok (.iload 4, 2) := by decide +kernel
theorem dX11_house_57 : decode cX11_house 57 = .ok (.iconst 3, 1) := by decide +kernel
theorem dX11_house_58 : decode cX11_house 58 = .ok (.if_icmp .ne 12, 3) := by decide +kernel
theorem dX11_house_61 : decode cX11_house 61 = .ok (.aload_n 0, 1) := by decide +kernel
theorem dX11_house_62 : decode cX11_house 62 = .ok (.iload_n 2, 1) := by decide +kernel
theorem dX11_house_63 : decode cX11_house 63 = .ok (.iload_n 3, 1) := by decide +kernel
theorem dX11_house_64 : decode cX11_house 64 = .ok (.invokevirtual 302, 3) := by decide +kernel
theorem dX11_house_67 : decode cX11_house 67 = .ok (.goto 24, 3) := by decide +kernel
theorem dX11_house_70 : decode cX11_house 70 = .ok (.aload_n 0, 1) := by decide +kernel
theorem dX11_house_71 : decode cX11_house 71 = .ok (.iload 4, 2) := by decide +kernel
theorem dX11_house_73 : decode cX11_house 73 = .ok (.ifCond .ne 7, 3) := by decide +kernel
theorem dX11_house_76 : decode cX11_house 76 = .ok (.iconst 2, 1) := by decide +kernel
theorem dX11_house_77 : decode cX11_house 77 = .ok (.goto 5, 3) := by decide +kernel
theorem dX11_house_80 : decode cX11_house 80 = .ok (.bipush 32, 2) := by decide +kernel
theorem dX11_house_82 : decode cX11_house 82 = .ok (.iconst 5, 1) := by decide +kernel
theorem dX11_house_83 : decode cX11_house 83 = .ok (.iload_n 2, 1) := by decide +kernel
theorem dX11_house_84 : decode cX11_house 84 = .ok (.imul, 1) := by decide +kernel
theorem dX11_house_85 : decode cX11_house 85 = .ok (.iadd, 1) := by decide +kernel
theorem dX11_house_86 : decode cX11_house 86 = .ok (.iload_n 3, 1) := by decide +kernel
theorem dX11_house_87 : decode cX11_house 87 = .ok (.iadd, 1) := by decide +kernel
theorem dX11_house_88 : decode cX11_house 88 = .ok (.invokevirtual 277, 3) := by decide +kernel
theorem dX11_house_91 : decode cX11_house 91 = .ok (.ireturn, 1) := by decide +kernel
abbrev mX11_house : MI := (yX11_house, cX11_house, 5, (some .int), noE)
theorem okX11_house : cok mX11_house 4 := ⟨tw1522, tw11, by decide, by decide, by decide, by decide +kernel⟩
def fX11_house (M : Mem) (a0 a1 a2 a3 a4 : Int) : Option (Int × Mem) :=
  if M.2.1 a0 = 10 then bM (mst M a0 0 0) fun M2 => (fX11_hand M2 a0 a1).bind fun r4 => if r4.1 = 0 then (some ((-1), r4.2)) else (if r4.2.2.1 a0 = 10 then (fX11_isHouse r4.2 a0 a2).bind fun r7 => if r7 = 0 then (some ((-1), r4.2)) else ((fX11_isGood r4.2 a3).bind fun r11 => if r11 = 0 then (some ((-1), r4.2)) else ((fX11_in r4.2 a4 0 3).bind fun r14 => if r14 = 0 then (some ((-1), r4.2)) else (if a4 = 2 then ((fX11_spare r4.2 a0 a2 a3).bind fun r18 => some (r18, r4.2)) else (if a4 = 3 then ((fX11_lacks r4.2 a0 a2 a3).bind fun r21 => some (r21, r4.2)) else (jn (fun (t24 : Int) => (fX11_of r4.2 a0 (w32 ((w32 (t24 + (w32 (5 * a2)))) + a3))).bind fun r25 => some (r25, r4.2)) (fun (j23 : Int → Option (Int × Mem)) => if a4 = 0 then (j23 2) else (j23 32))))))) else none) else none
set_option maxRecDepth 100000 in
set_option maxHeartbeats 4000000 in
theorem kX11_house (d : Nat) (hd : 3 ≤ d) (M : Mem) (a0 a1 a2 a3 a4 : Int) : Ct mX11_house d 0 0 [pA a0, pI a1, pI a2, pI a3, pI a4] M dIM (fX11_house M a0 a1 a2 a3 a4) := by
  obtain ⟨d, rfl⟩ : ∃ k, d = k + 1 := ⟨d - 1, by omega⟩
  refine Ct.of 0 (fun _ _ _ => trivial) (by decide +kernel) rfl ?_
  unfold fX11_house
  refine v_aload_n dX11_house_0 rfl ?_
  refine v_iconst dX11_house_1 (by decide) ?_
  refine v_if (fun h1 => ?_)
  refine v_put (x := 0) 10 0 rfl inX11 (by decide) tw1193 (Or.inl rfl) rfl dX11_house_2 h1 rfl id ?_
  refine v_bM (fun M2 e3 => ?_)
  refine v_aload_n dX11_house_5 rfl ?_
  refine v_iload_n dX11_house_6 rfl ?_
  refine v_cV (mi := mX11_house) (c0 := 0) (c1 := 0) (As := [pI a1]) (st := []) (kX11_hand d (by omega) _ _ _) rfl (by rw [e3]; exact h1) rfl okX11_hand (Or.inl tw1500) tw1502 tp54 rfl (Nat.le_of_ble_eq_true rfl) dX11_house_7 (fun r4 => [pI r4.1]) (fun r4 => r4.2) (fun _ => rfl) (fun _ => rfl) (fun r4 h5 => ?_) rfl
  refine v_if_eq (tgt := 38) dX11_house_10 (by decide) (fun c6 => ?_) (fun c6 => ?_)
  · refine v_iconst dX11_house_38 (by decide) ?_
    exact v_ireturn dX11_house_39 rfl rfl
  · refine v_aload_n dX11_house_13 rfl ?_
    refine v_iload_n dX11_house_14 rfl ?_
    refine v_if (fun h9 => ?_)
    refine v_cV (mi := mX11_house) (c0 := 0) (c1 := 0) (As := [pI a2]) (st := []) (kX11_isHouse d (by omega) _ _ _) rfl h9 rfl okX11_isHouse (Or.inl tw1508) tw1510 tp56 rfl (Nat.le_of_ble_eq_true rfl) dX11_house_15 (fun r7 => [pI r7]) (fun r7 => r4.2) (fun _ => rfl) (fun _ => rfl) (fun r7 h8 => ?_) rfl
    refine v_if_eq (tgt := 38) dX11_house_18 (by decide) (fun c10 => ?_) (fun c10 => ?_)
    · refine v_iconst dX11_house_38 (by decide) ?_
      exact v_ireturn dX11_house_39 rfl rfl
    · refine v_iload_n dX11_house_21 rfl ?_
      refine v_cS (mi := mX11_house) (c0 := 0) (c1 := 0) (As := [pI a3]) (st := []) (kX11_isGood d (by omega) _ _) okX11_isGood (Or.inl tw1512) tw1513 rfl (Nat.le_of_ble_eq_true rfl) dX11_house_22 (fun r11 => [pI r11]) (fun r11 => r4.2) (fun _ => rfl) (fun _ => rfl) (fun r11 h12 => ?_) rfl
      refine v_if_eq (tgt := 38) dX11_house_25 (by decide) (fun c13 => ?_) (fun c13 => ?_)
      · refine v_iconst dX11_house_38 (by decide) ?_
        exact v_ireturn dX11_house_39 rfl rfl
      · refine v_iload dX11_house_28 rfl ?_
        refine v_iconst dX11_house_30 (by decide) ?_
        refine v_iconst dX11_house_31 (by decide) ?_
        refine v_cS (mi := mX11_house) (c0 := 0) (c1 := 0) (As := [pI a4, pI 0, pI 3]) (st := []) (kX11_in d (by omega) _ _ _ _) okX11_in (Or.inl tw1360) tw1361 rfl (Nat.le_of_ble_eq_true rfl) dX11_house_32 (fun r14 => [pI r14]) (fun r14 => r4.2) (fun _ => rfl) (fun _ => rfl) (fun r14 h15 => ?_) rfl
        refine v_if_ne (tgt := 40) dX11_house_35 (by decide) (fun c16 => ?_) (fun c16 => ?_)
        · refine v_iconst dX11_house_38 (by decide) ?_
          exact v_ireturn dX11_house_39 rfl rfl
        · refine v_iload dX11_house_40 rfl ?_
          refine v_iconst dX11_house_42 (by decide) ?_
          refine v_icmp_ne (tgt := 55) dX11_house_43 (by decide) (fun c17 => ?_) (fun c17 => ?_)
          · refine v_aload_n dX11_house_46 rfl ?_
            refine v_iload_n dX11_house_47 rfl ?_
            refine v_iload_n dX11_house_48 rfl ?_
            refine v_cV (mi := mX11_house) (c0 := 0) (c1 := 0) (As := [pI a2, pI a3]) (st := []) (kX11_spare d (by omega) _ _ _ _) rfl h9 rfl okX11_spare (Or.inl tw1523) tw1525 tp58 rfl (Nat.le_of_ble_eq_true rfl) dX11_house_49 (fun r18 => [pI r18]) (fun r18 => r4.2) (fun _ => rfl) (fun _ => rfl) (fun r18 h19 => ?_) rfl
            refine v_goto (tgt := 91) dX11_house_52 (by decide) ?_
            exact v_ireturn dX11_house_91 rfl rfl
          · refine v_iload dX11_house_55 rfl ?_
            refine v_iconst dX11_house_57 (by decide) ?_
            refine v_icmp_ne (tgt := 70) dX11_house_58 (by decide) (fun c20 => ?_) (fun c20 => ?_)
            · refine v_aload_n dX11_house_61 rfl ?_
              refine v_iload_n dX11_house_62 rfl ?_
              refine v_iload_n dX11_house_63 rfl ?_
              refine v_cV (mi := mX11_house) (c0 := 0) (c1 := 0) (As := [pI a2, pI a3]) (st := []) (kX11_lacks d (by omega) _ _ _ _) rfl h9 rfl okX11_lacks (Or.inl tw1527) tw1529 tp59 rfl (Nat.le_of_ble_eq_true rfl) dX11_house_64 (fun r21 => [pI r21]) (fun r21 => r4.2) (fun _ => rfl) (fun _ => rfl) (fun r21 h22 => ?_) rfl
              refine v_goto (tgt := 91) dX11_house_67 (by decide) ?_
              exact v_ireturn dX11_house_91 rfl rfl
            · refine v_aload_n dX11_house_70 rfl ?_
              refine v_iload dX11_house_71 rfl ?_
              refine v_join (fun (t24 : Int) => [none, none, some (pI a2), some (pI a3), none]) (fun (t24 : Int) => [pI t24, pA a0]) (fun (t24 : Int) => r4.2) 82 (fun t24 => ?_) (fun j23 hj23 => ?_)
              · refine v_iconst dX11_house_82 (by decide) ?_
                refine v_iload_n dX11_house_83 rfl ?_
                refine v_imul dX11_house_84 ?_
                refine v_iadd dX11_house_85 ?_
                refine v_iload_n dX11_house_86 rfl ?_
                refine v_iadd dX11_house_87 ?_
                refine v_cV (mi := mX11_house) (c0 := 0) (c1 := 0) (As := [pI (w32 ((w32 (t24 + (w32 (5 * a2)))) + a3))]) (st := []) (kX11_of d (by omega) _ _ _) rfl h9 rfl okX11_of (Or.inl tw1504) tw1506 tp55 rfl (Nat.le_of_ble_eq_true rfl) dX11_house_88 (fun r25 => [pI r25]) (fun r25 => r4.2) (fun _ => rfl) (fun _ => rfl) (fun r25 h26 => ?_) rfl
                exact v_ireturn dX11_house_91 rfl rfl
              · refine v_if_ne (tgt := 80) dX11_house_73 (by decide) (fun c27 => ?_) (fun c27 => ?_)
                · refine v_iconst dX11_house_76 (by decide) ?_
                  refine v_goto (tgt := 82) dX11_house_77 (by decide) ?_
                  exact v_drop [none, none, some (pI a2), some (pI a3), none] (ls_n (ls_n (ls_s (ls_s (ls_n ls_e))))) (hj23 2)
                · refine v_bipush dX11_house_80 (by decide) ?_
                  exact v_drop [none, none, some (pI a2), some (pI a3), none] (ls_n (ls_n (ls_s (ls_s (ls_n ls_e))))) (hj23 32)
theorem dX11_lawOf_0 : decode cX11_lawOf 0 = .ok (.aload_n 0, 1) := by decide +kernel
theorem dX11_lawOf_1 : decode cX11_lawOf 1 = .ok (.getfield 29, 3) := by decide +kernel
theorem dX11_lawOf_4 : decode cX11_lawOf 4 = .ok (.iconst 3, 1) := by decide +kernel
theorem dX11_lawOf_5 : decode cX11_lawOf 5 = .ok (.aload_n 0, 1) := by decide +kernel
theorem dX11_lawOf_6 : decode cX11_lawOf 6 = .ok (.getfield 305, 3) := by decide +kernel
theorem dX11_lawOf_9 : decode cX11_lawOf 9 = .ok (.imul, 1) := by decide +kernel
theorem dX11_lawOf_10 : decode cX11_lawOf 10 = .ok (.iload_n 1, 1) := by decide +kernel
theorem dX11_lawOf_11 : decode cX11_lawOf 11 = .ok (.iadd, 1) := by decide +kernel
theorem dX11_lawOf_12 : decode cX11_lawOf 12 = .ok (.iaload, 1) := by decide +kernel
theorem dX11_lawOf_13 : decode cX11_lawOf 13 = .ok (.ireturn, 1) := by decide +kernel
abbrev mX11_lawOf : MI := (yX11_lawOf, cX11_lawOf, 2, (some .int), noE)
theorem okX11_lawOf : cok mX11_lawOf 1 := ⟨tw1542, tw11, by decide, by decide, by decide, by decide +kernel⟩
def fX11_lawOf (M : Mem) (a0 a1 : Int) : Option Int :=
  if M.2.1 a0 = 10 then if M.2.1 (M.1 a0 7) = 12 ∧ (0 : Int) ≤ (w32 ((w32 (3 * (M.1 a0 27))) + a1)) ∧ (w32 ((w32 (3 * (M.1 a0 27))) + a1)) < M.2.2.1 (M.1 a0 7) then some (M.1 (M.1 a0 7) (w32 ((w32 (3 * (M.1 a0 27))) + a1))) else none else none
set_option maxRecDepth 100000 in
set_option maxHeartbeats 4000000 in
theorem kX11_lawOf (d : Nat) (hd : 0 ≤ d) (M : Mem) (a0 a1 : Int) : Ct mX11_lawOf d 0 0 [pA a0, pI a1] M (dI M) (fX11_lawOf M a0 a1) := by
  refine Ct.of 0 (fun _ _ _ => trivial) (by decide +kernel) rfl ?_
  unfold fX11_lawOf
  refine v_aload_n dX11_lawOf_0 rfl ?_
  refine v_if (fun h1 => ?_)
  refine v_get (v := pA (M.1 a0 7)) 10 7 rfl inX11 (by decide) tw1200 dX11_lawOf_1 h1 rfl ?_
  refine v_iconst dX11_lawOf_4 (by decide) ?_
  refine v_aload_n dX11_lawOf_5 rfl ?_
  refine v_get (v := pI (M.1 a0 27)) 10 27 rfl inX11 (by decide) tw1220 dX11_lawOf_6 h1 rfl ?_
  refine v_imul dX11_lawOf_9 ?_
  refine v_iload_n dX11_lawOf_10 rfl ?_
  refine v_iadd dX11_lawOf_11 ?_
  refine v_if (fun h2 => ?_)
  refine v_iaload h2 dX11_lawOf_12 ?_
  exact v_ireturn dX11_lawOf_13 rfl rfl
theorem dX11_hasLaw_0 : decode cX11_hasLaw 0 = .ok (.aload_n 0, 1) := by decide +kernel
theorem dX11_hasLaw_1 : decode cX11_hasLaw 1 = .ok (.iload_n 1, 1) := by decide +kernel
theorem dX11_hasLaw_2 : decode cX11_hasLaw 2 = .ok (.putfield 305, 3) := by decide +kernel
theorem dX11_hasLaw_5 : decode cX11_hasLaw 5 = .ok (.aload_n 0, 1) := by decide +kernel
theorem dX11_hasLaw_6 : decode cX11_hasLaw 6 = .ok (.iconst 1, 1) := by decide +kernel
theorem dX11_hasLaw_7 : decode cX11_hasLaw 7 = .ok (.iload_n 1, 1) := by decide +kernel
theorem dX11_hasLaw_8 : decode cX11_hasLaw 8 = .ok (.invokevirtual 264, 3) := by decide +kernel
theorem dX11_hasLaw_11 : decode cX11_hasLaw 11 = .ok (.ireturn, 1) := by decide +kernel
abbrev mX11_hasLaw : MI := (yX11_hasLaw, cX11_hasLaw, 2, (some .boolean), noE)
theorem okX11_hasLaw : cok mX11_hasLaw 1 := ⟨tw1538, tw11, by decide, by decide, by decide, by decide +kernel⟩
def fX11_hasLaw (M : Mem) (a0 a1 : Int) : Option (Int × Mem) :=
  if M.2.1 a0 = 10 then bM (mst M a0 27 a1) fun M2 => (fX11_is M2 a0 1 a1).bind fun r4 => if r4 = 0 ∨ r4 = 1 then some (r4, M2) else none else none
set_option maxRecDepth 100000 in
set_option maxHeartbeats 4000000 in
theorem kX11_hasLaw (d : Nat) (hd : 2 ≤ d) (M : Mem) (a0 a1 : Int) : Ct mX11_hasLaw d 0 0 [pA a0, pI a1] M dIM (fX11_hasLaw M a0 a1) := by
  obtain ⟨d, rfl⟩ : ∃ k, d = k + 1 := ⟨d - 1, by omega⟩
  refine Ct.of 0 (fun _ _ _ => trivial) (by decide +kernel) rfl ?_
  unfold fX11_hasLaw
  refine v_aload_n dX11_hasLaw_0 rfl ?_
  refine v_iload_n dX11_hasLaw_1 rfl ?_
  refine v_if (fun h1 => ?_)
  refine v_put (x := a1) 10 27 rfl inX11 (by decide) tw1220 (Or.inl rfl) rfl dX11_hasLaw_2 h1 rfl id ?_
  refine v_bM (fun M2 e3 => ?_)
  refine v_aload_n dX11_hasLaw_5 rfl ?_
  refine v_iconst dX11_hasLaw_6 (by decide) ?_
  refine v_iload_n dX11_hasLaw_7 rfl ?_
  refine v_cV (mi := mX11_hasLaw) (c0 := 0) (c1 := 0) (As := [pI 1, pI a1]) (st := []) (kX11_is d (by omega) _ _ _ _) rfl (by rw [e3]; exact h1) rfl okX11_is (Or.inl tw1367) tw1369 tp28 rfl (Nat.le_of_ble_eq_true rfl) dX11_hasLaw_8 (fun r4 => [pI r4]) (fun r4 => M2) (fun _ => rfl) (fun _ => rfl) (fun r4 h5 => ?_) rfl
  refine v_if (fun h6 => ?_)
  exact v_breturn dX11_hasLaw_11 rfl h6 rfl
theorem dX11_isDouble_0 : decode cX11_isDouble 0 = .ok (.iload_n 1, 1) := by decide +kernel
theorem dX11_isDouble_1 : decode cX11_isDouble 1 = .ok (.iconst 0, 1) := by decide +kernel
theorem dX11_isDouble_2 : decode cX11_isDouble 2 = .ok (.bipush 19, 2) := by decide +kernel
theorem dX11_isDouble_4 : decode cX11_isDouble 4 = .ok (.invokestatic 98, 3) := by decide +kernel
theorem dX11_isDouble_7 : decode cX11_isDouble 7 = .ok (.ifCond .eq 19, 3) := by decide +kernel
theorem dX11_isDouble_10 : decode cX11_isDouble 10 = .ok (.aload_n 0, 1) := by decide +kernel
theorem dX11_isDouble_11 : decode cX11_isDouble 11 = .ok (.iconst 2, 1) := by decide +kernel
theorem dX11_isDouble_12 : decode cX11_isDouble 12 = .ok (.invokevirtual 308, 3) := by decide +kernel
theorem dX11_isDouble_15 : decode cX11_isDouble 15 = .ok (.iload_n 1, 1) := by decide +kernel
theorem dX11_isDouble_16 : decode cX11_isDouble 16 = .ok (.invokestatic 311, 3) := by decide +kernel
theorem dX11_isDouble_19 : decode cX11_isDouble 19 = .ok (.ifCond .eq 7, 3) := by decide +kernel
theorem dX11_isDouble_22 : decode cX11_isDouble 22 = .ok (.iconst 1, 1) := by decide +kernel
theorem dX11_isDouble_23 : decode cX11_isDouble 23 = .ok (.goto 4, 3) := by decide +kernel
theorem dX11_isDouble_26 : decode cX11_isDouble 26 = .ok (.iconst 0, 1) := by decide +kernel
theorem dX11_isDouble_27 : decode cX11_isDouble 27 = .ok (.ireturn, 1) := by decide +kernel
abbrev mX11_isDouble : MI := (yX11_isDouble, cX11_isDouble, 2, (some .boolean), noE)
theorem okX11_isDouble : cok mX11_isDouble 1 := ⟨tw1546, tw11, by decide, by decide, by decide, by decide +kernel⟩
def fX11_isDouble (M : Mem) (a0 a1 : Int) : Option Int :=
  (fX11_in M a1 0 19).bind fun r1 => if r1 = 0 then (some 0) else (if M.2.1 a0 = 10 then (fX11_lawOf M a0 2).bind fun r4 => (fX11_has M r4 a1).bind fun r7 => if r7 = 0 then (some 0) else (some 1) else none)
set_option maxRecDepth 100000 in
set_option maxHeartbeats 4000000 in
theorem kX11_isDouble (d : Nat) (hd : 1 ≤ d) (M : Mem) (a0 a1 : Int) : Ct mX11_isDouble d 0 0 [pA a0, pI a1] M (dI M) (fX11_isDouble M a0 a1) := by
  obtain ⟨d, rfl⟩ : ∃ k, d = k + 1 := ⟨d - 1, by omega⟩
  refine Ct.of 0 (fun _ _ _ => trivial) (by decide +kernel) rfl ?_
  unfold fX11_isDouble
  refine v_iload_n dX11_isDouble_0 rfl ?_
  refine v_iconst dX11_isDouble_1 (by decide) ?_
  refine v_bipush dX11_isDouble_2 (by decide) ?_
  refine v_cS (mi := mX11_isDouble) (c0 := 0) (c1 := 0) (As := [pI a1, pI 0, pI 19]) (st := []) (kX11_in d (by omega) _ _ _ _) okX11_in (Or.inl tw1360) tw1361 rfl (Nat.le_of_ble_eq_true rfl) dX11_isDouble_4 (fun r1 => [pI r1]) (fun r1 => M) (fun _ => rfl) (fun _ => rfl) (fun r1 h2 => ?_) rfl
  refine v_if_eq (tgt := 26) dX11_isDouble_7 (by decide) (fun c3 => ?_) (fun c3 => ?_)
  · refine v_iconst dX11_isDouble_26 (by decide) ?_
    exact v_breturn dX11_isDouble_27 rfl (by decide) rfl
  · refine v_aload_n dX11_isDouble_10 rfl ?_
    refine v_iconst dX11_isDouble_11 (by decide) ?_
    refine v_if (fun h6 => ?_)
    refine v_cV (mi := mX11_isDouble) (c0 := 0) (c1 := 0) (As := [pI 2]) (st := []) (kX11_lawOf d (by omega) _ _ _) rfl h6 rfl okX11_lawOf (Or.inl tw1539) tw1541 tp61 rfl (Nat.le_of_ble_eq_true rfl) dX11_isDouble_12 (fun r4 => [pI r4]) (fun r4 => M) (fun _ => rfl) (fun _ => rfl) (fun r4 h5 => ?_) rfl
    refine v_iload_n dX11_isDouble_15 rfl ?_
    refine v_cS (mi := mX11_isDouble) (c0 := 0) (c1 := 0) (As := [pI r4, pI a1]) (st := []) (kX11_has d (by omega) _ _ _) okX11_has (Or.inl tw1547) tw1548 rfl (Nat.le_of_ble_eq_true rfl) dX11_isDouble_16 (fun r7 => [pI r7]) (fun r7 => M) (fun _ => rfl) (fun _ => rfl) (fun r7 h8 => ?_) rfl
    refine v_if_eq (tgt := 26) dX11_isDouble_19 (by decide) (fun c9 => ?_) (fun c9 => ?_)
    · refine v_iconst dX11_isDouble_26 (by decide) ?_
      exact v_breturn dX11_isDouble_27 rfl (by decide) rfl
    · refine v_iconst dX11_isDouble_22 (by decide) ?_
      refine v_goto (tgt := 27) dX11_isDouble_23 (by decide) ?_
      exact v_breturn dX11_isDouble_27 rfl (by decide) rfl
theorem dX11_law_0 : decode cX11_law 0 = .ok (.aload_n 0, 1) := by decide +kernel
theorem dX11_law_1 : decode cX11_law 1 = .ok (.iconst 0, 1) := by decide +kernel
theorem dX11_law_2 : decode cX11_law 2 = .ok (.putfield 90, 3) := by decide +kernel
theorem dX11_law_5 : decode cX11_law 5 = .ok (.aload_n 0, 1) := by decide +kernel
theorem dX11_law_6 : decode cX11_law 6 = .ok (.iload_n 1, 1) := by decide +kernel
theorem dX11_law_7 : decode cX11_law 7 = .ok (.invokevirtual 314, 3) := by decide +kernel
theorem dX11_law_10 : decode cX11_law 10 = .ok (.ifCond .ne 5, 3) := by decide +kernel
theorem dX11_law_13 : decode cX11_law 13 = .ok (.iconst (-1), 1) := by decide +kernel
theorem dX11_law_14 : decode cX11_law 14 = .ok (.ireturn, 1) := by decide +kernel
theorem dX11_law_15 : decode cX11_law 15 = .ok (.iload_n 2, 1) := by decide +kernel
theorem dX11_law_16 : decode cX11_law 16 = .ok (.iconst 0, 1) := by decide +kernel
theorem dX11_law_17 : decode cX11_law 17 = .ok (.iconst 1, 1) := by decide +kernel
theorem dX11_law_18 : decode cX11_law 18 = .ok (.invokestatic 98, 3) := by decide +kernel
theorem dX11_law_21 : decode cX11_law 21 = .ok (.ifCond .eq 11, 3) := by decide +kernel
theorem dX11_law_24 : decode cX11_law 24 = .ok (.aload_n 0, 1) := by decide +kernel
theorem dX11_law_25 : decode cX11_law 25 = .ok (.iload_n 2, 1) := by decide +kernel
theorem dX11_law_26 : decode cX11_law 26 = .ok (.invokevirtual 308, 3) := by decide +kernel
theorem dX11_law_29 : decode cX11_law 29 = .ok (.goto 34, 3) := by decide +kernel
theorem dX11_law_32 : decode cX11_law 32 = .ok (.iload_n 2, 1) := by decide +kernel
theorem dX11_law_33 : decode cX11_law 33 = .ok (.bipush 10, 2) := by decide +kernel
theorem dX11_law_35 : decode cX11_law 35 = .ok (.bipush 29, 2) := by decide +kernel
theorem dX11_law_37 : decode cX11_law 37 = .ok (.invokestatic 98, 3) := by decide +kernel
theorem dX11_law_40 : decode cX11_law 40 = .ok (.ifCond .eq 22, 3) := by decide +kernel
theorem dX11_law_43 : decode cX11_law 43 = .ok (.aload_n 0, 1) := by decide +kernel
theorem dX11_law_44 : decode cX11_law 44 = .ok (.iload_n 2, 1) := by decide +kernel
theorem dX11_law_45 : decode cX11_law 45 = .ok (.bipush 10, 2) := by decide +kernel
theorem dX11_law_47 : decode cX11_law 47 = .ok (.isub, 1) := by decide +kernel
theorem dX11_law_48 : decode cX11_law 48 = .ok (.invokevirtual 317, 3) := by decide +kernel
theorem dX11_law_51 : decode cX11_law 51 = .ok (.ifCond .eq 7, 3) := by decide +kernel
theorem dX11_law_54 : decode cX11_law 54 = .ok (.iconst 1, 1) := by decide +kernel
theorem dX11_law_55 : decode cX11_law 55 = .ok (.goto 8, 3) := by decide +kernel
theorem dX11_law_58 : decode cX11_law 58 = .ok (.iconst 0, 1) := by decide +kernel
theorem dX11_law_59 : decode cX11_law 59 = .ok (.goto 4, 3) := by decide +kernel
theorem dX11_law_62 : decode cX11_law 62 = .ok (.iconst (-1), 1) := by decide +kernel
theorem dX11_law_63 : decode cX11_law 63 = .ok (.ireturn, 1) := by decide +kernel
abbrev mX11_law : MI := (yX11_law, cX11_law, 3, (some .int), noE)
theorem okX11_law : cok mX11_law 2 := ⟨tw1534, tw11, by decide, by decide, by decide, by decide +kernel⟩
def fX11_law (M : Mem) (a0 a1 a2 : Int) : Option (Int × Mem) :=
  if M.2.1 a0 = 10 then bM (mst M a0 0 0) fun M2 => (fX11_hasLaw M2 a0 a1).bind fun r4 => if r4.1 = 0 then (some ((-1), r4.2)) else ((fX11_in r4.2 a2 0 1).bind fun r7 => if r7 = 0 then ((fX11_in r4.2 a2 10 29).bind fun r10 => if r10 = 0 then (some ((-1), r4.2)) else (if r4.2.2.1 a0 = 10 then (fX11_isDouble r4.2 a0 (w32 (a2 - 10))).bind fun r13 => if r13 = 0 then (some (0, r4.2)) else (some (1, r4.2)) else none)) else (if r4.2.2.1 a0 = 10 then (fX11_lawOf r4.2 a0 a2).bind fun r17 => some (r17, r4.2) else none)) else none
set_option maxRecDepth 100000 in
set_option maxHeartbeats 4000000 in
theorem kX11_law (d : Nat) (hd : 3 ≤ d) (M : Mem) (a0 a1 a2 : Int) : Ct mX11_law d 0 0 [pA a0, pI a1, pI a2] M dIM (fX11_law M a0 a1 a2) := by
  obtain ⟨d, rfl⟩ : ∃ k, d = k + 1 := ⟨d - 1, by omega⟩
  refine Ct.of 0 (fun _ _ _ => trivial) (by decide +kernel) rfl ?_
  unfold fX11_law
  refine v_aload_n dX11_law_0 rfl ?_
  refine v_iconst dX11_law_1 (by decide) ?_
  refine v_if (fun h1 => ?_)
  refine v_put (x := 0) 10 0 rfl inX11 (by decide) tw1193 (Or.inl rfl) rfl dX11_law_2 h1 rfl id ?_
  refine v_bM (fun M2 e3 => ?_)
  refine v_aload_n dX11_law_5 rfl ?_
  refine v_iload_n dX11_law_6 rfl ?_
  refine v_cV (mi := mX11_law) (c0 := 0) (c1 := 0) (As := [pI a1]) (st := []) (kX11_hasLaw d (by omega) _ _ _) rfl (by rw [e3]; exact h1) rfl okX11_hasLaw (Or.inl tw1535) tw1537 tp60 rfl (Nat.le_of_ble_eq_true rfl) dX11_law_7 (fun r4 => [pI r4.1]) (fun r4 => r4.2) (fun _ => rfl) (fun _ => rfl) (fun r4 h5 => ?_) rfl
  refine v_if_ne (tgt := 15) dX11_law_10 (by decide) (fun c6 => ?_) (fun c6 => ?_)
  · refine v_iconst dX11_law_13 (by decide) ?_
    exact v_ireturn dX11_law_14 rfl rfl
  · refine v_iload_n dX11_law_15 rfl ?_
    refine v_iconst dX11_law_16 (by decide) ?_
    refine v_iconst dX11_law_17 (by decide) ?_
    refine v_cS (mi := mX11_law) (c0 := 0) (c1 := 0) (As := [pI a2, pI 0, pI 1]) (st := []) (kX11_in d (by omega) _ _ _ _) okX11_in (Or.inl tw1360) tw1361 rfl (Nat.le_of_ble_eq_true rfl) dX11_law_18 (fun r7 => [pI r7]) (fun r7 => r4.2) (fun _ => rfl) (fun _ => rfl) (fun r7 h8 => ?_) rfl
    refine v_if_eq (tgt := 32) dX11_law_21 (by decide) (fun c9 => ?_) (fun c9 => ?_)
    · refine v_iload_n dX11_law_32 rfl ?_
      refine v_bipush dX11_law_33 (by decide) ?_
      refine v_bipush dX11_law_35 (by decide) ?_
      refine v_cS (mi := mX11_law) (c0 := 0) (c1 := 0) (As := [pI a2, pI 10, pI 29]) (st := []) (kX11_in d (by omega) _ _ _ _) okX11_in (Or.inl tw1360) tw1361 rfl (Nat.le_of_ble_eq_true rfl) dX11_law_37 (fun r10 => [pI r10]) (fun r10 => r4.2) (fun _ => rfl) (fun _ => rfl) (fun r10 h11 => ?_) rfl
      refine v_if_eq (tgt := 62) dX11_law_40 (by decide) (fun c12 => ?_) (fun c12 => ?_)
      · refine v_iconst dX11_law_62 (by decide) ?_
        exact v_ireturn dX11_law_63 rfl rfl
      · refine v_aload_n dX11_law_43 rfl ?_
        refine v_iload_n dX11_law_44 rfl ?_
        refine v_bipush dX11_law_45 (by decide) ?_
        refine v_isub dX11_law_47 ?_
        refine v_if (fun h15 => ?_)
        refine v_cV (mi := mX11_law) (c0 := 0) (c1 := 0) (As := [pI (w32 (a2 - 10))]) (st := []) (kX11_isDouble d (by omega) _ _ _) rfl h15 rfl okX11_isDouble (Or.inl tw1543) tw1545 tp62 rfl (Nat.le_of_ble_eq_true rfl) dX11_law_48 (fun r13 => [pI r13]) (fun r13 => r4.2) (fun _ => rfl) (fun _ => rfl) (fun r13 h14 => ?_) rfl
        refine v_if_eq (tgt := 58) dX11_law_51 (by decide) (fun c16 => ?_) (fun c16 => ?_)
        · refine v_iconst dX11_law_58 (by decide) ?_
          refine v_goto (tgt := 63) dX11_law_59 (by decide) ?_
          exact v_ireturn dX11_law_63 rfl rfl
        · refine v_iconst dX11_law_54 (by decide) ?_
          refine v_goto (tgt := 63) dX11_law_55 (by decide) ?_
          exact v_ireturn dX11_law_63 rfl rfl
    · refine v_aload_n dX11_law_24 rfl ?_
      refine v_iload_n dX11_law_25 rfl ?_
      refine v_if (fun h19 => ?_)
      refine v_cV (mi := mX11_law) (c0 := 0) (c1 := 0) (As := [pI a2]) (st := []) (kX11_lawOf d (by omega) _ _ _) rfl h19 rfl okX11_lawOf (Or.inl tw1539) tw1541 tp61 rfl (Nat.le_of_ble_eq_true rfl) dX11_law_26 (fun r17 => [pI r17]) (fun r17 => r4.2) (fun _ => rfl) (fun _ => rfl) (fun r17 h18 => ?_) rfl
      refine v_goto (tgt := 63) dX11_law_29 (by decide) ?_
      exact v_ireturn dX11_law_63 rfl rfl
theorem dX11_deeds_0 : decode cX11_deeds 0 = .ok (.aload_n 0, 1) := by decide +kernel
theorem dX11_deeds_1 : decode cX11_deeds 1 = .ok (.getfield 32, 3) := by decide +kernel
theorem dX11_deeds_4 : decode cX11_deeds 4 = .ok (.sipush 161, 3) := by decide +kernel
theorem dX11_deeds_7 : decode cX11_deeds 7 = .ok (.aload_n 0, 1) := by decide +kernel
theorem dX11_deeds_8 : decode cX11_deeds 8 = .ok (.getfield 320, 3) := by decide +kernel
theorem dX11_deeds_11 : decode cX11_deeds 11 = .ok (.imul, 1) := by decide +kernel
theorem dX11_deeds_12 : decode cX11_deeds 12 = .ok (.iaload, 1) := by decide +kernel
theorem dX11_deeds_13 : decode cX11_deeds 13 = .ok (.ireturn, 1) := by decide +kernel
abbrev mX11_deeds : MI := (yX11_deeds, cX11_deeds, 1, (some .int), noE)
theorem okX11_deeds : cok mX11_deeds 0 := ⟨tw1561, tw11, by decide, by decide, by decide, by decide +kernel⟩
def fX11_deeds (M : Mem) (a0 : Int) : Option Int :=
  if M.2.1 a0 = 10 then if M.2.1 (M.1 a0 8) = 12 ∧ (0 : Int) ≤ (w32 (161 * (M.1 a0 28))) ∧ (w32 (161 * (M.1 a0 28))) < M.2.2.1 (M.1 a0 8) then some (M.1 (M.1 a0 8) (w32 (161 * (M.1 a0 28)))) else none else none
set_option maxRecDepth 100000 in
set_option maxHeartbeats 4000000 in
theorem kX11_deeds (d : Nat) (hd : 0 ≤ d) (M : Mem) (a0 : Int) : Ct mX11_deeds d 0 0 [pA a0] M (dI M) (fX11_deeds M a0) := by
  refine Ct.of 0 (fun _ _ _ => trivial) (by decide +kernel) rfl ?_
  unfold fX11_deeds
  refine v_aload_n dX11_deeds_0 rfl ?_
  refine v_if (fun h1 => ?_)
  refine v_get (v := pA (M.1 a0 8)) 10 8 rfl inX11 (by decide) tw1201 dX11_deeds_1 h1 rfl ?_
  refine v_sipush dX11_deeds_4 (by decide) ?_
  refine v_aload_n dX11_deeds_7 rfl ?_
  refine v_get (v := pI (M.1 a0 28)) 10 28 rfl inX11 (by decide) tw1221 dX11_deeds_8 h1 rfl ?_
  refine v_imul dX11_deeds_11 ?_
  refine v_if (fun h2 => ?_)
  refine v_iaload h2 dX11_deeds_12 ?_
  exact v_ireturn dX11_deeds_13 rfl rfl
theorem dX11_deedOf_0 : decode cX11_deedOf 0 = .ok (.aload_n 0, 1) := by decide +kernel
theorem dX11_deedOf_1 : decode cX11_deedOf 1 = .ok (.getfield 32, 3) := by decide +kernel
theorem dX11_deedOf_4 : decode cX11_deedOf 4 = .ok (.sipush 161, 3) := by decide +kernel
theorem dX11_deedOf_7 : decode cX11_deedOf 7 = .ok (.aload_n 0, 1) := by decide +kernel
theorem dX11_deedOf_8 : decode cX11_deedOf 8 = .ok (.getfield 320, 3) := by decide +kernel
theorem dX11_deedOf_11 : decode cX11_deedOf 11 = .ok (.imul, 1) := by decide +kernel
theorem dX11_deedOf_12 : decode cX11_deedOf 12 = .ok (.iconst 1, 1) := by decide +kernel
theorem dX11_deedOf_13 : decode cX11_deedOf 13 = .ok (.iadd, 1) := by decide +kernel
theorem dX11_deedOf_14 : decode cX11_deedOf 14 = .ok (.iconst 4, 1) := by decide +kernel
theorem dX11_deedOf_15 : decode cX11_deedOf 15 = .ok (.iload_n 1, 1) := by decide +kernel
theorem dX11_deedOf_16 : decode cX11_deedOf 16 = .ok (.imul, 1) := by decide +kernel
theorem dX11_deedOf_17 : decode cX11_deedOf 17 = .ok (.iadd, 1) := by decide +kernel
theorem dX11_deedOf_18 : decode cX11_deedOf 18 = .ok (.iload_n 2, 1) := by decide +kernel
theorem dX11_deedOf_19 : decode cX11_deedOf 19 = .ok (.iadd, 1) := by decide +kernel
theorem dX11_deedOf_20 : decode cX11_deedOf 20 = .ok (.iaload, 1) := by decide +kernel
theorem dX11_deedOf_21 : decode cX11_deedOf 21 = .ok (.ireturn, 1) := by decide +kernel
abbrev mX11_deedOf : MI := (yX11_deedOf, cX11_deedOf, 3, (some .int), noE)
theorem okX11_deedOf : cok mX11_deedOf 2 := ⟨tw1565, tw11, by decide, by decide, by decide, by decide +kernel⟩
def fX11_deedOf (M : Mem) (a0 a1 a2 : Int) : Option Int :=
  if M.2.1 a0 = 10 then if M.2.1 (M.1 a0 8) = 12 ∧ (0 : Int) ≤ (w32 ((w32 ((w32 ((w32 (161 * (M.1 a0 28))) + 1)) + (w32 (4 * a1)))) + a2)) ∧ (w32 ((w32 ((w32 ((w32 (161 * (M.1 a0 28))) + 1)) + (w32 (4 * a1)))) + a2)) < M.2.2.1 (M.1 a0 8) then some (M.1 (M.1 a0 8) (w32 ((w32 ((w32 ((w32 (161 * (M.1 a0 28))) + 1)) + (w32 (4 * a1)))) + a2))) else none else none
set_option maxRecDepth 100000 in
set_option maxHeartbeats 4000000 in
theorem kX11_deedOf (d : Nat) (hd : 0 ≤ d) (M : Mem) (a0 a1 a2 : Int) : Ct mX11_deedOf d 0 0 [pA a0, pI a1, pI a2] M (dI M) (fX11_deedOf M a0 a1 a2) := by
  refine Ct.of 0 (fun _ _ _ => trivial) (by decide +kernel) rfl ?_
  unfold fX11_deedOf
  refine v_aload_n dX11_deedOf_0 rfl ?_
  refine v_if (fun h1 => ?_)
  refine v_get (v := pA (M.1 a0 8)) 10 8 rfl inX11 (by decide) tw1201 dX11_deedOf_1 h1 rfl ?_
  refine v_sipush dX11_deedOf_4 (by decide) ?_
  refine v_aload_n dX11_deedOf_7 rfl ?_
  refine v_get (v := pI (M.1 a0 28)) 10 28 rfl inX11 (by decide) tw1221 dX11_deedOf_8 h1 rfl ?_
  refine v_imul dX11_deedOf_11 ?_
  refine v_iconst dX11_deedOf_12 (by decide) ?_
  refine v_iadd dX11_deedOf_13 ?_
  refine v_iconst dX11_deedOf_14 (by decide) ?_
  refine v_iload_n dX11_deedOf_15 rfl ?_
  refine v_imul dX11_deedOf_16 ?_
  refine v_iadd dX11_deedOf_17 ?_
  refine v_iload_n dX11_deedOf_18 rfl ?_
  refine v_iadd dX11_deedOf_19 ?_
  refine v_if (fun h2 => ?_)
  refine v_iaload h2 dX11_deedOf_20 ?_
  exact v_ireturn dX11_deedOf_21 rfl rfl
theorem dX11_hasNights_0 : decode cX11_hasNights 0 = .ok (.aload_n 0, 1) := by decide +kernel
theorem dX11_hasNights_1 : decode cX11_hasNights 1 = .ok (.iload_n 1, 1) := by decide +kernel
theorem dX11_hasNights_2 : decode cX11_hasNights 2 = .ok (.putfield 320, 3) := by decide +kernel
theorem dX11_hasNights_5 : decode cX11_hasNights 5 = .ok (.aload_n 0, 1) := by decide +kernel
theorem dX11_hasNights_6 : decode cX11_hasNights 6 = .ok (.iconst 2, 1) := by decide +kernel
theorem dX11_hasNights_7 : decode cX11_hasNights 7 = .ok (.iload_n 1, 1) := by decide +kernel
theorem dX11_hasNights_8 : decode cX11_hasNights 8 = .ok (.invokevirtual 264, 3) := by decide +kernel
theorem dX11_hasNights_11 : decode cX11_hasNights 11 = .ok (.ireturn, 1) := by decide +kernel
abbrev mX11_hasNights : MI := (yX11_hasNights, cX11_hasNights, 2, (some .boolean), noE)
theorem okX11_hasNights : cok mX11_hasNights 1 := ⟨tw1557, tw11, by decide, by decide, by decide, by decide +kernel⟩
def fX11_hasNights (M : Mem) (a0 a1 : Int) : Option (Int × Mem) :=
  if M.2.1 a0 = 10 then bM (mst M a0 28 a1) fun M2 => (fX11_is M2 a0 2 a1).bind fun r4 => if r4 = 0 ∨ r4 = 1 then some (r4, M2) else none else none
set_option maxRecDepth 100000 in
set_option maxHeartbeats 4000000 in
theorem kX11_hasNights (d : Nat) (hd : 2 ≤ d) (M : Mem) (a0 a1 : Int) : Ct mX11_hasNights d 0 0 [pA a0, pI a1] M dIM (fX11_hasNights M a0 a1) := by
  obtain ⟨d, rfl⟩ : ∃ k, d = k + 1 := ⟨d - 1, by omega⟩
  refine Ct.of 0 (fun _ _ _ => trivial) (by decide +kernel) rfl ?_
  unfold fX11_hasNights
  refine v_aload_n dX11_hasNights_0 rfl ?_
  refine v_iload_n dX11_hasNights_1 rfl ?_
  refine v_if (fun h1 => ?_)
  refine v_put (x := a1) 10 28 rfl inX11 (by decide) tw1221 (Or.inl rfl) rfl dX11_hasNights_2 h1 rfl id ?_
  refine v_bM (fun M2 e3 => ?_)
  refine v_aload_n dX11_hasNights_5 rfl ?_
  refine v_iconst dX11_hasNights_6 (by decide) ?_
  refine v_iload_n dX11_hasNights_7 rfl ?_
  refine v_cV (mi := mX11_hasNights) (c0 := 0) (c1 := 0) (As := [pI 2, pI a1]) (st := []) (kX11_is d (by omega) _ _ _ _) rfl (by rw [e3]; exact h1) rfl okX11_is (Or.inl tw1367) tw1369 tp28 rfl (Nat.le_of_ble_eq_true rfl) dX11_hasNights_8 (fun r4 => [pI r4]) (fun r4 => M2) (fun _ => rfl) (fun _ => rfl) (fun r4 h5 => ?_) rfl
  refine v_if (fun h6 => ?_)
  exact v_breturn dX11_hasNights_11 rfl h6 rfl
theorem dX11_deed_0 : decode cX11_deed 0 = .ok (.aload_n 0, 1) := by decide +kernel
theorem dX11_deed_1 : decode cX11_deed 1 = .ok (.iconst 0, 1) := by decide +kernel
theorem dX11_deed_2 : decode cX11_deed 2 = .ok (.putfield 90, 3) := by decide +kernel
theorem dX11_deed_5 : decode cX11_deed 5 = .ok (.aload_n 0, 1) := by decide +kernel
theorem dX11_deed_6 : decode cX11_deed 6 = .ok (.iload_n 1, 1) := by decide +kernel
theorem dX11_deed_7 : decode cX11_deed 7 = .ok (.invokevirtual 323, 3) := by decide +kernel
theorem dX11_deed_10 : decode cX11_deed 10 = .ok (.ifCond .ne 6, 3) := by decide +kernel
theorem dX11_deed_13 : decode cX11_deed 13 = .ok (.bipush (-2), 2) := by decide +kernel
theorem dX11_deed_15 : decode cX11_deed 15 = .ok (.ireturn, 1) := by decide +kernel
theorem dX11_deed_16 : decode cX11_deed 16 = .ok (.iload_n 2, 1) := by decide +kernel
theorem dX11_deed_17 : decode cX11_deed 17 = .ok (.iconst (-1), 1) := by decide +kernel
theorem dX11_deed_18 : decode cX11_deed 18 = .ok (.if_icmp .ne 17, 3) := by decide +kernel
theorem dX11_deed_21 : decode cX11_deed 21 = .ok (.iload_n 3, 1) := by decide +kernel
theorem dX11_deed_22 : decode cX11_deed 22 = .ok (.ifCond .ne 10, 3) := by decide +kernel
theorem dX11_deed_25 : decode cX11_deed 25 = .ok (.aload_n 0, 1) := by decide +kernel
theorem dX11_deed_26 : decode cX11_deed 26 = .ok (.invokevirtual 326, 3) := by decide +kernel
theorem dX11_deed_29 : decode cX11_deed 29 = .ok (.goto 5, 3) := by decide +kernel
theorem dX11_deed_32 : decode cX11_deed 32 = .ok (.bipush (-2), 2) := by decide +kernel
theorem dX11_deed_34 : decode cX11_deed 34 = .ok (.ireturn, 1) := by decide +kernel
theorem dX11_deed_35 : decode cX11_deed 35 = .ok (.iload_n 2, 1) := by decide +kernel
theorem dX11_deed_36 : decode cX11_deed 36 = .ok (.iconst 0, 1) := by decide +kernel
theorem dX11_deed_37 : decode cX11_deed 37 = .ok (.aload_n 0, 1) := by decide +kernel
theorem dX11_deed_38 : decode cX11_deed 38 = .ok (.invokevirtual 326, 3) := by decide +kernel
theorem dX11_deed_41 : decode cX11_deed 41 = .ok (.iconst 1, 1) := by decide +kernel
theorem dX11_deed_42 : decode cX11_deed 42 = .ok (.isub, 1) := by decide +kernel
theorem dX11_deed_43 : decode cX11_deed 43 = .ok (.invokestatic 98, 3) := by decide +kernel
theorem dX11_deed_46 : decode cX11_deed 46 = .ok (.ifCond .eq 21, 3) := by decide +kernel
theorem dX11_deed_49 : decode cX11_deed 49 = .ok (.iload_n 3, 1) := by decide +kernel
theorem dX11_deed_50 : decode cX11_deed 50 = .ok (.iconst 0, 1) := by decide +kernel
theorem dX11_deed_51 : decode cX11_deed 51 = .ok (.iconst 3, 1) := by decide +kernel
theorem dX11_deed_52 : decode cX11_deed 52 = .ok (.invokestatic 98, 3) := by decide +kernel
theorem dX11_deed_55 : decode cX11_deed 55 = .ok (.ifCond .eq 12, 3) := by decide +kernel
theorem dX11_deed_58 : decode cX11_deed 58 = .ok (.aload_n 0, 1) := by decide +kernel
theorem dX11_deed_59 : decode cX11_deed 59 = .ok (.iload_n 2, 1) := by decide +kernel
theorem dX11_deed_60 : decode cX11_deed 60 = .ok (.iload_n 3, 1) := by decide +kernel
theorem dX11_deed_61 : decode cX11_deed 61 = .ok (.invokevirtual 329, 3) := by decide +kernel
theorem dX11_deed_64 : decode cX11_deed 64 = .ok (.goto 5, 3) := by decide +kernel
theorem dX11_deed_67 : decode cX11_deed 67 = .ok (.bipush (-2), 2) := by decide +kernel
theorem dX11_deed_69 : decode cX11_deed 69 = .ok (.ireturn, 1) := by decide +kernel
abbrev mX11_deed : MI := (yX11_deed, cX11_deed, 4, (some .int), noE)
theorem okX11_deed : cok mX11_deed 3 := ⟨tw1553, tw11, by decide, by decide, by decide, by decide +kernel⟩
def fX11_deed (M : Mem) (a0 a1 a2 a3 : Int) : Option (Int × Mem) :=
  if M.2.1 a0 = 10 then bM (mst M a0 0 0) fun M2 => (fX11_hasNights M2 a0 a1).bind fun r4 => if r4.1 = 0 then (some ((-2), r4.2)) else (if a2 = (-1) then (if a3 = 0 then (if r4.2.2.1 a0 = 10 then (fX11_deeds r4.2 a0).bind fun r9 => some (r9, r4.2) else none) else (some ((-2), r4.2))) else (if r4.2.2.1 a0 = 10 then (fX11_deeds r4.2 a0).bind fun r12 => (fX11_in r4.2 a2 0 (w32 (r12 - 1))).bind fun r15 => if r15 = 0 then (some ((-2), r4.2)) else ((fX11_in r4.2 a3 0 3).bind fun r18 => if r18 = 0 then (some ((-2), r4.2)) else ((fX11_deedOf r4.2 a0 a2 a3).bind fun r21 => some (r21, r4.2))) else none)) else none
set_option maxRecDepth 100000 in
set_option maxHeartbeats 4000000 in
theorem kX11_deed (d : Nat) (hd : 3 ≤ d) (M : Mem) (a0 a1 a2 a3 : Int) : Ct mX11_deed d 0 0 [pA a0, pI a1, pI a2, pI a3] M dIM (fX11_deed M a0 a1 a2 a3) := by
  obtain ⟨d, rfl⟩ : ∃ k, d = k + 1 := ⟨d - 1, by omega⟩
  refine Ct.of 0 (fun _ _ _ => trivial) (by decide +kernel) rfl ?_
  unfold fX11_deed
  refine v_aload_n dX11_deed_0 rfl ?_
  refine v_iconst dX11_deed_1 (by decide) ?_
  refine v_if (fun h1 => ?_)
  refine v_put (x := 0) 10 0 rfl inX11 (by decide) tw1193 (Or.inl rfl) rfl dX11_deed_2 h1 rfl id ?_
  refine v_bM (fun M2 e3 => ?_)
  refine v_aload_n dX11_deed_5 rfl ?_
  refine v_iload_n dX11_deed_6 rfl ?_
  refine v_cV (mi := mX11_deed) (c0 := 0) (c1 := 0) (As := [pI a1]) (st := []) (kX11_hasNights d (by omega) _ _ _) rfl (by rw [e3]; exact h1) rfl okX11_hasNights (Or.inl tw1554) tw1556 tp63 rfl (Nat.le_of_ble_eq_true rfl) dX11_deed_7 (fun r4 => [pI r4.1]) (fun r4 => r4.2) (fun _ => rfl) (fun _ => rfl) (fun r4 h5 => ?_) rfl
  refine v_if_ne (tgt := 16) dX11_deed_10 (by decide) (fun c6 => ?_) (fun c6 => ?_)
  · refine v_bipush dX11_deed_13 (by decide) ?_
    exact v_ireturn dX11_deed_15 rfl rfl
  · refine v_iload_n dX11_deed_16 rfl ?_
    refine v_iconst dX11_deed_17 (by decide) ?_
    refine v_icmp_ne (tgt := 35) dX11_deed_18 (by decide) (fun c7 => ?_) (fun c7 => ?_)
    · refine v_iload_n dX11_deed_21 rfl ?_
      refine v_if_ne (tgt := 32) dX11_deed_22 (by decide) (fun c8 => ?_) (fun c8 => ?_)
      · refine v_aload_n dX11_deed_25 rfl ?_
        refine v_if (fun h11 => ?_)
        refine v_cV (mi := mX11_deed) (c0 := 0) (c1 := 0) (As := []) (st := []) (kX11_deeds d (by omega) _ _) rfl h11 rfl okX11_deeds (Or.inl tw1558) tw1560 tp64 rfl (Nat.le_of_ble_eq_true rfl) dX11_deed_26 (fun r9 => [pI r9]) (fun r9 => r4.2) (fun _ => rfl) (fun _ => rfl) (fun r9 h10 => ?_) rfl
        refine v_goto (tgt := 34) dX11_deed_29 (by decide) ?_
        exact v_ireturn dX11_deed_34 rfl rfl
      · refine v_bipush dX11_deed_32 (by decide) ?_
        exact v_ireturn dX11_deed_34 rfl rfl
    · refine v_iload_n dX11_deed_35 rfl ?_
      refine v_iconst dX11_deed_36 (by decide) ?_
      refine v_aload_n dX11_deed_37 rfl ?_
      refine v_if (fun h14 => ?_)
      refine v_cV (mi := mX11_deed) (c0 := 0) (c1 := 0) (As := []) (st := [pI 0, pI a2]) (kX11_deeds d (by omega) _ _) rfl h14 rfl okX11_deeds (Or.inl tw1558) tw1560 tp64 rfl (Nat.le_of_ble_eq_true rfl) dX11_deed_38 (fun r12 => [pI r12, pI 0, pI a2]) (fun r12 => r4.2) (fun _ => rfl) (fun _ => rfl) (fun r12 h13 => ?_) rfl
      refine v_iconst dX11_deed_41 (by decide) ?_
      refine v_isub dX11_deed_42 ?_
      refine v_cS (mi := mX11_deed) (c0 := 0) (c1 := 0) (As := [pI a2, pI 0, pI (w32 (r12 - 1))]) (st := []) (kX11_in d (by omega) _ _ _ _) okX11_in (Or.inl tw1360) tw1361 rfl (Nat.le_of_ble_eq_true rfl) dX11_deed_43 (fun r15 => [pI r15]) (fun r15 => r4.2) (fun _ => rfl) (fun _ => rfl) (fun r15 h16 => ?_) rfl
      refine v_if_eq (tgt := 67) dX11_deed_46 (by decide) (fun c17 => ?_) (fun c17 => ?_)
      · refine v_bipush dX11_deed_67 (by decide) ?_
        exact v_ireturn dX11_deed_69 rfl rfl
      · refine v_iload_n dX11_deed_49 rfl ?_
        refine v_iconst dX11_deed_50 (by decide) ?_
        refine v_iconst dX11_deed_51 (by decide) ?_
        refine v_cS (mi := mX11_deed) (c0 := 0) (c1 := 0) (As := [pI a3, pI 0, pI 3]) (st := []) (kX11_in d (by omega) _ _ _ _) okX11_in (Or.inl tw1360) tw1361 rfl (Nat.le_of_ble_eq_true rfl) dX11_deed_52 (fun r18 => [pI r18]) (fun r18 => r4.2) (fun _ => rfl) (fun _ => rfl) (fun r18 h19 => ?_) rfl
        refine v_if_eq (tgt := 67) dX11_deed_55 (by decide) (fun c20 => ?_) (fun c20 => ?_)
        · refine v_bipush dX11_deed_67 (by decide) ?_
          exact v_ireturn dX11_deed_69 rfl rfl
        · refine v_aload_n dX11_deed_58 rfl ?_
          refine v_iload_n dX11_deed_59 rfl ?_
          refine v_iload_n dX11_deed_60 rfl ?_
          refine v_cV (mi := mX11_deed) (c0 := 0) (c1 := 0) (As := [pI a2, pI a3]) (st := []) (kX11_deedOf d (by omega) _ _ _ _) rfl h14 rfl okX11_deedOf (Or.inl tw1562) tw1564 tp65 rfl (Nat.le_of_ble_eq_true rfl) dX11_deed_61 (fun r21 => [pI r21]) (fun r21 => r4.2) (fun _ => rfl) (fun _ => rfl) (fun r21 h22 => ?_) rfl
          refine v_goto (tgt := 69) dX11_deed_64 (by decide) ?_
          exact v_ireturn dX11_deed_69 rfl rfl
theorem dX11_begin_0 : decode cX11_begin 0 = .ok (.iconst 0, 1) := by decide +kernel
theorem dX11_begin_1 : decode cX11_begin 1 = .ok (.istore_n 1, 1) := by decide +kernel
theorem dX11_begin_2 : decode cX11_begin 2 = .ok (.iload_n 1, 1) := by decide +kernel
theorem dX11_begin_3 : decode cX11_begin 3 = .ok (.bipush 30, 2) := by decide +kernel
theorem dX11_begin_5 : decode cX11_begin 5 = .ok (.if_icmp .ge 22, 3) := by decide +kernel
theorem dX11_begin_8 : decode cX11_begin 8 = .ok (.aload_n 0, 1) := by decide +kernel
theorem dX11_begin_9 : decode cX11_begin 9 = .ok (.getfield 44, 3) := by decide +kernel
theorem dX11_begin_12 : decode cX11_begin 12 = .ok (.iload_n 1, 1) := by decide +kernel
theorem dX11_begin_13 : decode cX11_begin 13 = .ok (.aload_n 0, 1) := by decide +kernel
theorem dX11_begin_14 : decode cX11_begin 14 = .ok (.iconst 2, 1) := by decide +kernel
theorem dX11_begin_15 : decode cX11_begin 15 = .ok (.iload_n 1, 1) := by decide +kernel
theorem dX11_begin_16 : decode cX11_begin 16 = .ok (.iadd, 1) := by decide +kernel
theorem dX11_begin_17 : decode cX11_begin 17 = .ok (.invokevirtual 277, 3) := by decide +kernel
theorem dX11_begin_20 : decode cX11_begin 20 = .ok (.iastore, 1) := by decide +kernel
theorem dX11_begin_21 : decode cX11_begin 21 = .ok (.iinc 1 1, 3) := by decide +kernel
theorem dX11_begin_24 : decode cX11_begin 24 = .ok (.goto (-22), 3) := by decide +kernel
theorem dX11_begin_27 : decode cX11_begin 27 = .ok (.iconst 0, 1) := by decide +kernel
theorem dX11_begin_28 : decode cX11_begin 28 = .ok (.istore_n 1, 1) := by decide +kernel
theorem dX11_begin_29 : decode cX11_begin 29 = .ok (.iload_n 1, 1) := by decide +kernel
theorem dX11_begin_30 : decode cX11_begin 30 = .ok (.bipush 20, 2) := by decide +kernel
theorem dX11_begin_32 : decode cX11_begin 32 = .ok (.if_icmp .ge 16, 3) := by decide +kernel
theorem dX11_begin_35 : decode cX11_begin 35 = .ok (.aload_n 0, 1) := by decide +kernel
theorem dX11_begin_36 : decode cX11_begin 36 = .ok (.getfield 47, 3) := by decide +kernel
theorem dX11_begin_39 : decode cX11_begin 39 = .ok (.iload_n 1, 1) := by decide +kernel
theorem dX11_begin_40 : decode cX11_begin 40 = .ok (.iconst 0, 1) := by decide +kernel
theorem dX11_begin_41 : decode cX11_begin 41 = .ok (.iastore, 1) := by decide +kernel
theorem dX11_begin_42 : decode cX11_begin 42 = .ok (.iinc 1 1, 3) := by decide +kernel
theorem dX11_begin_45 : decode cX11_begin 45 = .ok (.goto (-16), 3) := by decide +kernel
theorem dX11_begin_48 : decode cX11_begin 48 = .ok (.iconst 0, 1) := by decide +kernel
theorem dX11_begin_49 : decode cX11_begin 49 = .ok (.istore_n 1, 1) := by decide +kernel
theorem dX11_begin_50 : decode cX11_begin 50 = .ok (.iload_n 1, 1) := by decide +kernel
theorem dX11_begin_51 : decode cX11_begin 51 = .ok (.bipush 120, 2) := by decide +kernel
theorem dX11_begin_53 : decode cX11_begin 53 = .ok (.if_icmp .ge 23, 3) := by decide +kernel
theorem dX11_begin_56 : decode cX11_begin 56 = .ok (.aload_n 0, 1) := by decide +kernel
theorem dX11_begin_57 : decode cX11_begin 57 = .ok (.getfield 50, 3) := by decide +kernel
theorem dX11_begin_60 : decode cX11_begin 60 = .ok (.iload_n 1, 1) := by decide +kernel
theorem dX11_begin_61 : decode cX11_begin 61 = .ok (.iconst 0, 1) := by decide +kernel
theorem dX11_begin_62 : decode cX11_begin 62 = .ok (.iastore, 1) := by decide +kernel
theorem dX11_begin_63 : decode cX11_begin 63 = .ok (.aload_n 0, 1) := by decide +kernel
theorem dX11_begin_64 : decode cX11_begin 64 = .ok (.getfield 53, 3) := by decide +kernel
theorem dX11_begin_67 : decode cX11_begin 67 = .ok (.iload_n 1, 1) := by decide +kernel
theorem dX11_begin_68 : decode cX11_begin 68 = .ok (.iconst 0, 1) := by decide +kernel
theorem dX11_begin_69 : decode cX11_begin 69 = .ok (.iastore, 1) := by decide +kernel
theorem dX11_begin_70 : decode cX11_begin 70 = .ok (.iinc 1 1, 3) := by decide +kernel
theorem dX11_begin_73 : decode cX11_begin 73 = .ok (.goto (-23), 3) := by decide +kernel
theorem dX11_begin_76 : decode cX11_begin 76 = .ok (.iconst 0, 1) := by decide +kernel
theorem dX11_begin_77 : decode cX11_begin 77 = .ok (.istore_n 1, 1) := by decide +kernel
theorem dX11_begin_78 : decode cX11_begin 78 = .ok (.iload_n 1, 1) := by decide +kernel
theorem dX11_begin_79 : decode cX11_begin 79 = .ok (.iconst 4, 1) := by decide +kernel
theorem dX11_begin_80 : decode cX11_begin 80 = .ok (.if_icmp .ge 51, 3) := by decide +kernel
theorem dX11_begin_83 : decode cX11_begin 83 = .ok (.aload_n 0, 1) := by decide +kernel
theorem dX11_begin_84 : decode cX11_begin 84 = .ok (.getfield 56, 3) := by decide +kernel
theorem dX11_begin_87 : decode cX11_begin 87 = .ok (.iload_n 1, 1) := by decide +kernel
theorem dX11_begin_88 : decode cX11_begin 88 = .ok (.iconst 0, 1) := by decide +kernel
theorem dX11_begin_89 : decode cX11_begin 89 = .ok (.iastore, 1) := by decide +kernel
theorem dX11_begin_90 : decode cX11_begin 90 = .ok (.aload_n 0, 1) := by decide +kernel
theorem dX11_begin_91 : decode cX11_begin 91 = .ok (.getfield 59, 3) := by decide +kernel
theorem dX11_begin_94 : decode cX11_begin 94 = .ok (.iload_n 1, 1) := by decide +kernel
theorem dX11_begin_95 : decode cX11_begin 95 = .ok (.iconst 0, 1) := by decide +kernel
theorem dX11_begin_96 : decode cX11_begin 96 = .ok (.iastore, 1) := by decide +kernel
theorem dX11_begin_97 : decode cX11_begin 97 = .ok (.aload_n 0, 1) := by decide +kernel
theorem dX11_begin_98 : decode cX11_begin 98 = .ok (.getfield 62, 3) := by decide +kernel
theorem dX11_begin_101 : decode cX11_begin 101 = .ok (.iload_n 1, 1) := by decide +kernel
theorem dX11_begin_102 : decode cX11_begin 102 = .ok (.iconst 0, 1) := by decide +kernel
theorem dX11_begin_103 : decode cX11_begin 103 = .ok (.iastore, 1) := by decide +kernel
theorem dX11_begin_104 : decode cX11_begin 104 = .ok (.aload_n 0, 1) := by decide +kernel
theorem dX11_begin_105 : decode cX11_begin 105 = .ok (.getfield 65, 3) := by decide +kernel
theorem dX11_begin_108 : decode cX11_begin 108 = .ok (.iload_n 1, 1) := by decide +kernel
theorem dX11_begin_109 : decode cX11_begin 109 = .ok (.iconst 0, 1) := by decide +kernel
theorem dX11_begin_110 : decode cX11_begin 110 = .ok (.iastore, 1) := by decide +kernel
theorem dX11_begin_111 : decode cX11_begin 111 = .ok (.aload_n 0, 1) := by decide +kernel
theorem dX11_begin_112 : decode cX11_begin 112 = .ok (.getfield 68, 3) := by decide +kernel
theorem dX11_begin_115 : decode cX11_begin 115 = .ok (.iload_n 1, 1) := by decide +kernel
theorem dX11_begin_116 : decode cX11_begin 116 = .ok (.iconst 0, 1) := by decide +kernel
theorem dX11_begin_117 : decode cX11_begin 117 = .ok (.iastore, 1) := by decide +kernel
theorem dX11_begin_118 : decode cX11_begin 118 = .ok (.aload_n 0, 1) := by decide +kernel
theorem dX11_begin_119 : decode cX11_begin 119 = .ok (.getfield 71, 3) := by decide +kernel
theorem dX11_begin_122 : decode cX11_begin 122 = .ok (.iload_n 1, 1) := by decide +kernel
theorem dX11_begin_123 : decode cX11_begin 123 = .ok (.iconst (-1), 1) := by decide +kernel
theorem dX11_begin_124 : decode cX11_begin 124 = .ok (.iastore, 1) := by decide +kernel
theorem dX11_begin_125 : decode cX11_begin 125 = .ok (.iinc 1 1, 3) := by decide +kernel
theorem dX11_begin_128 : decode cX11_begin 128 = .ok (.goto (-50), 3) := by decide +kernel
theorem dX11_begin_131 : decode cX11_begin 131 = .ok (.iconst 0, 1) := by decide +kernel
theorem dX11_begin_132 : decode cX11_begin 132 = .ok (.istore_n 1, 1) := by decide +kernel
theorem dX11_begin_133 : decode cX11_begin 133 = .ok (.iload_n 1, 1) := by decide +kernel
theorem dX11_begin_134 : decode cX11_begin 134 = .ok (.bipush 6, 2) := by decide +kernel
theorem dX11_begin_136 : decode cX11_begin 136 = .ok (.if_icmp .ge 16, 3) := by decide +kernel
theorem dX11_begin_139 : decode cX11_begin 139 = .ok (.aload_n 0, 1) := by decide +kernel
theorem dX11_begin_140 : decode cX11_begin 140 = .ok (.getfield 74, 3) := by decide +kernel
theorem dX11_begin_143 : decode cX11_begin 143 = .ok (.iload_n 1, 1) := by decide +kernel
theorem dX11_begin_144 : decode cX11_begin 144 = .ok (.iconst 0, 1) := by decide +kernel
theorem dX11_begin_145 : decode cX11_begin 145 = .ok (.iastore, 1) := by decide +kernel
theorem dX11_begin_146 : decode cX11_begin 146 = .ok (.iinc 1 1, 3) := by decide +kernel
theorem dX11_begin_149 : decode cX11_begin 149 = .ok (.goto (-16), 3) := by decide +kernel
theorem dX11_begin_152 : decode cX11_begin 152 = .ok (.aload_n 0, 1) := by decide +kernel
theorem dX11_begin_153 : decode cX11_begin 153 = .ok (.iconst 0, 1) := by decide +kernel
theorem dX11_begin_154 : decode cX11_begin 154 = .ok (.putfield 332, 3) := by decide +kernel
theorem dX11_begin_157 : decode cX11_begin 157 = .ok (.aload_n 0, 1) := by decide +kernel
theorem dX11_begin_158 : decode cX11_begin 158 = .ok (.iconst 0, 1) := by decide +kernel
theorem dX11_begin_159 : decode cX11_begin 159 = .ok (.putfield 335, 3) := by decide +kernel
theorem dX11_begin_162 : decode cX11_begin 162 = .ok (.aload_n 0, 1) := by decide +kernel
theorem dX11_begin_163 : decode cX11_begin 163 = .ok (.iconst 0, 1) := by decide +kernel
theorem dX11_begin_164 : decode cX11_begin 164 = .ok (.putfield 338, 3) := by decide +kernel
theorem dX11_begin_167 : decode cX11_begin 167 = .ok (.return_, 1) := by decide +kernel
abbrev mX11_begin : MI := (yX11_begin, cX11_begin, 2, none, noE)
theorem okX11_begin : cok mX11_begin 0 := ⟨tw1581, tw11, by decide, by decide, by decide, by decide +kernel⟩
def fX11_begin (M : Mem) (a0 : Int) : Option Mem :=
  iterC (fun (rec1 : (Int × Mem) → Option Mem) (s2 : Int × Mem) => if s2.1 < 30 then (if s2.2.2.1 a0 = 10 then (fX11_of s2.2 a0 (w32 (2 + s2.1))).bind fun r5 => if s2.2.2.1 (s2.2.1 a0 29) = 12 ∧ (0 : Int) ≤ s2.1 ∧ s2.1 < s2.2.2.2.1 (s2.2.1 a0 29) then bM (mst s2.2 (s2.2.1 a0 29) s2.1 r5) fun M8 => rec1 (w32 (s2.1 + 1), M8) else none else none) else (iterC (fun (rec10 : (Int × Mem) → Option Mem) (s11 : Int × Mem) => if s11.1 < 20 then (if s11.2.2.1 a0 = 10 then if s11.2.2.1 (s11.2.1 a0 30) = 12 ∧ (0 : Int) ≤ s11.1 ∧ s11.1 < s11.2.2.2.1 (s11.2.1 a0 30) then bM (mst s11.2 (s11.2.1 a0 30) s11.1 0) fun M15 => rec10 (w32 (s11.1 + 1), M15) else none else none) else (iterC (fun (rec17 : (Int × Mem) → Option Mem) (s18 : Int × Mem) => if s18.1 < 120 then (if s18.2.2.1 a0 = 10 then if s18.2.2.1 (s18.2.1 a0 31) = 12 ∧ (0 : Int) ≤ s18.1 ∧ s18.1 < s18.2.2.2.1 (s18.2.1 a0 31) then bM (mst s18.2 (s18.2.1 a0 31) s18.1 0) fun M22 => if M22.2.1 (M22.1 a0 32) = 12 ∧ (0 : Int) ≤ s18.1 ∧ s18.1 < M22.2.2.1 (M22.1 a0 32) then bM (mst M22 (M22.1 a0 32) s18.1 0) fun M25 => rec17 (w32 (s18.1 + 1), M25) else none else none else none) else (iterC (fun (rec27 : (Int × Mem) → Option Mem) (s28 : Int × Mem) => if s28.1 < 4 then (if s28.2.2.1 a0 = 10 then if s28.2.2.1 (s28.2.1 a0 33) = 12 ∧ (0 : Int) ≤ s28.1 ∧ s28.1 < s28.2.2.2.1 (s28.2.1 a0 33) then bM (mst s28.2 (s28.2.1 a0 33) s28.1 0) fun M32 => if M32.2.1 (M32.1 a0 34) = 12 ∧ (0 : Int) ≤ s28.1 ∧ s28.1 < M32.2.2.1 (M32.1 a0 34) then bM (mst M32 (M32.1 a0 34) s28.1 0) fun M35 => if M35.2.1 (M35.1 a0 35) = 12 ∧ (0 : Int) ≤ s28.1 ∧ s28.1 < M35.2.2.1 (M35.1 a0 35) then bM (mst M35 (M35.1 a0 35) s28.1 0) fun M38 => if M38.2.1 (M38.1 a0 36) = 12 ∧ (0 : Int) ≤ s28.1 ∧ s28.1 < M38.2.2.1 (M38.1 a0 36) then bM (mst M38 (M38.1 a0 36) s28.1 0) fun M41 => if M41.2.1 (M41.1 a0 37) = 12 ∧ (0 : Int) ≤ s28.1 ∧ s28.1 < M41.2.2.1 (M41.1 a0 37) then bM (mst M41 (M41.1 a0 37) s28.1 0) fun M44 => if M44.2.1 (M44.1 a0 38) = 12 ∧ (0 : Int) ≤ s28.1 ∧ s28.1 < M44.2.2.1 (M44.1 a0 38) then bM (mst M44 (M44.1 a0 38) s28.1 (-1)) fun M47 => rec27 (w32 (s28.1 + 1), M47) else none else none else none else none else none else none else none) else (iterC (fun (rec49 : (Int × Mem) → Option Mem) (s50 : Int × Mem) => if s50.1 < 6 then (if s50.2.2.1 a0 = 10 then if s50.2.2.1 (s50.2.1 a0 39) = 12 ∧ (0 : Int) ≤ s50.1 ∧ s50.1 < s50.2.2.2.1 (s50.2.1 a0 39) then bM (mst s50.2 (s50.2.1 a0 39) s50.1 0) fun M54 => rec49 (w32 (s50.1 + 1), M54) else none else none) else (if s50.2.2.1 a0 = 10 then bM (mst s50.2 a0 40 0) fun M57 => bM (mst M57 a0 41 0) fun M59 => bM (mst M59 a0 42 0) fun M61 => some M61 else none)) BIG (0, s28.2))) BIG (0, s18.2))) BIG (0, s11.2))) BIG (0, s2.2))) BIG (0, M)
set_option maxRecDepth 100000 in
set_option maxHeartbeats 4000000 in
theorem kX11_begin (d : Nat) (hd : 1 ≤ d) (M : Mem) (a0 : Int) : Ct mX11_begin d 0 0 [pA a0] M dV (fX11_begin M a0) := by
  obtain ⟨d, rfl⟩ : ∃ k, d = k + 1 := ⟨d - 1, by omega⟩
  refine Ct.of 1 (fun _ _ _ => trivial) (by decide +kernel) rfl ?_
  unfold fX11_begin
  refine v_iconst dX11_begin_0 (by decide) ?_
  refine v_istore_n (ls' := [some (pA a0), some (pI 0)]) dX11_begin_1 (by decide) rfl ?_
  refine v_loop (fun (s2 : Int × Mem) => [some (pA a0), some (pI s2.1)]) (fun (s2 : Int × Mem) => s2.2) (s0 := (0, M)) ?_
  intro rec1 hrec1 s2
  refine v_iload_n dX11_begin_2 rfl ?_
  refine v_bipush dX11_begin_3 (by decide) ?_
  refine v_icmp_ge (tgt := 27) dX11_begin_5 (by decide) (fun c3 => ?_) (fun c3 => ?_)
  · refine v_aload_n dX11_begin_8 rfl ?_
    refine v_if (fun h4 => ?_)
    refine v_get (v := pA (s2.2.1 a0 29)) 10 29 rfl inX11 (by decide) tw1222 dX11_begin_9 h4 rfl ?_
    refine v_iload_n dX11_begin_12 rfl ?_
    refine v_aload_n dX11_begin_13 rfl ?_
    refine v_iconst dX11_begin_14 (by decide) ?_
    refine v_iload_n dX11_begin_15 rfl ?_
    refine v_iadd dX11_begin_16 ?_
    refine v_cV (mi := mX11_begin) (c0 := 0) (c1 := 0) (As := [pI (w32 (2 + s2.1))]) (st := [pI s2.1, pA (s2.2.1 a0 29)]) (kX11_of d (by omega) _ _ _) rfl h4 rfl okX11_of (Or.inl tw1504) tw1506 tp55 rfl (Nat.le_of_ble_eq_true rfl) dX11_begin_17 (fun r5 => [pI r5, pI s2.1, pA (s2.2.1 a0 29)]) (fun r5 => s2.2) (fun _ => rfl) (fun _ => rfl) (fun r5 h6 => ?_) rfl
    refine v_if (fun h7 => ?_)
    refine v_iastore h7 dX11_begin_20 ?_
    refine v_bM (fun M8 e9 => ?_)
    refine v_iinc (ls' := [some (pA a0), some (pI (w32 (s2.1 + 1)))]) dX11_begin_21 (by decide) rfl rfl ?_
    refine v_goto (tgt := 2) dX11_begin_24 (by decide) ?_
    exact hrec1 (w32 (s2.1 + 1), M8)
  · refine v_iconst dX11_begin_27 (by decide) ?_
    refine v_istore_n (ls' := [some (pA a0), some (pI 0)]) dX11_begin_28 (by decide) rfl ?_
    refine v_loop (fun (s11 : Int × Mem) => [some (pA a0), some (pI s11.1)]) (fun (s11 : Int × Mem) => s11.2) (s0 := (0, s2.2)) ?_
    intro rec10 hrec10 s11
    refine v_iload_n dX11_begin_29 rfl ?_
    refine v_bipush dX11_begin_30 (by decide) ?_
    refine v_icmp_ge (tgt := 48) dX11_begin_32 (by decide) (fun c12 => ?_) (fun c12 => ?_)
    · refine v_aload_n dX11_begin_35 rfl ?_
      refine v_if (fun h13 => ?_)
      refine v_get (v := pA (s11.2.1 a0 30)) 10 30 rfl inX11 (by decide) tw1223 dX11_begin_36 h13 rfl ?_
      refine v_iload_n dX11_begin_39 rfl ?_
      refine v_iconst dX11_begin_40 (by decide) ?_
      refine v_if (fun h14 => ?_)
      refine v_iastore h14 dX11_begin_41 ?_
      refine v_bM (fun M15 e16 => ?_)
      refine v_iinc (ls' := [some (pA a0), some (pI (w32 (s11.1 + 1)))]) dX11_begin_42 (by decide) rfl rfl ?_
      refine v_goto (tgt := 29) dX11_begin_45 (by decide) ?_
      exact hrec10 (w32 (s11.1 + 1), M15)
    · refine v_iconst dX11_begin_48 (by decide) ?_
      refine v_istore_n (ls' := [some (pA a0), some (pI 0)]) dX11_begin_49 (by decide) rfl ?_
      refine v_loop (fun (s18 : Int × Mem) => [some (pA a0), some (pI s18.1)]) (fun (s18 : Int × Mem) => s18.2) (s0 := (0, s11.2)) ?_
      intro rec17 hrec17 s18
      refine v_iload_n dX11_begin_50 rfl ?_
      refine v_bipush dX11_begin_51 (by decide) ?_
      refine v_icmp_ge (tgt := 76) dX11_begin_53 (by decide) (fun c19 => ?_) (fun c19 => ?_)
      · refine v_aload_n dX11_begin_56 rfl ?_
        refine v_if (fun h20 => ?_)
        refine v_get (v := pA (s18.2.1 a0 31)) 10 31 rfl inX11 (by decide) tw1224 dX11_begin_57 h20 rfl ?_
        refine v_iload_n dX11_begin_60 rfl ?_
        refine v_iconst dX11_begin_61 (by decide) ?_
        refine v_if (fun h21 => ?_)
        refine v_iastore h21 dX11_begin_62 ?_
        refine v_bM (fun M22 e23 => ?_)
        refine v_aload_n dX11_begin_63 rfl ?_
        refine v_get (v := pA (M22.1 a0 32)) 10 32 rfl inX11 (by decide) tw1225 dX11_begin_64 (by rw [e23]; exact h20) rfl ?_
        refine v_iload_n dX11_begin_67 rfl ?_
        refine v_iconst dX11_begin_68 (by decide) ?_
        refine v_if (fun h24 => ?_)
        refine v_iastore h24 dX11_begin_69 ?_
        refine v_bM (fun M25 e26 => ?_)
        refine v_iinc (ls' := [some (pA a0), some (pI (w32 (s18.1 + 1)))]) dX11_begin_70 (by decide) rfl rfl ?_
        refine v_goto (tgt := 50) dX11_begin_73 (by decide) ?_
        exact hrec17 (w32 (s18.1 + 1), M25)
      · refine v_iconst dX11_begin_76 (by decide) ?_
        refine v_istore_n (ls' := [some (pA a0), some (pI 0)]) dX11_begin_77 (by decide) rfl ?_
        refine v_loop (fun (s28 : Int × Mem) => [some (pA a0), some (pI s28.1)]) (fun (s28 : Int × Mem) => s28.2) (s0 := (0, s18.2)) ?_
        intro rec27 hrec27 s28
        refine v_iload_n dX11_begin_78 rfl ?_
        refine v_iconst dX11_begin_79 (by decide) ?_
        refine v_icmp_ge (tgt := 131) dX11_begin_80 (by decide) (fun c29 => ?_) (fun c29 => ?_)
        · refine v_aload_n dX11_begin_83 rfl ?_
          refine v_if (fun h30 => ?_)
          refine v_get (v := pA (s28.2.1 a0 33)) 10 33 rfl inX11 (by decide) tw1226 dX11_begin_84 h30 rfl ?_
          refine v_iload_n dX11_begin_87 rfl ?_
          refine v_iconst dX11_begin_88 (by decide) ?_
          refine v_if (fun h31 => ?_)
          refine v_iastore h31 dX11_begin_89 ?_
          refine v_bM (fun M32 e33 => ?_)
          refine v_aload_n dX11_begin_90 rfl ?_
          refine v_get (v := pA (M32.1 a0 34)) 10 34 rfl inX11 (by decide) tw1227 dX11_begin_91 (by rw [e33]; exact h30) rfl ?_
          refine v_iload_n dX11_begin_94 rfl ?_
          refine v_iconst dX11_begin_95 (by decide) ?_
          refine v_if (fun h34 => ?_)
          refine v_iastore h34 dX11_begin_96 ?_
          refine v_bM (fun M35 e36 => ?_)
          refine v_aload_n dX11_begin_97 rfl ?_
          refine v_get (v := pA (M35.1 a0 35)) 10 35 rfl inX11 (by decide) tw1228 dX11_begin_98 (by rw [e36, e33]; exact h30) rfl ?_
          refine v_iload_n dX11_begin_101 rfl ?_
          refine v_iconst dX11_begin_102 (by decide) ?_
          refine v_if (fun h37 => ?_)
          refine v_iastore h37 dX11_begin_103 ?_
          refine v_bM (fun M38 e39 => ?_)
          refine v_aload_n dX11_begin_104 rfl ?_
          refine v_get (v := pA (M38.1 a0 36)) 10 36 rfl inX11 (by decide) tw1229 dX11_begin_105 (by rw [e39, e36, e33]; exact h30) rfl ?_
          refine v_iload_n dX11_begin_108 rfl ?_
          refine v_iconst dX11_begin_109 (by decide) ?_
          refine v_if (fun h40 => ?_)
          refine v_iastore h40 dX11_begin_110 ?_
          refine v_bM (fun M41 e42 => ?_)
          refine v_aload_n dX11_begin_111 rfl ?_
          refine v_get (v := pA (M41.1 a0 37)) 10 37 rfl inX11 (by decide) tw1230 dX11_begin_112 (by rw [e42, e39, e36, e33]; exact h30) rfl ?_
          refine v_iload_n dX11_begin_115 rfl ?_
          refine v_iconst dX11_begin_116 (by decide) ?_
          refine v_if (fun h43 => ?_)
          refine v_iastore h43 dX11_begin_117 ?_
          refine v_bM (fun M44 e45 => ?_)
          refine v_aload_n dX11_begin_118 rfl ?_
          refine v_get (v := pA (M44.1 a0 38)) 10 38 rfl inX11 (by decide) tw1231 dX11_begin_119 (by rw [e45, e42, e39, e36, e33]; exact h30) rfl ?_
          refine v_iload_n dX11_begin_122 rfl ?_
          refine v_iconst dX11_begin_123 (by decide) ?_
          refine v_if (fun h46 => ?_)
          refine v_iastore h46 dX11_begin_124 ?_
          refine v_bM (fun M47 e48 => ?_)
          refine v_iinc (ls' := [some (pA a0), some (pI (w32 (s28.1 + 1)))]) dX11_begin_125 (by decide) rfl rfl ?_
          refine v_goto (tgt := 78) dX11_begin_128 (by decide) ?_
          exact hrec27 (w32 (s28.1 + 1), M47)
        · refine v_iconst dX11_begin_131 (by decide) ?_
          refine v_istore_n (ls' := [some (pA a0), some (pI 0)]) dX11_begin_132 (by decide) rfl ?_
          refine v_loop (fun (s50 : Int × Mem) => [some (pA a0), some (pI s50.1)]) (fun (s50 : Int × Mem) => s50.2) (s0 := (0, s28.2)) ?_
          intro rec49 hrec49 s50
          refine v_iload_n dX11_begin_133 rfl ?_
          refine v_bipush dX11_begin_134 (by decide) ?_
          refine v_icmp_ge (tgt := 152) dX11_begin_136 (by decide) (fun c51 => ?_) (fun c51 => ?_)
          · refine v_aload_n dX11_begin_139 rfl ?_
            refine v_if (fun h52 => ?_)
            refine v_get (v := pA (s50.2.1 a0 39)) 10 39 rfl inX11 (by decide) tw1232 dX11_begin_140 h52 rfl ?_
            refine v_iload_n dX11_begin_143 rfl ?_
            refine v_iconst dX11_begin_144 (by decide) ?_
            refine v_if (fun h53 => ?_)
            refine v_iastore h53 dX11_begin_145 ?_
            refine v_bM (fun M54 e55 => ?_)
            refine v_iinc (ls' := [some (pA a0), some (pI (w32 (s50.1 + 1)))]) dX11_begin_146 (by decide) rfl rfl ?_
            refine v_goto (tgt := 133) dX11_begin_149 (by decide) ?_
            exact hrec49 (w32 (s50.1 + 1), M54)
          · refine v_aload_n dX11_begin_152 rfl ?_
            refine v_iconst dX11_begin_153 (by decide) ?_
            refine v_if (fun h56 => ?_)
            refine v_put (x := 0) 10 40 rfl inX11 (by decide) tw1233 (Or.inl rfl) rfl dX11_begin_154 h56 rfl id ?_
            refine v_bM (fun M57 e58 => ?_)
            refine v_aload_n dX11_begin_157 rfl ?_
            refine v_iconst dX11_begin_158 (by decide) ?_
            refine v_put (x := 0) 10 41 rfl inX11 (by decide) tw1234 (Or.inl rfl) rfl dX11_begin_159 (by rw [e58]; exact h56) rfl id ?_
            refine v_bM (fun M59 e60 => ?_)
            refine v_aload_n dX11_begin_162 rfl ?_
            refine v_iconst dX11_begin_163 (by decide) ?_
            refine v_put (x := 0) 10 42 rfl inX11 (by decide) tw1235 (Or.inl rfl) rfl dX11_begin_164 (by rw [e60, e58]; exact h56) rfl id ?_
            refine v_bM (fun M61 e62 => ?_)
            exact v_return dX11_begin_167 rfl rfl
theorem dX11_place_0 : decode cX11_place 0 = .ok (.bipush 6, 2) := by decide +kernel
theorem dX11_place_2 : decode cX11_place 2 = .ok (.iload_n 0, 1) := by decide +kernel
theorem dX11_place_3 : decode cX11_place 3 = .ok (.imul, 1) := by decide +kernel
theorem dX11_place_4 : decode cX11_place 4 = .ok (.iload_n 1, 1) := by decide +kernel
theorem dX11_place_5 : decode cX11_place 5 = .ok (.iadd, 1) := by decide +kernel
theorem dX11_place_6 : decode cX11_place 6 = .ok (.iconst 5, 1) := by decide +kernel
theorem dX11_place_7 : decode cX11_place 7 = .ok (.imul, 1) := by decide +kernel
theorem dX11_place_8 : decode cX11_place 8 = .ok (.iload_n 2, 1) := by decide +kernel
theorem dX11_place_9 : decode cX11_place 9 = .ok (.iadd, 1) := by decide +kernel
theorem dX11_place_10 : decode cX11_place 10 = .ok (.ireturn, 1) := by decide +kernel
abbrev mX11_place : MI := (yX11_place, cX11_place, 3, (some .int), noE)
theorem okX11_place : cok mX11_place 3 := ⟨tw1596, tw11, by decide, by decide, by decide, by decide +kernel⟩
def fX11_place (M : Mem) (a0 a1 a2 : Int) : Option Int :=
  some (w32 ((w32 ((w32 ((w32 (6 * a0)) + a1)) * 5)) + a2))
set_option maxRecDepth 100000 in
set_option maxHeartbeats 4000000 in
theorem kX11_place (d : Nat) (hd : 0 ≤ d) (M : Mem) (a0 a1 a2 : Int) : Ct mX11_place d 0 0 [pI a0, pI a1, pI a2] M (dI M) (fX11_place M a0 a1 a2) := by
  refine Ct.of 0 (fun _ _ _ => trivial) (by decide +kernel) rfl ?_
  unfold fX11_place
  refine v_bipush dX11_place_0 (by decide) ?_
  refine v_iload_n dX11_place_2 rfl ?_
  refine v_imul dX11_place_3 ?_
  refine v_iload_n dX11_place_4 rfl ?_
  refine v_iadd dX11_place_5 ?_
  refine v_iconst dX11_place_6 (by decide) ?_
  refine v_imul dX11_place_7 ?_
  refine v_iload_n dX11_place_8 rfl ?_
  refine v_iadd dX11_place_9 ?_
  exact v_ireturn dX11_place_10 rfl rfl
theorem dX11_isFree_0 : decode cX11_isFree 0 = .ok (.aload_n 0, 1) := by decide +kernel
theorem dX11_isFree_1 : decode cX11_isFree 1 = .ok (.iload_n 1, 1) := by decide +kernel
theorem dX11_isFree_2 : decode cX11_isFree 2 = .ok (.invokevirtual 296, 3) := by decide +kernel
theorem dX11_isFree_5 : decode cX11_isFree 5 = .ok (.ifCond .eq 18, 3) := by decide +kernel
theorem dX11_isFree_8 : decode cX11_isFree 8 = .ok (.aload_n 0, 1) := by decide +kernel
theorem dX11_isFree_9 : decode cX11_isFree 9 = .ok (.getfield 335, 3) := by decide +kernel
theorem dX11_isFree_12 : decode cX11_isFree 12 = .ok (.iload_n 1, 1) := by decide +kernel
theorem dX11_isFree_13 : decode cX11_isFree 13 = .ok (.invokestatic 311, 3) := by decide +kernel
theorem dX11_isFree_16 : decode cX11_isFree 16 = .ok (.ifCond .ne 7, 3) := by decide +kernel
theorem dX11_isFree_19 : decode cX11_isFree 19 = .ok (.iconst 1, 1) := by decide +kernel
theorem dX11_isFree_20 : decode cX11_isFree 20 = .ok (.goto 4, 3) := by decide +kernel
theorem dX11_isFree_23 : decode cX11_isFree 23 = .ok (.iconst 0, 1) := by decide +kernel
theorem dX11_isFree_24 : decode cX11_isFree 24 = .ok (.ireturn, 1) := by decide +kernel
abbrev mX11_isFree : MI := (yX11_isFree, cX11_isFree, 2, (some .boolean), noE)
theorem okX11_isFree : cok mX11_isFree 1 := ⟨tw1593, tw11, by decide, by decide, by decide, by decide +kernel⟩
def fX11_isFree (M : Mem) (a0 a1 : Int) : Option Int :=
  if M.2.1 a0 = 10 then (fX11_isThief M a0 a1).bind fun r1 => if r1 = 0 then (some 0) else ((fX11_has M (M.1 a0 41) a1).bind fun r5 => if r5 = 0 then (some 1) else (some 0)) else none
set_option maxRecDepth 100000 in
set_option maxHeartbeats 4000000 in
theorem kX11_isFree (d : Nat) (hd : 2 ≤ d) (M : Mem) (a0 a1 : Int) : Ct mX11_isFree d 0 0 [pA a0, pI a1] M (dI M) (fX11_isFree M a0 a1) := by
  obtain ⟨d, rfl⟩ : ∃ k, d = k + 1 := ⟨d - 1, by omega⟩
  refine Ct.of 0 (fun _ _ _ => trivial) (by decide +kernel) rfl ?_
  unfold fX11_isFree
  refine v_aload_n dX11_isFree_0 rfl ?_
  refine v_iload_n dX11_isFree_1 rfl ?_
  refine v_if (fun h3 => ?_)
  refine v_cV (mi := mX11_isFree) (c0 := 0) (c1 := 0) (As := [pI a1]) (st := []) (kX11_isThief d (by omega) _ _ _) rfl h3 rfl okX11_isThief (Or.inl tw1515) tw1517 tp57 rfl (Nat.le_of_ble_eq_true rfl) dX11_isFree_2 (fun r1 => [pI r1]) (fun r1 => M) (fun _ => rfl) (fun _ => rfl) (fun r1 h2 => ?_) rfl
  refine v_if_eq (tgt := 23) dX11_isFree_5 (by decide) (fun c4 => ?_) (fun c4 => ?_)
  · refine v_iconst dX11_isFree_23 (by decide) ?_
    exact v_breturn dX11_isFree_24 rfl (by decide) rfl
  · refine v_aload_n dX11_isFree_8 rfl ?_
    refine v_get (v := pI (M.1 a0 41)) 10 41 rfl inX11 (by decide) tw1234 dX11_isFree_9 h3 rfl ?_
    refine v_iload_n dX11_isFree_12 rfl ?_
    refine v_cS (mi := mX11_isFree) (c0 := 0) (c1 := 0) (As := [pI (M.1 a0 41), pI a1]) (st := []) (kX11_has d (by omega) _ _ _) okX11_has (Or.inl tw1547) tw1548 rfl (Nat.le_of_ble_eq_true rfl) dX11_isFree_13 (fun r5 => [pI r5]) (fun r5 => M) (fun _ => rfl) (fun _ => rfl) (fun r5 h6 => ?_) rfl
    refine v_if_ne (tgt := 23) dX11_isFree_16 (by decide) (fun c7 => ?_) (fun c7 => ?_)
    · refine v_iconst dX11_isFree_19 (by decide) ?_
      refine v_goto (tgt := 24) dX11_isFree_20 (by decide) ?_
      exact v_breturn dX11_isFree_24 rfl (by decide) rfl
    · refine v_iconst dX11_isFree_23 (by decide) ?_
      exact v_breturn dX11_isFree_24 rfl (by decide) rfl
theorem dX11_owes_0 : decode cX11_owes 0 = .ok (.aload_n 0, 1) := by decide +kernel
theorem dX11_owes_1 : decode cX11_owes 1 = .ok (.getfield 62, 3) := by decide +kernel
theorem dX11_owes_4 : decode cX11_owes 4 = .ok (.iload_n 1, 1) := by decide +kernel
theorem dX11_owes_5 : decode cX11_owes 5 = .ok (.iaload, 1) := by decide +kernel
theorem dX11_owes_6 : decode cX11_owes 6 = .ok (.aload_n 0, 1) := by decide +kernel
theorem dX11_owes_7 : decode cX11_owes 7 = .ok (.iconst 0, 1) := by decide +kernel
theorem dX11_owes_8 : decode cX11_owes 8 = .ok (.invokevirtual 308, 3) := by decide +kernel
theorem dX11_owes_11 : decode cX11_owes 11 = .ok (.idiv, 1) := by decide +kernel
theorem dX11_owes_12 : decode cX11_owes 12 = .ok (.aload_n 0, 1) := by decide +kernel
theorem dX11_owes_13 : decode cX11_owes 13 = .ok (.getfield 65, 3) := by decide +kernel
theorem dX11_owes_16 : decode cX11_owes 16 = .ok (.iload_n 1, 1) := by decide +kernel
theorem dX11_owes_17 : decode cX11_owes 17 = .ok (.iaload, 1) := by decide +kernel
theorem dX11_owes_18 : decode cX11_owes 18 = .ok (.isub, 1) := by decide +kernel
theorem dX11_owes_19 : decode cX11_owes 19 = .ok (.ireturn, 1) := by decide +kernel
abbrev mX11_owes : MI := (yX11_owes, cX11_owes, 2, (some .int), noE)
theorem okX11_owes : cok mX11_owes 1 := ⟨tw1612, tw11, by decide, by decide, by decide, by decide +kernel⟩
def fX11_owes (M : Mem) (a0 a1 : Int) : Option Int :=
  if M.2.1 a0 = 10 then if M.2.1 (M.1 a0 35) = 12 ∧ (0 : Int) ≤ a1 ∧ a1 < M.2.2.1 (M.1 a0 35) then (fX11_lawOf M a0 0).bind fun r3 => if r3 ≠ 0 then if M.2.1 (M.1 a0 36) = 12 ∧ (0 : Int) ≤ a1 ∧ a1 < M.2.2.1 (M.1 a0 36) then some (w32 ((w32 ((M.1 (M.1 a0 35) a1).tdiv r3)) - (M.1 (M.1 a0 36) a1))) else none else none else none else none
set_option maxRecDepth 100000 in
set_option maxHeartbeats 4000000 in
theorem kX11_owes (d : Nat) (hd : 1 ≤ d) (M : Mem) (a0 a1 : Int) : Ct mX11_owes d 0 0 [pA a0, pI a1] M (dI M) (fX11_owes M a0 a1) := by
  obtain ⟨d, rfl⟩ : ∃ k, d = k + 1 := ⟨d - 1, by omega⟩
  refine Ct.of 0 (fun _ _ _ => trivial) (by decide +kernel) rfl ?_
  unfold fX11_owes
  refine v_aload_n dX11_owes_0 rfl ?_
  refine v_if (fun h1 => ?_)
  refine v_get (v := pA (M.1 a0 35)) 10 35 rfl inX11 (by decide) tw1228 dX11_owes_1 h1 rfl ?_
  refine v_iload_n dX11_owes_4 rfl ?_
  refine v_if (fun h2 => ?_)
  refine v_iaload h2 dX11_owes_5 ?_
  refine v_aload_n dX11_owes_6 rfl ?_
  refine v_iconst dX11_owes_7 (by decide) ?_
  refine v_cV (mi := mX11_owes) (c0 := 0) (c1 := 0) (As := [pI 0]) (st := [pI (M.1 (M.1 a0 35) a1)]) (kX11_lawOf d (by omega) _ _ _) rfl h1 rfl okX11_lawOf (Or.inl tw1539) tw1541 tp61 rfl (Nat.le_of_ble_eq_true rfl) dX11_owes_8 (fun r3 => [pI r3, pI (M.1 (M.1 a0 35) a1)]) (fun r3 => M) (fun _ => rfl) (fun _ => rfl) (fun r3 h4 => ?_) rfl
  refine v_if (fun h5 => ?_)
  refine v_idiv h5 dX11_owes_11 ?_
  refine v_aload_n dX11_owes_12 rfl ?_
  refine v_get (v := pA (M.1 a0 36)) 10 36 rfl inX11 (by decide) tw1229 dX11_owes_13 h1 rfl ?_
  refine v_iload_n dX11_owes_16 rfl ?_
  refine v_if (fun h6 => ?_)
  refine v_iaload h6 dX11_owes_17 ?_
  refine v_isub dX11_owes_18 ?_
  exact v_ireturn dX11_owes_19 rfl rfl
theorem dX11_odd_0 : decode cX11_odd 0 = .ok (.aload_n 0, 1) := by decide +kernel
theorem dX11_odd_1 : decode cX11_odd 1 = .ok (.getfield 62, 3) := by decide +kernel
theorem dX11_odd_4 : decode cX11_odd 4 = .ok (.iload_n 1, 1) := by decide +kernel
theorem dX11_odd_5 : decode cX11_odd 5 = .ok (.iaload, 1) := by decide +kernel
theorem dX11_odd_6 : decode cX11_odd 6 = .ok (.aload_n 0, 1) := by decide +kernel
theorem dX11_odd_7 : decode cX11_odd 7 = .ok (.iconst 0, 1) := by decide +kernel
theorem dX11_odd_8 : decode cX11_odd 8 = .ok (.invokevirtual 308, 3) := by decide +kernel
theorem dX11_odd_11 : decode cX11_odd 11 = .ok (.irem, 1) := by decide +kernel
theorem dX11_odd_12 : decode cX11_odd 12 = .ok (.ireturn, 1) := by decide +kernel
abbrev mX11_odd : MI := (yX11_odd, cX11_odd, 2, (some .int), noE)
theorem okX11_odd : cok mX11_odd 1 := ⟨tw1632, tw11, by decide, by decide, by decide, by decide +kernel⟩
def fX11_odd (M : Mem) (a0 a1 : Int) : Option Int :=
  if M.2.1 a0 = 10 then if M.2.1 (M.1 a0 35) = 12 ∧ (0 : Int) ≤ a1 ∧ a1 < M.2.2.1 (M.1 a0 35) then (fX11_lawOf M a0 0).bind fun r3 => if r3 ≠ 0 then some ((M.1 (M.1 a0 35) a1).tmod r3) else none else none else none
set_option maxRecDepth 100000 in
set_option maxHeartbeats 4000000 in
theorem kX11_odd (d : Nat) (hd : 1 ≤ d) (M : Mem) (a0 a1 : Int) : Ct mX11_odd d 0 0 [pA a0, pI a1] M (dI M) (fX11_odd M a0 a1) := by
  obtain ⟨d, rfl⟩ : ∃ k, d = k + 1 := ⟨d - 1, by omega⟩
  refine Ct.of 0 (fun _ _ _ => trivial) (by decide +kernel) rfl ?_
  unfold fX11_odd
  refine v_aload_n dX11_odd_0 rfl ?_
  refine v_if (fun h1 => ?_)
  refine v_get (v := pA (M.1 a0 35)) 10 35 rfl inX11 (by decide) tw1228 dX11_odd_1 h1 rfl ?_
  refine v_iload_n dX11_odd_4 rfl ?_
  refine v_if (fun h2 => ?_)
  refine v_iaload h2 dX11_odd_5 ?_
  refine v_aload_n dX11_odd_6 rfl ?_
  refine v_iconst dX11_odd_7 (by decide) ?_
  refine v_cV (mi := mX11_odd) (c0 := 0) (c1 := 0) (As := [pI 0]) (st := [pI (M.1 (M.1 a0 35) a1)]) (kX11_lawOf d (by omega) _ _ _) rfl h1 rfl okX11_lawOf (Or.inl tw1539) tw1541 tp61 rfl (Nat.le_of_ble_eq_true rfl) dX11_odd_8 (fun r3 => [pI r3, pI (M.1 (M.1 a0 35) a1)]) (fun r3 => M) (fun _ => rfl) (fun _ => rfl) (fun r3 h4 => ?_) rfl
  refine v_if (fun h5 => ?_)
  refine v_irem h5 dX11_odd_11 ?_
  exact v_ireturn dX11_odd_12 rfl rfl
theorem dX11_takes_0 : decode cX11_takes 0 = .ok (.aload_n 0, 1) := by decide +kernel
theorem dX11_takes_1 : decode cX11_takes 1 = .ok (.iload_n 1, 1) := by decide +kernel
theorem dX11_takes_2 : decode cX11_takes 2 = .ok (.invokevirtual 341, 3) := by decide +kernel
theorem dX11_takes_5 : decode cX11_takes 5 = .ok (.ifCond .eq 41, 3) := by decide +kernel
theorem dX11_takes_8 : decode cX11_takes 8 = .ok (.aload_n 0, 1) := by decide +kernel
theorem dX11_takes_9 : decode cX11_takes 9 = .ok (.iload_n 2, 1) := by decide +kernel
theorem dX11_takes_10 : decode cX11_takes 10 = .ok (.invokevirtual 290, 3) := by decide +kernel
theorem dX11_takes_13 : decode cX11_takes 13 = .ok (.ifCond .eq 33, 3) := by decide +kernel
theorem dX11_takes_16 : decode cX11_takes 16 = .ok (.aload_n 0, 1) := by decide +kernel
theorem dX11_takes_17 : decode cX11_takes 17 = .ok (.getfield 44, 3) := by decide +kernel
theorem dX11_takes_20 : decode cX11_takes 20 = .ok (.iconst 5, 1) := by decide +kernel
theorem dX11_takes_21 : decode cX11_takes 21 = .ok (.iload_n 2, 1) := by decide +kernel
theorem dX11_takes_22 : decode cX11_takes 22 = .ok (.imul, 1) := by decide +kernel
theorem dX11_takes_23 : decode cX11_takes 23 = .ok (.iload_n 3, 1) := by decide +kernel
theorem dX11_takes_24 : decode cX11_takes 24 = .ok (.iadd, 1) := by decide +kernel
theorem dX11_takes_25 : decode cX11_takes 25 = .ok (.iaload, 1) := by decide +kernel
theorem dX11_takes_26 : decode cX11_takes 26 = .ok (.ifCond .eq 20, 3) := by decide +kernel
theorem dX11_takes_29 : decode cX11_takes 29 = .ok (.aload_n 0, 1) := by decide +kernel
theorem dX11_takes_30 : decode cX11_takes 30 = .ok (.getfield 56, 3) := by decide +kernel
theorem dX11_takes_33 : decode cX11_takes 33 = .ok (.iload_n 1, 1) := by decide +kernel
theorem dX11_takes_34 : decode cX11_takes 34 = .ok (.iaload, 1) := by decide +kernel
theorem dX11_takes_35 : decode cX11_takes 35 = .ok (.aload_n 0, 1) := by decide +kernel
theorem dX11_takes_36 : decode cX11_takes 36 = .ok (.bipush 84, 2) := by decide +kernel
theorem dX11_takes_38 : decode cX11_takes 38 = .ok (.iload_n 1, 1) := by decide +kernel
theorem dX11_takes_39 : decode cX11_takes 39 = .ok (.iadd, 1) := by decide +kernel
theorem dX11_takes_40 : decode cX11_takes 40 = .ok (.invokevirtual 277, 3) := by decide +kernel
theorem dX11_takes_43 : decode cX11_takes 43 = .ok (.if_icmp .lt 5, 3) := by decide +kernel
theorem dX11_takes_46 : decode cX11_takes 46 = .ok (.iconst 0, 1) := by decide +kernel
theorem dX11_takes_47 : decode cX11_takes 47 = .ok (.ireturn, 1) := by decide +kernel
theorem dX11_takes_48 : decode cX11_takes 48 = .ok (.aload_n 0, 1) := by decide +kernel
theorem dX11_takes_49 : decode cX11_takes 49 = .ok (.getfield 44, 3) := by decide +kernel
theorem dX11_takes_52 : decode cX11_takes 52 = .ok (.iconst 5, 1) := by decide +kernel
theorem dX11_takes_53 : decode cX11_takes 53 = .ok (.iload_n 2, 1) := by decide +kernel
theorem dX11_takes_54 : decode cX11_takes 54 = .ok (.imul, 1) := by decide +kernel
theorem dX11_takes_55 : decode cX11_takes 55 = .ok (.iload_n 3, 1) := by decide +kernel
theorem dX11_takes_56 : decode cX11_takes 56 = .ok (.iadd, 1) := by decide +kernel
theorem dX11_takes_57 : decode cX11_takes 57 = .ok (.dup2, 1) := by decide +kernel
theorem dX11_takes_58 : decode cX11_takes 58 = .ok (.iaload, 1) := by decide +kernel
theorem dX11_takes_59 : decode cX11_takes 59 = .ok (.iconst 1, 1) := by decide +kernel
theorem dX11_takes_60 : decode cX11_takes 60 = .ok (.isub, 1) := by decide +kernel
theorem dX11_takes_61 : decode cX11_takes 61 = .ok (.iastore, 1) := by decide +kernel
theorem dX11_takes_62 : decode cX11_takes 62 = .ok (.aload_n 0, 1) := by decide +kernel
theorem dX11_takes_63 : decode cX11_takes 63 = .ok (.getfield 47, 3) := by decide +kernel
theorem dX11_takes_66 : decode cX11_takes 66 = .ok (.iconst 5, 1) := by decide +kernel
theorem dX11_takes_67 : decode cX11_takes 67 = .ok (.iload_n 1, 1) := by decide +kernel
theorem dX11_takes_68 : decode cX11_takes 68 = .ok (.imul, 1) := by decide +kernel
theorem dX11_takes_69 : decode cX11_takes 69 = .ok (.iload_n 3, 1) := by decide +kernel
theorem dX11_takes_70 : decode cX11_takes 70 = .ok (.iadd, 1) := by decide +kernel
theorem dX11_takes_71 : decode cX11_takes 71 = .ok (.dup2, 1) := by decide +kernel
theorem dX11_takes_72 : decode cX11_takes 72 = .ok (.iaload, 1) := by decide +kernel
theorem dX11_takes_73 : decode cX11_takes 73 = .ok (.iconst 1, 1) := by decide +kernel
theorem dX11_takes_74 : decode cX11_takes 74 = .ok (.iadd, 1) := by decide +kernel
theorem dX11_takes_75 : decode cX11_takes 75 = .ok (.iastore, 1) := by decide +kernel
theorem dX11_takes_76 : decode cX11_takes 76 = .ok (.aload_n 0, 1) := by decide +kernel
theorem dX11_takes_77 : decode cX11_takes 77 = .ok (.getfield 50, 3) := by decide +kernel
theorem dX11_takes_80 : decode cX11_takes 80 = .ok (.iload_n 1, 1) := by decide +kernel
theorem dX11_takes_81 : decode cX11_takes 81 = .ok (.iload_n 2, 1) := by decide +kernel
theorem dX11_takes_82 : decode cX11_takes 82 = .ok (.iload_n 3, 1) := by decide +kernel
theorem dX11_takes_83 : decode cX11_takes 83 = .ok (.invokestatic 344, 3) := by decide +kernel
theorem dX11_takes_86 : decode cX11_takes 86 = .ok (.dup2, 1) := by decide +kernel
theorem dX11_takes_87 : decode cX11_takes 87 = .ok (.iaload, 1) := by decide +kernel
theorem dX11_takes_88 : decode cX11_takes 88 = .ok (.iconst 1, 1) := by decide +kernel
theorem dX11_takes_89 : decode cX11_takes 89 = .ok (.iadd, 1) := by decide +kernel
theorem dX11_takes_90 : decode cX11_takes 90 = .ok (.iastore, 1) := by decide +kernel
theorem dX11_takes_91 : decode cX11_takes 91 = .ok (.aload_n 0, 1) := by decide +kernel
theorem dX11_takes_92 : decode cX11_takes 92 = .ok (.getfield 56, 3) := by decide +kernel
theorem dX11_takes_95 : decode cX11_takes 95 = .ok (.iload_n 1, 1) := by decide +kernel
theorem dX11_takes_96 : decode cX11_takes 96 = .ok (.dup2, 1) := by decide +kernel
theorem dX11_takes_97 : decode cX11_takes 97 = .ok (.iaload, 1) := by decide +kernel
theorem dX11_takes_98 : decode cX11_takes 98 = .ok (.iconst 1, 1) := by decide +kernel
theorem dX11_takes_99 : decode cX11_takes 99 = .ok (.iadd, 1) := by decide +kernel
theorem dX11_takes_100 : decode cX11_takes 100 = .ok (.iastore, 1) := by decide +kernel
theorem dX11_takes_101 : decode cX11_takes 101 = .ok (.aload_n 0, 1) := by decide +kernel
theorem dX11_takes_102 : decode cX11_takes 102 = .ok (.getfield 62, 3) := by decide +kernel
theorem dX11_takes_105 : decode cX11_takes 105 = .ok (.iload_n 1, 1) := by decide +kernel
theorem dX11_takes_106 : decode cX11_takes 106 = .ok (.dup2, 1) := by decide +kernel
theorem dX11_takes_107 : decode cX11_takes 107 = .ok (.iaload, 1) := by decide +kernel
theorem dX11_takes_108 : decode cX11_takes 108 = .ok (.iconst 1, 1) := by decide +kernel
theorem dX11_takes_109 : decode cX11_takes 109 = .ok (.iadd, 1) := by decide +kernel
theorem dX11_takes_110 : decode cX11_takes 110 = .ok (.iastore, 1) := by decide +kernel
theorem dX11_takes_111 : decode cX11_takes 111 = .ok (.aload_n 0, 1) := by decide +kernel
theorem dX11_takes_112 : decode cX11_takes 112 = .ok (.getfield 74, 3) := by decide +kernel
theorem dX11_takes_115 : decode cX11_takes 115 = .ok (.iload_n 2, 1) := by decide +kernel
theorem dX11_takes_116 : decode cX11_takes 116 = .ok (.dup2, 1) := by decide +kernel
theorem dX11_takes_117 : decode cX11_takes 117 = .ok (.iaload, 1) := by decide +kernel
theorem dX11_takes_118 : decode cX11_takes 118 = .ok (.iconst 1, 1) := by decide +kernel
theorem dX11_takes_119 : decode cX11_takes 119 = .ok (.iadd, 1) := by decide +kernel
theorem dX11_takes_120 : decode cX11_takes 120 = .ok (.iastore, 1) := by decide +kernel
theorem dX11_takes_121 : decode cX11_takes 121 = .ok (.aload_n 0, 1) := by decide +kernel
theorem dX11_takes_122 : decode cX11_takes 122 = .ok (.getfield 71, 3) := by decide +kernel
theorem dX11_takes_125 : decode cX11_takes 125 = .ok (.iload_n 1, 1) := by decide +kernel
theorem dX11_takes_126 : decode cX11_takes 126 = .ok (.aload_n 0, 1) := by decide +kernel
theorem dX11_takes_127 : decode cX11_takes 127 = .ok (.getfield 338, 3) := by decide +kernel
theorem dX11_takes_130 : decode cX11_takes 130 = .ok (.iastore, 1) := by decide +kernel
theorem dX11_takes_131 : decode cX11_takes 131 = .ok (.iconst 1, 1) := by decide +kernel
theorem dX11_takes_132 : decode cX11_takes 132 = .ok (.ireturn, 1) := by decide +kernel
abbrev mX11_takes : MI := (yX11_takes, cX11_takes, 4, (some .boolean), noE)
theorem okX11_takes : cok mX11_takes 3 := ⟨tw1589, tw11, by decide, by decide, by decide, by decide +kernel⟩
def fX11_takes (M : Mem) (a0 a1 a2 a3 : Int) : Option (Int × Mem) :=
  if M.2.1 a0 = 10 then (fX11_isFree M a0 a1).bind fun r1 => if r1 = 0 then (some (0, M)) else ((fX11_isHouse M a0 a2).bind fun r5 => if r5 = 0 then (some (0, M)) else (if M.2.1 (M.1 a0 29) = 12 ∧ (0 : Int) ≤ (w32 ((w32 (5 * a2)) + a3)) ∧ (w32 ((w32 (5 * a2)) + a3)) < M.2.2.1 (M.1 a0 29) then if M.1 (M.1 a0 29) (w32 ((w32 (5 * a2)) + a3)) = 0 then (some (0, M)) else (if M.2.1 (M.1 a0 33) = 12 ∧ (0 : Int) ≤ a1 ∧ a1 < M.2.2.1 (M.1 a0 33) then (fX11_of M a0 (w32 (84 + a1))).bind fun r11 => if M.1 (M.1 a0 33) a1 < r11 then (if M.2.1 (M.1 a0 29) = 12 ∧ (0 : Int) ≤ (w32 ((w32 (5 * a2)) + a3)) ∧ (w32 ((w32 (5 * a2)) + a3)) < M.2.2.1 (M.1 a0 29) then if M.2.1 (M.1 a0 29) = 12 ∧ (0 : Int) ≤ (w32 ((w32 (5 * a2)) + a3)) ∧ (w32 ((w32 (5 * a2)) + a3)) < M.2.2.1 (M.1 a0 29) then bM (mst M (M.1 a0 29) (w32 ((w32 (5 * a2)) + a3)) (w32 ((M.1 (M.1 a0 29) (w32 ((w32 (5 * a2)) + a3))) - 1))) fun M16 => if M16.2.1 (M16.1 a0 30) = 12 ∧ (0 : Int) ≤ (w32 ((w32 (5 * a1)) + a3)) ∧ (w32 ((w32 (5 * a1)) + a3)) < M16.2.2.1 (M16.1 a0 30) then if M16.2.1 (M16.1 a0 30) = 12 ∧ (0 : Int) ≤ (w32 ((w32 (5 * a1)) + a3)) ∧ (w32 ((w32 (5 * a1)) + a3)) < M16.2.2.1 (M16.1 a0 30) then bM (mst M16 (M16.1 a0 30) (w32 ((w32 (5 * a1)) + a3)) (w32 ((M16.1 (M16.1 a0 30) (w32 ((w32 (5 * a1)) + a3))) + 1))) fun M20 => (fX11_place M20 a1 a2 a3).bind fun r22 => if M20.2.1 (M20.1 a0 31) = 12 ∧ (0 : Int) ≤ r22 ∧ r22 < M20.2.2.1 (M20.1 a0 31) then if M20.2.1 (M20.1 a0 31) = 12 ∧ (0 : Int) ≤ r22 ∧ r22 < M20.2.2.1 (M20.1 a0 31) then bM (mst M20 (M20.1 a0 31) r22 (w32 ((M20.1 (M20.1 a0 31) r22) + 1))) fun M26 => if M26.2.1 (M26.1 a0 33) = 12 ∧ (0 : Int) ≤ a1 ∧ a1 < M26.2.2.1 (M26.1 a0 33) then if M26.2.1 (M26.1 a0 33) = 12 ∧ (0 : Int) ≤ a1 ∧ a1 < M26.2.2.1 (M26.1 a0 33) then bM (mst M26 (M26.1 a0 33) a1 (w32 ((M26.1 (M26.1 a0 33) a1) + 1))) fun M30 => if M30.2.1 (M30.1 a0 35) = 12 ∧ (0 : Int) ≤ a1 ∧ a1 < M30.2.2.1 (M30.1 a0 35) then if M30.2.1 (M30.1 a0 35) = 12 ∧ (0 : Int) ≤ a1 ∧ a1 < M30.2.2.1 (M30.1 a0 35) then bM (mst M30 (M30.1 a0 35) a1 (w32 ((M30.1 (M30.1 a0 35) a1) + 1))) fun M34 => if M34.2.1 (M34.1 a0 39) = 12 ∧ (0 : Int) ≤ a2 ∧ a2 < M34.2.2.1 (M34.1 a0 39) then if M34.2.1 (M34.1 a0 39) = 12 ∧ (0 : Int) ≤ a2 ∧ a2 < M34.2.2.1 (M34.1 a0 39) then bM (mst M34 (M34.1 a0 39) a2 (w32 ((M34.1 (M34.1 a0 39) a2) + 1))) fun M38 => if M38.2.1 (M38.1 a0 38) = 12 ∧ (0 : Int) ≤ a1 ∧ a1 < M38.2.2.1 (M38.1 a0 38) then bM (mst M38 (M38.1 a0 38) a1 (M38.1 a0 42)) fun M41 => some (1, M41) else none else none else none else none else none else none else none else none else none else none else none else none else none) else (some (0, M)) else none) else none)) else none
set_option maxRecDepth 100000 in
set_option maxHeartbeats 4000000 in
theorem kX11_takes (d : Nat) (hd : 3 ≤ d) (M : Mem) (a0 a1 a2 a3 : Int) : Ct mX11_takes d 0 0 [pA a0, pI a1, pI a2, pI a3] M dIM (fX11_takes M a0 a1 a2 a3) := by
  obtain ⟨d, rfl⟩ : ∃ k, d = k + 1 := ⟨d - 1, by omega⟩
  refine Ct.of 0 (fun _ _ _ => trivial) (by decide +kernel) rfl ?_
  unfold fX11_takes
  refine v_aload_n dX11_takes_0 rfl ?_
  refine v_iload_n dX11_takes_1 rfl ?_
  refine v_if (fun h3 => ?_)
  refine v_cV (mi := mX11_takes) (c0 := 0) (c1 := 0) (As := [pI a1]) (st := []) (kX11_isFree d (by omega) _ _ _) rfl h3 rfl okX11_isFree (Or.inl tw1590) tw1592 tp71 rfl (Nat.le_of_ble_eq_true rfl) dX11_takes_2 (fun r1 => [pI r1]) (fun r1 => M) (fun _ => rfl) (fun _ => rfl) (fun r1 h2 => ?_) rfl
  refine v_if_eq (tgt := 46) dX11_takes_5 (by decide) (fun c4 => ?_) (fun c4 => ?_)
  · refine v_iconst dX11_takes_46 (by decide) ?_
    exact v_breturn dX11_takes_47 rfl (by decide) rfl
  · refine v_aload_n dX11_takes_8 rfl ?_
    refine v_iload_n dX11_takes_9 rfl ?_
    refine v_cV (mi := mX11_takes) (c0 := 0) (c1 := 0) (As := [pI a2]) (st := []) (kX11_isHouse d (by omega) _ _ _) rfl h3 rfl okX11_isHouse (Or.inl tw1508) tw1510 tp56 rfl (Nat.le_of_ble_eq_true rfl) dX11_takes_10 (fun r5 => [pI r5]) (fun r5 => M) (fun _ => rfl) (fun _ => rfl) (fun r5 h6 => ?_) rfl
    refine v_if_eq (tgt := 46) dX11_takes_13 (by decide) (fun c7 => ?_) (fun c7 => ?_)
    · refine v_iconst dX11_takes_46 (by decide) ?_
      exact v_breturn dX11_takes_47 rfl (by decide) rfl
    · refine v_aload_n dX11_takes_16 rfl ?_
      refine v_get (v := pA (M.1 a0 29)) 10 29 rfl inX11 (by decide) tw1222 dX11_takes_17 h3 rfl ?_
      refine v_iconst dX11_takes_20 (by decide) ?_
      refine v_iload_n dX11_takes_21 rfl ?_
      refine v_imul dX11_takes_22 ?_
      refine v_iload_n dX11_takes_23 rfl ?_
      refine v_iadd dX11_takes_24 ?_
      refine v_if (fun h8 => ?_)
      refine v_iaload h8 dX11_takes_25 ?_
      refine v_if_eq (tgt := 46) dX11_takes_26 (by decide) (fun c9 => ?_) (fun c9 => ?_)
      · refine v_iconst dX11_takes_46 (by decide) ?_
        exact v_breturn dX11_takes_47 rfl (by decide) rfl
      · refine v_aload_n dX11_takes_29 rfl ?_
        refine v_get (v := pA (M.1 a0 33)) 10 33 rfl inX11 (by decide) tw1226 dX11_takes_30 h3 rfl ?_
        refine v_iload_n dX11_takes_33 rfl ?_
        refine v_if (fun h10 => ?_)
        refine v_iaload h10 dX11_takes_34 ?_
        refine v_aload_n dX11_takes_35 rfl ?_
        refine v_bipush dX11_takes_36 (by decide) ?_
        refine v_iload_n dX11_takes_38 rfl ?_
        refine v_iadd dX11_takes_39 ?_
        refine v_cV (mi := mX11_takes) (c0 := 0) (c1 := 0) (As := [pI (w32 (84 + a1))]) (st := [pI (M.1 (M.1 a0 33) a1)]) (kX11_of d (by omega) _ _ _) rfl h3 rfl okX11_of (Or.inl tw1504) tw1506 tp55 rfl (Nat.le_of_ble_eq_true rfl) dX11_takes_40 (fun r11 => [pI r11, pI (M.1 (M.1 a0 33) a1)]) (fun r11 => M) (fun _ => rfl) (fun _ => rfl) (fun r11 h12 => ?_) rfl
        refine v_icmp_lt (tgt := 48) dX11_takes_43 (by decide) (fun c13 => ?_) (fun c13 => ?_)
        · refine v_aload_n dX11_takes_48 rfl ?_
          refine v_get (v := pA (M.1 a0 29)) 10 29 rfl inX11 (by decide) tw1222 dX11_takes_49 h3 rfl ?_
          refine v_iconst dX11_takes_52 (by decide) ?_
          refine v_iload_n dX11_takes_53 rfl ?_
          refine v_imul dX11_takes_54 ?_
          refine v_iload_n dX11_takes_55 rfl ?_
          refine v_iadd dX11_takes_56 ?_
          refine v_dup2 dX11_takes_57 (by intro z hz; cases hz) (by intro z hz; cases hz) ?_
          refine v_if (fun h14 => ?_)
          refine v_iaload h14 dX11_takes_58 ?_
          refine v_iconst dX11_takes_59 (by decide) ?_
          refine v_isub dX11_takes_60 ?_
          refine v_if (fun h15 => ?_)
          refine v_iastore h15 dX11_takes_61 ?_
          refine v_bM (fun M16 e17 => ?_)
          refine v_aload_n dX11_takes_62 rfl ?_
          refine v_get (v := pA (M16.1 a0 30)) 10 30 rfl inX11 (by decide) tw1223 dX11_takes_63 (by rw [e17]; exact h3) rfl ?_
          refine v_iconst dX11_takes_66 (by decide) ?_
          refine v_iload_n dX11_takes_67 rfl ?_
          refine v_imul dX11_takes_68 ?_
          refine v_iload_n dX11_takes_69 rfl ?_
          refine v_iadd dX11_takes_70 ?_
          refine v_dup2 dX11_takes_71 (by intro z hz; cases hz) (by intro z hz; cases hz) ?_
          refine v_if (fun h18 => ?_)
          refine v_iaload h18 dX11_takes_72 ?_
          refine v_iconst dX11_takes_73 (by decide) ?_
          refine v_iadd dX11_takes_74 ?_
          refine v_if (fun h19 => ?_)
          refine v_iastore h19 dX11_takes_75 ?_
          refine v_bM (fun M20 e21 => ?_)
          refine v_aload_n dX11_takes_76 rfl ?_
          refine v_get (v := pA (M20.1 a0 31)) 10 31 rfl inX11 (by decide) tw1224 dX11_takes_77 (by rw [e21, e17]; exact h3) rfl ?_
          refine v_iload_n dX11_takes_80 rfl ?_
          refine v_iload_n dX11_takes_81 rfl ?_
          refine v_iload_n dX11_takes_82 rfl ?_
          refine v_cS (mi := mX11_takes) (c0 := 0) (c1 := 0) (As := [pI a1, pI a2, pI a3]) (st := [pA (M20.1 a0 31)]) (kX11_place d (by omega) _ _ _ _) okX11_place (Or.inl tw1594) tw1595 rfl (Nat.le_of_ble_eq_true rfl) dX11_takes_83 (fun r22 => [pI r22, pA (M20.1 a0 31)]) (fun r22 => M20) (fun _ => rfl) (fun _ => rfl) (fun r22 h23 => ?_) rfl
          refine v_dup2 dX11_takes_86 (by intro z hz; cases hz) (by intro z hz; cases hz) ?_
          refine v_if (fun h24 => ?_)
          refine v_iaload h24 dX11_takes_87 ?_
          refine v_iconst dX11_takes_88 (by decide) ?_
          refine v_iadd dX11_takes_89 ?_
          refine v_if (fun h25 => ?_)
          refine v_iastore h25 dX11_takes_90 ?_
          refine v_bM (fun M26 e27 => ?_)
          refine v_aload_n dX11_takes_91 rfl ?_
          refine v_get (v := pA (M26.1 a0 33)) 10 33 rfl inX11 (by decide) tw1226 dX11_takes_92 (by rw [e27, e21, e17]; exact h3) rfl ?_
          refine v_iload_n dX11_takes_95 rfl ?_
          refine v_dup2 dX11_takes_96 (by intro z hz; cases hz) (by intro z hz; cases hz) ?_
          refine v_if (fun h28 => ?_)
          refine v_iaload h28 dX11_takes_97 ?_
          refine v_iconst dX11_takes_98 (by decide) ?_
          refine v_iadd dX11_takes_99 ?_
          refine v_if (fun h29 => ?_)
          refine v_iastore h29 dX11_takes_100 ?_
          refine v_bM (fun M30 e31 => ?_)
          refine v_aload_n dX11_takes_101 rfl ?_
          refine v_get (v := pA (M30.1 a0 35)) 10 35 rfl inX11 (by decide) tw1228 dX11_takes_102 (by rw [e31, e27, e21, e17]; exact h3) rfl ?_
          refine v_iload_n dX11_takes_105 rfl ?_
          refine v_dup2 dX11_takes_106 (by intro z hz; cases hz) (by intro z hz; cases hz) ?_
          refine v_if (fun h32 => ?_)
          refine v_iaload h32 dX11_takes_107 ?_
          refine v_iconst dX11_takes_108 (by decide) ?_
          refine v_iadd dX11_takes_109 ?_
          refine v_if (fun h33 => ?_)
          refine v_iastore h33 dX11_takes_110 ?_
          refine v_bM (fun M34 e35 => ?_)
          refine v_aload_n dX11_takes_111 rfl ?_
          refine v_get (v := pA (M34.1 a0 39)) 10 39 rfl inX11 (by decide) tw1232 dX11_takes_112 (by rw [e35, e31, e27, e21, e17]; exact h3) rfl ?_
          refine v_iload_n dX11_takes_115 rfl ?_
          refine v_dup2 dX11_takes_116 (by intro z hz; cases hz) (by intro z hz; cases hz) ?_
          refine v_if (fun h36 => ?_)
          refine v_iaload h36 dX11_takes_117 ?_
          refine v_iconst dX11_takes_118 (by decide) ?_
          refine v_iadd dX11_takes_119 ?_
          refine v_if (fun h37 => ?_)
          refine v_iastore h37 dX11_takes_120 ?_
          refine v_bM (fun M38 e39 => ?_)
          refine v_aload_n dX11_takes_121 rfl ?_
          refine v_get (v := pA (M38.1 a0 38)) 10 38 rfl inX11 (by decide) tw1231 dX11_takes_122 (by rw [e39, e35, e31, e27, e21, e17]; exact h3) rfl ?_
          refine v_iload_n dX11_takes_125 rfl ?_
          refine v_aload_n dX11_takes_126 rfl ?_
          refine v_get (v := pI (M38.1 a0 42)) 10 42 rfl inX11 (by decide) tw1235 dX11_takes_127 (by rw [e39, e35, e31, e27, e21, e17]; exact h3) rfl ?_
          refine v_if (fun h40 => ?_)
          refine v_iastore h40 dX11_takes_130 ?_
          refine v_bM (fun M41 e42 => ?_)
          refine v_iconst dX11_takes_131 (by decide) ?_
          exact v_breturn dX11_takes_132 rfl (by decide) rfl
        · refine v_iconst dX11_takes_46 (by decide) ?_
          exact v_breturn dX11_takes_47 rfl (by decide) rfl
theorem dX11_mayGive_0 : decode cX11_mayGive 0 = .ok (.aload_n 0, 1) := by decide +kernel
theorem dX11_mayGive_1 : decode cX11_mayGive 1 = .ok (.iload_n 1, 1) := by decide +kernel
theorem dX11_mayGive_2 : decode cX11_mayGive 2 = .ok (.invokevirtual 341, 3) := by decide +kernel
theorem dX11_mayGive_5 : decode cX11_mayGive 5 = .ok (.ifCond .eq 67, 3) := by decide +kernel
theorem dX11_mayGive_8 : decode cX11_mayGive 8 = .ok (.aload_n 0, 1) := by decide +kernel
theorem dX11_mayGive_9 : decode cX11_mayGive 9 = .ok (.iload_n 2, 1) := by decide +kernel
theorem dX11_mayGive_10 : decode cX11_mayGive 10 = .ok (.invokevirtual 290, 3) := by decide +kernel
theorem dX11_mayGive_13 : decode cX11_mayGive 13 = .ok (.ifCond .eq 59, 3) := by decide +kernel
theorem dX11_mayGive_16 : decode cX11_mayGive 16 = .ok (.aload_n 0, 1) := by decide +kernel
theorem dX11_mayGive_17 : decode cX11_mayGive 17 = .ok (.getfield 47, 3) := by decide +kernel
theorem dX11_mayGive_20 : decode cX11_mayGive 20 = .ok (.iconst 5, 1) := by decide +kernel
theorem dX11_mayGive_21 : decode cX11_mayGive 21 = .ok (.iload_n 1, 1) := by decide +kernel
theorem dX11_mayGive_22 : decode cX11_mayGive 22 = .ok (.imul, 1) := by decide +kernel
theorem dX11_mayGive_23 : decode cX11_mayGive 23 = .ok (.iload_n 3, 1) := by decide +kernel
theorem dX11_mayGive_24 : decode cX11_mayGive 24 = .ok (.iadd, 1) := by decide +kernel
theorem dX11_mayGive_25 : decode cX11_mayGive 25 = .ok (.iaload, 1) := by decide +kernel
theorem dX11_mayGive_26 : decode cX11_mayGive 26 = .ok (.ifCond .le 46, 3) := by decide +kernel
theorem dX11_mayGive_29 : decode cX11_mayGive 29 = .ok (.aload_n 0, 1) := by decide +kernel
theorem dX11_mayGive_30 : decode cX11_mayGive 30 = .ok (.bipush 32, 2) := by decide +kernel
theorem dX11_mayGive_32 : decode cX11_mayGive 32 = .ok (.iconst 5, 1) := by decide +kernel
theorem dX11_mayGive_33 : decode cX11_mayGive 33 = .ok (.iload_n 2, 1) := by decide +kernel
theorem dX11_mayGive_34 : decode cX11_mayGive 34 = .ok (.imul, 1) := by decide +kernel
theorem dX11_mayGive_35 : decode cX11_mayGive 35 = .ok (.iadd, 1) := by decide +kernel
theorem dX11_mayGive_36 : decode cX11_mayGive 36 = .ok (.iload_n 3, 1) := by decide +kernel
theorem dX11_mayGive_37 : decode cX11_mayGive 37 = .ok (.iadd, 1) := by decide +kernel
theorem dX11_mayGive_38 : decode cX11_mayGive 38 = .ok (.invokevirtual 277, 3) := by decide +kernel
theorem dX11_mayGive_41 : decode cX11_mayGive 41 = .ok (.aload_n 0, 1) := by decide +kernel
theorem dX11_mayGive_42 : decode cX11_mayGive 42 = .ok (.getfield 44, 3) := by decide +kernel
theorem dX11_mayGive_45 : decode cX11_mayGive 45 = .ok (.iconst 5, 1) := by decide +kernel
theorem dX11_mayGive_46 : decode cX11_mayGive 46 = .ok (.iload_n 2, 1) := by decide +kernel
theorem dX11_mayGive_47 : decode cX11_mayGive 47 = .ok (.imul, 1) := by decide +kernel
theorem dX11_mayGive_48 : decode cX11_mayGive 48 = .ok (.iload_n 3, 1) := by decide +kernel
theorem dX11_mayGive_49 : decode cX11_mayGive 49 = .ok (.iadd, 1) := by decide +kernel
theorem dX11_mayGive_50 : decode cX11_mayGive 50 = .ok (.iaload, 1) := by decide +kernel
theorem dX11_mayGive_51 : decode cX11_mayGive 51 = .ok (.if_icmp .le 21, 3) := by decide +kernel
theorem dX11_mayGive_54 : decode cX11_mayGive 54 = .ok (.aload_n 0, 1) := by decide +kernel
theorem dX11_mayGive_55 : decode cX11_mayGive 55 = .ok (.getfield 50, 3) := by decide +kernel
theorem dX11_mayGive_58 : decode cX11_mayGive 58 = .ok (.iload_n 1, 1) := by decide +kernel
theorem dX11_mayGive_59 : decode cX11_mayGive 59 = .ok (.iload_n 2, 1) := by decide +kernel
theorem dX11_mayGive_60 : decode cX11_mayGive 60 = .ok (.iload_n 3, 1) := by decide +kernel
theorem dX11_mayGive_61 : decode cX11_mayGive 61 = .ok (.invokestatic 344, 3) := by decide +kernel
theorem dX11_mayGive_64 : decode cX11_mayGive 64 = .ok (.iaload, 1) := by decide +kernel
theorem dX11_mayGive_65 : decode cX11_mayGive 65 = .ok (.ifCond .ne 7, 3) := by decide +kernel
theorem dX11_mayGive_68 : decode cX11_mayGive 68 = .ok (.iconst 1, 1) := by decide +kernel
theorem dX11_mayGive_69 : decode cX11_mayGive 69 = .ok (.goto 4, 3) := by decide +kernel
theorem dX11_mayGive_72 : decode cX11_mayGive 72 = .ok (.iconst 0, 1) := by decide +kernel
theorem dX11_mayGive_73 : decode cX11_mayGive 73 = .ok (.ireturn, 1) := by decide +kernel
abbrev mX11_mayGive : MI := (yX11_mayGive, cX11_mayGive, 4, (some .boolean), noE)
theorem okX11_mayGive : cok mX11_mayGive 3 := ⟨tw1604, tw11, by decide, by decide, by decide, by decide +kernel⟩
def fX11_mayGive (M : Mem) (a0 a1 a2 a3 : Int) : Option Int :=
  if M.2.1 a0 = 10 then (fX11_isFree M a0 a1).bind fun r1 => if r1 = 0 then (some 0) else ((fX11_isHouse M a0 a2).bind fun r5 => if r5 = 0 then (some 0) else (if M.2.1 (M.1 a0 30) = 12 ∧ (0 : Int) ≤ (w32 ((w32 (5 * a1)) + a3)) ∧ (w32 ((w32 (5 * a1)) + a3)) < M.2.2.1 (M.1 a0 30) then if 0 < M.1 (M.1 a0 30) (w32 ((w32 (5 * a1)) + a3)) then ((fX11_of M a0 (w32 ((w32 (32 + (w32 (5 * a2)))) + a3))).bind fun r10 => if M.2.1 (M.1 a0 29) = 12 ∧ (0 : Int) ≤ (w32 ((w32 (5 * a2)) + a3)) ∧ (w32 ((w32 (5 * a2)) + a3)) < M.2.2.1 (M.1 a0 29) then if M.1 (M.1 a0 29) (w32 ((w32 (5 * a2)) + a3)) < r10 then ((fX11_place M a1 a2 a3).bind fun r14 => if M.2.1 (M.1 a0 31) = 12 ∧ (0 : Int) ≤ r14 ∧ r14 < M.2.2.1 (M.1 a0 31) then if M.1 (M.1 a0 31) r14 = 0 then (some 1) else (some 0) else none) else (some 0) else none) else (some 0) else none)) else none
set_option maxRecDepth 100000 in
set_option maxHeartbeats 4000000 in
theorem kX11_mayGive (d : Nat) (hd : 3 ≤ d) (M : Mem) (a0 a1 a2 a3 : Int) : Ct mX11_mayGive d 0 0 [pA a0, pI a1, pI a2, pI a3] M (dI M) (fX11_mayGive M a0 a1 a2 a3) := by
  obtain ⟨d, rfl⟩ : ∃ k, d = k + 1 := ⟨d - 1, by omega⟩
  refine Ct.of 0 (fun _ _ _ => trivial) (by decide +kernel) rfl ?_
  unfold fX11_mayGive
  refine v_aload_n dX11_mayGive_0 rfl ?_
  refine v_iload_n dX11_mayGive_1 rfl ?_
  refine v_if (fun h3 => ?_)
  refine v_cV (mi := mX11_mayGive) (c0 := 0) (c1 := 0) (As := [pI a1]) (st := []) (kX11_isFree d (by omega) _ _ _) rfl h3 rfl okX11_isFree (Or.inl tw1590) tw1592 tp71 rfl (Nat.le_of_ble_eq_true rfl) dX11_mayGive_2 (fun r1 => [pI r1]) (fun r1 => M) (fun _ => rfl) (fun _ => rfl) (fun r1 h2 => ?_) rfl
  refine v_if_eq (tgt := 72) dX11_mayGive_5 (by decide) (fun c4 => ?_) (fun c4 => ?_)
  · refine v_iconst dX11_mayGive_72 (by decide) ?_
    exact v_breturn dX11_mayGive_73 rfl (by decide) rfl
  · refine v_aload_n dX11_mayGive_8 rfl ?_
    refine v_iload_n dX11_mayGive_9 rfl ?_
    refine v_cV (mi := mX11_mayGive) (c0 := 0) (c1 := 0) (As := [pI a2]) (st := []) (kX11_isHouse d (by omega) _ _ _) rfl h3 rfl okX11_isHouse (Or.inl tw1508) tw1510 tp56 rfl (Nat.le_of_ble_eq_true rfl) dX11_mayGive_10 (fun r5 => [pI r5]) (fun r5 => M) (fun _ => rfl) (fun _ => rfl) (fun r5 h6 => ?_) rfl
    refine v_if_eq (tgt := 72) dX11_mayGive_13 (by decide) (fun c7 => ?_) (fun c7 => ?_)
    · refine v_iconst dX11_mayGive_72 (by decide) ?_
      exact v_breturn dX11_mayGive_73 rfl (by decide) rfl
    · refine v_aload_n dX11_mayGive_16 rfl ?_
      refine v_get (v := pA (M.1 a0 30)) 10 30 rfl inX11 (by decide) tw1223 dX11_mayGive_17 h3 rfl ?_
      refine v_iconst dX11_mayGive_20 (by decide) ?_
      refine v_iload_n dX11_mayGive_21 rfl ?_
      refine v_imul dX11_mayGive_22 ?_
      refine v_iload_n dX11_mayGive_23 rfl ?_
      refine v_iadd dX11_mayGive_24 ?_
      refine v_if (fun h8 => ?_)
      refine v_iaload h8 dX11_mayGive_25 ?_
      refine v_if_le (tgt := 72) dX11_mayGive_26 (by decide) (fun c9 => ?_) (fun c9 => ?_)
      · refine v_aload_n dX11_mayGive_29 rfl ?_
        refine v_bipush dX11_mayGive_30 (by decide) ?_
        refine v_iconst dX11_mayGive_32 (by decide) ?_
        refine v_iload_n dX11_mayGive_33 rfl ?_
        refine v_imul dX11_mayGive_34 ?_
        refine v_iadd dX11_mayGive_35 ?_
        refine v_iload_n dX11_mayGive_36 rfl ?_
        refine v_iadd dX11_mayGive_37 ?_
        refine v_cV (mi := mX11_mayGive) (c0 := 0) (c1 := 0) (As := [pI (w32 ((w32 (32 + (w32 (5 * a2)))) + a3))]) (st := []) (kX11_of d (by omega) _ _ _) rfl h3 rfl okX11_of (Or.inl tw1504) tw1506 tp55 rfl (Nat.le_of_ble_eq_true rfl) dX11_mayGive_38 (fun r10 => [pI r10]) (fun r10 => M) (fun _ => rfl) (fun _ => rfl) (fun r10 h11 => ?_) rfl
        refine v_aload_n dX11_mayGive_41 rfl ?_
        refine v_get (v := pA (M.1 a0 29)) 10 29 rfl inX11 (by decide) tw1222 dX11_mayGive_42 h3 rfl ?_
        refine v_iconst dX11_mayGive_45 (by decide) ?_
        refine v_iload_n dX11_mayGive_46 rfl ?_
        refine v_imul dX11_mayGive_47 ?_
        refine v_iload_n dX11_mayGive_48 rfl ?_
        refine v_iadd dX11_mayGive_49 ?_
        refine v_if (fun h12 => ?_)
        refine v_iaload h12 dX11_mayGive_50 ?_
        refine v_icmp_le (tgt := 72) dX11_mayGive_51 (by decide) (fun c13 => ?_) (fun c13 => ?_)
        · refine v_aload_n dX11_mayGive_54 rfl ?_
          refine v_get (v := pA (M.1 a0 31)) 10 31 rfl inX11 (by decide) tw1224 dX11_mayGive_55 h3 rfl ?_
          refine v_iload_n dX11_mayGive_58 rfl ?_
          refine v_iload_n dX11_mayGive_59 rfl ?_
          refine v_iload_n dX11_mayGive_60 rfl ?_
          refine v_cS (mi := mX11_mayGive) (c0 := 0) (c1 := 0) (As := [pI a1, pI a2, pI a3]) (st := [pA (M.1 a0 31)]) (kX11_place d (by omega) _ _ _ _) okX11_place (Or.inl tw1594) tw1595 rfl (Nat.le_of_ble_eq_true rfl) dX11_mayGive_61 (fun r14 => [pI r14, pA (M.1 a0 31)]) (fun r14 => M) (fun _ => rfl) (fun _ => rfl) (fun r14 h15 => ?_) rfl
          refine v_if (fun h16 => ?_)
          refine v_iaload h16 dX11_mayGive_64 ?_
          refine v_if_ne (tgt := 72) dX11_mayGive_65 (by decide) (fun c17 => ?_) (fun c17 => ?_)
          · refine v_iconst dX11_mayGive_68 (by decide) ?_
            refine v_goto (tgt := 73) dX11_mayGive_69 (by decide) ?_
            exact v_breturn dX11_mayGive_73 rfl (by decide) rfl
          · refine v_iconst dX11_mayGive_72 (by decide) ?_
            exact v_breturn dX11_mayGive_73 rfl (by decide) rfl
        · refine v_iconst dX11_mayGive_72 (by decide) ?_
          exact v_breturn dX11_mayGive_73 rfl (by decide) rfl
      · refine v_iconst dX11_mayGive_72 (by decide) ?_
        exact v_breturn dX11_mayGive_73 rfl (by decide) rfl
theorem dX11_gives_0 : decode cX11_gives 0 = .ok (.aload_n 0, 1) := by decide +kernel
theorem dX11_gives_1 : decode cX11_gives 1 = .ok (.iload_n 1, 1) := by decide +kernel
theorem dX11_gives_2 : decode cX11_gives 2 = .ok (.iload_n 2, 1) := by decide +kernel
theorem dX11_gives_3 : decode cX11_gives 3 = .ok (.iload_n 3, 1) := by decide +kernel
theorem dX11_gives_4 : decode cX11_gives 4 = .ok (.invokevirtual 348, 3) := by decide +kernel
theorem dX11_gives_7 : decode cX11_gives 7 = .ok (.ifCond .ne 5, 3) := by decide +kernel
theorem dX11_gives_10 : decode cX11_gives 10 = .ok (.iconst 0, 1) := by decide +kernel
theorem dX11_gives_11 : decode cX11_gives 11 = .ok (.ireturn, 1) := by decide +kernel
theorem dX11_gives_12 : decode cX11_gives 12 = .ok (.aload_n 0, 1) := by decide +kernel
theorem dX11_gives_13 : decode cX11_gives 13 = .ok (.getfield 47, 3) := by decide +kernel
theorem dX11_gives_16 : decode cX11_gives 16 = .ok (.iconst 5, 1) := by decide +kernel
theorem dX11_gives_17 : decode cX11_gives 17 = .ok (.iload_n 1, 1) := by decide +kernel
theorem dX11_gives_18 : decode cX11_gives 18 = .ok (.imul, 1) := by decide +kernel
theorem dX11_gives_19 : decode cX11_gives 19 = .ok (.iload_n 3, 1) := by decide +kernel
theorem dX11_gives_20 : decode cX11_gives 20 = .ok (.iadd, 1) := by decide +kernel
theorem dX11_gives_21 : decode cX11_gives 21 = .ok (.dup2, 1) := by decide +kernel
theorem dX11_gives_22 : decode cX11_gives 22 = .ok (.iaload, 1) := by decide +kernel
theorem dX11_gives_23 : decode cX11_gives 23 = .ok (.iconst 1, 1) := by decide +kernel
theorem dX11_gives_24 : decode cX11_gives 24 = .ok (.isub, 1) := by decide +kernel
theorem dX11_gives_25 : decode cX11_gives 25 = .ok (.iastore, 1) := by decide +kernel
theorem dX11_gives_26 : decode cX11_gives 26 = .ok (.aload_n 0, 1) := by decide +kernel
theorem dX11_gives_27 : decode cX11_gives 27 = .ok (.getfield 44, 3) := by decide +kernel
theorem dX11_gives_30 : decode cX11_gives 30 = .ok (.iconst 5, 1) := by decide +kernel
theorem dX11_gives_31 : decode cX11_gives 31 = .ok (.iload_n 2, 1) := by decide +kernel
theorem dX11_gives_32 : decode cX11_gives 32 = .ok (.imul, 1) := by decide +kernel
theorem dX11_gives_33 : decode cX11_gives 33 = .ok (.iload_n 3, 1) := by decide +kernel
theorem dX11_gives_34 : decode cX11_gives 34 = .ok (.iadd, 1) := by decide +kernel
theorem dX11_gives_35 : decode cX11_gives 35 = .ok (.dup2, 1) := by decide +kernel
theorem dX11_gives_36 : decode cX11_gives 36 = .ok (.iaload, 1) := by decide +kernel
theorem dX11_gives_37 : decode cX11_gives 37 = .ok (.iconst 1, 1) := by decide +kernel
theorem dX11_gives_38 : decode cX11_gives 38 = .ok (.iadd, 1) := by decide +kernel
theorem dX11_gives_39 : decode cX11_gives 39 = .ok (.iastore, 1) := by decide +kernel
theorem dX11_gives_40 : decode cX11_gives 40 = .ok (.aload_n 0, 1) := by decide +kernel
theorem dX11_gives_41 : decode cX11_gives 41 = .ok (.getfield 53, 3) := by decide +kernel
theorem dX11_gives_44 : decode cX11_gives 44 = .ok (.iload_n 1, 1) := by decide +kernel
theorem dX11_gives_45 : decode cX11_gives 45 = .ok (.iload_n 2, 1) := by decide +kernel
theorem dX11_gives_46 : decode cX11_gives 46 = .ok (.iload_n 3, 1) := by decide +kernel
theorem dX11_gives_47 : decode cX11_gives 47 = .ok (.invokestatic 344, 3) := by decide +kernel
theorem dX11_gives_50 : decode cX11_gives 50 = .ok (.dup2, 1) := by decide +kernel
theorem dX11_gives_51 : decode cX11_gives 51 = .ok (.iaload, 1) := by decide +kernel
theorem dX11_gives_52 : decode cX11_gives 52 = .ok (.iconst 1, 1) := by decide +kernel
theorem dX11_gives_53 : decode cX11_gives 53 = .ok (.iadd, 1) := by decide +kernel
theorem dX11_gives_54 : decode cX11_gives 54 = .ok (.iastore, 1) := by decide +kernel
theorem dX11_gives_55 : decode cX11_gives 55 = .ok (.aload_n 0, 1) := by decide +kernel
theorem dX11_gives_56 : decode cX11_gives 56 = .ok (.getfield 65, 3) := by decide +kernel
theorem dX11_gives_59 : decode cX11_gives 59 = .ok (.iload_n 1, 1) := by decide +kernel
theorem dX11_gives_60 : decode cX11_gives 60 = .ok (.dup2, 1) := by decide +kernel
theorem dX11_gives_61 : decode cX11_gives 61 = .ok (.iaload, 1) := by decide +kernel
theorem dX11_gives_62 : decode cX11_gives 62 = .ok (.aload_n 0, 1) := by decide +kernel
theorem dX11_gives_63 : decode cX11_gives 63 = .ok (.aload_n 0, 1) := by decide +kernel
theorem dX11_gives_64 : decode cX11_gives 64 = .ok (.getfield 332, 3) := by decide +kernel
theorem dX11_gives_67 : decode cX11_gives 67 = .ok (.invokevirtual 317, 3) := by decide +kernel
theorem dX11_gives_70 : decode cX11_gives 70 = .ok (.ifCond .eq 7, 3) := by decide +kernel
theorem dX11_gives_73 : decode cX11_gives 73 = .ok (.iconst 2, 1) := by decide +kernel
theorem dX11_gives_74 : decode cX11_gives 74 = .ok (.goto 4, 3) := by decide +kernel
theorem dX11_gives_77 : decode cX11_gives 77 = .ok (.iconst 1, 1) := by decide +kernel
theorem dX11_gives_78 : decode cX11_gives 78 = .ok (.iadd, 1) := by decide +kernel
theorem dX11_gives_79 : decode cX11_gives 79 = .ok (.iastore, 1) := by decide +kernel
theorem dX11_gives_80 : decode cX11_gives 80 = .ok (.aload_n 0, 1) := by decide +kernel
theorem dX11_gives_81 : decode cX11_gives 81 = .ok (.getfield 59, 3) := by decide +kernel
theorem dX11_gives_84 : decode cX11_gives 84 = .ok (.iload_n 1, 1) := by decide +kernel
theorem dX11_gives_85 : decode cX11_gives 85 = .ok (.dup2, 1) := by decide +kernel
theorem dX11_gives_86 : decode cX11_gives 86 = .ok (.iaload, 1) := by decide +kernel
theorem dX11_gives_87 : decode cX11_gives 87 = .ok (.aload_n 0, 1) := by decide +kernel
theorem dX11_gives_88 : decode cX11_gives 88 = .ok (.bipush 62, 2) := by decide +kernel
theorem dX11_gives_90 : decode cX11_gives 90 = .ok (.iload_n 2, 1) := by decide +kernel
theorem dX11_gives_91 : decode cX11_gives 91 = .ok (.iadd, 1) := by decide +kernel
theorem dX11_gives_92 : decode cX11_gives 92 = .ok (.invokevirtual 277, 3) := by decide +kernel
theorem dX11_gives_95 : decode cX11_gives 95 = .ok (.iadd, 1) := by decide +kernel
theorem dX11_gives_96 : decode cX11_gives 96 = .ok (.iastore, 1) := by decide +kernel
theorem dX11_gives_97 : decode cX11_gives 97 = .ok (.iconst 1, 1) := by decide +kernel
theorem dX11_gives_98 : decode cX11_gives 98 = .ok (.ireturn, 1) := by decide +kernel
abbrev mX11_gives : MI := (yX11_gives, cX11_gives, 4, (some .boolean), noE)
theorem okX11_gives : cok mX11_gives 3 := ⟨tw1600, tw11, by decide, by decide, by decide, by decide +kernel⟩
def fX11_gives (M : Mem) (a0 a1 a2 a3 : Int) : Option (Int × Mem) :=
  if M.2.1 a0 = 10 then (fX11_mayGive M a0 a1 a2 a3).bind fun r1 => if r1 = 0 then (some (0, M)) else (if M.2.1 (M.1 a0 30) = 12 ∧ (0 : Int) ≤ (w32 ((w32 (5 * a1)) + a3)) ∧ (w32 ((w32 (5 * a1)) + a3)) < M.2.2.1 (M.1 a0 30) then if M.2.1 (M.1 a0 30) = 12 ∧ (0 : Int) ≤ (w32 ((w32 (5 * a1)) + a3)) ∧ (w32 ((w32 (5 * a1)) + a3)) < M.2.2.1 (M.1 a0 30) then bM (mst M (M.1 a0 30) (w32 ((w32 (5 * a1)) + a3)) (w32 ((M.1 (M.1 a0 30) (w32 ((w32 (5 * a1)) + a3))) - 1))) fun M7 => if M7.2.1 (M7.1 a0 29) = 12 ∧ (0 : Int) ≤ (w32 ((w32 (5 * a2)) + a3)) ∧ (w32 ((w32 (5 * a2)) + a3)) < M7.2.2.1 (M7.1 a0 29) then if M7.2.1 (M7.1 a0 29) = 12 ∧ (0 : Int) ≤ (w32 ((w32 (5 * a2)) + a3)) ∧ (w32 ((w32 (5 * a2)) + a3)) < M7.2.2.1 (M7.1 a0 29) then bM (mst M7 (M7.1 a0 29) (w32 ((w32 (5 * a2)) + a3)) (w32 ((M7.1 (M7.1 a0 29) (w32 ((w32 (5 * a2)) + a3))) + 1))) fun M11 => (fX11_place M11 a1 a2 a3).bind fun r13 => if M11.2.1 (M11.1 a0 32) = 12 ∧ (0 : Int) ≤ r13 ∧ r13 < M11.2.2.1 (M11.1 a0 32) then if M11.2.1 (M11.1 a0 32) = 12 ∧ (0 : Int) ≤ r13 ∧ r13 < M11.2.2.1 (M11.1 a0 32) then bM (mst M11 (M11.1 a0 32) r13 (w32 ((M11.1 (M11.1 a0 32) r13) + 1))) fun M17 => if M17.2.1 (M17.1 a0 36) = 12 ∧ (0 : Int) ≤ a1 ∧ a1 < M17.2.2.1 (M17.1 a0 36) then (fX11_isDouble M17 a0 (M17.1 a0 40)).bind fun r20 => jn (fun (t23 : Int) => if M17.2.1 (M17.1 a0 36) = 12 ∧ (0 : Int) ≤ a1 ∧ a1 < M17.2.2.1 (M17.1 a0 36) then bM (mst M17 (M17.1 a0 36) a1 (w32 ((M17.1 (M17.1 a0 36) a1) + t23))) fun M25 => if M25.2.1 (M25.1 a0 34) = 12 ∧ (0 : Int) ≤ a1 ∧ a1 < M25.2.2.1 (M25.1 a0 34) then (fX11_of M25 a0 (w32 (62 + a2))).bind fun r28 => if M25.2.1 (M25.1 a0 34) = 12 ∧ (0 : Int) ≤ a1 ∧ a1 < M25.2.2.1 (M25.1 a0 34) then bM (mst M25 (M25.1 a0 34) a1 (w32 ((M25.1 (M25.1 a0 34) a1) + r28))) fun M31 => some (1, M31) else none else none else none) (fun (j22 : Int → Option (Int × Mem)) => if r20 = 0 then (j22 1) else (j22 2)) else none else none else none else none else none else none else none) else none
set_option maxRecDepth 100000 in
set_option maxHeartbeats 4000000 in
theorem kX11_gives (d : Nat) (hd : 4 ≤ d) (M : Mem) (a0 a1 a2 a3 : Int) : Ct mX11_gives d 0 0 [pA a0, pI a1, pI a2, pI a3] M dIM (fX11_gives M a0 a1 a2 a3) := by
  obtain ⟨d, rfl⟩ : ∃ k, d = k + 1 := ⟨d - 1, by omega⟩
  refine Ct.of 0 (fun _ _ _ => trivial) (by decide +kernel) rfl ?_
  unfold fX11_gives
  refine v_aload_n dX11_gives_0 rfl ?_
  refine v_iload_n dX11_gives_1 rfl ?_
  refine v_iload_n dX11_gives_2 rfl ?_
  refine v_iload_n dX11_gives_3 rfl ?_
  refine v_if (fun h3 => ?_)
  refine v_cV (mi := mX11_gives) (c0 := 0) (c1 := 0) (As := [pI a1, pI a2, pI a3]) (st := []) (kX11_mayGive d (by omega) _ _ _ _ _) rfl h3 rfl okX11_mayGive (Or.inl tw1601) tw1603 tp73 rfl (Nat.le_of_ble_eq_true rfl) dX11_gives_4 (fun r1 => [pI r1]) (fun r1 => M) (fun _ => rfl) (fun _ => rfl) (fun r1 h2 => ?_) rfl
  refine v_if_ne (tgt := 12) dX11_gives_7 (by decide) (fun c4 => ?_) (fun c4 => ?_)
  · refine v_iconst dX11_gives_10 (by decide) ?_
    exact v_breturn dX11_gives_11 rfl (by decide) rfl
  · refine v_aload_n dX11_gives_12 rfl ?_
    refine v_get (v := pA (M.1 a0 30)) 10 30 rfl inX11 (by decide) tw1223 dX11_gives_13 h3 rfl ?_
    refine v_iconst dX11_gives_16 (by decide) ?_
    refine v_iload_n dX11_gives_17 rfl ?_
    refine v_imul dX11_gives_18 ?_
    refine v_iload_n dX11_gives_19 rfl ?_
    refine v_iadd dX11_gives_20 ?_
    refine v_dup2 dX11_gives_21 (by intro z hz; cases hz) (by intro z hz; cases hz) ?_
    refine v_if (fun h5 => ?_)
    refine v_iaload h5 dX11_gives_22 ?_
    refine v_iconst dX11_gives_23 (by decide) ?_
    refine v_isub dX11_gives_24 ?_
    refine v_if (fun h6 => ?_)
    refine v_iastore h6 dX11_gives_25 ?_
    refine v_bM (fun M7 e8 => ?_)
    refine v_aload_n dX11_gives_26 rfl ?_
    refine v_get (v := pA (M7.1 a0 29)) 10 29 rfl inX11 (by decide) tw1222 dX11_gives_27 (by rw [e8]; exact h3) rfl ?_
    refine v_iconst dX11_gives_30 (by decide) ?_
    refine v_iload_n dX11_gives_31 rfl ?_
    refine v_imul dX11_gives_32 ?_
    refine v_iload_n dX11_gives_33 rfl ?_
    refine v_iadd dX11_gives_34 ?_
    refine v_dup2 dX11_gives_35 (by intro z hz; cases hz) (by intro z hz; cases hz) ?_
    refine v_if (fun h9 => ?_)
    refine v_iaload h9 dX11_gives_36 ?_
    refine v_iconst dX11_gives_37 (by decide) ?_
    refine v_iadd dX11_gives_38 ?_
    refine v_if (fun h10 => ?_)
    refine v_iastore h10 dX11_gives_39 ?_
    refine v_bM (fun M11 e12 => ?_)
    refine v_aload_n dX11_gives_40 rfl ?_
    refine v_get (v := pA (M11.1 a0 32)) 10 32 rfl inX11 (by decide) tw1225 dX11_gives_41 (by rw [e12, e8]; exact h3) rfl ?_
    refine v_iload_n dX11_gives_44 rfl ?_
    refine v_iload_n dX11_gives_45 rfl ?_
    refine v_iload_n dX11_gives_46 rfl ?_
    refine v_cS (mi := mX11_gives) (c0 := 0) (c1 := 0) (As := [pI a1, pI a2, pI a3]) (st := [pA (M11.1 a0 32)]) (kX11_place d (by omega) _ _ _ _) okX11_place (Or.inl tw1594) tw1595 rfl (Nat.le_of_ble_eq_true rfl) dX11_gives_47 (fun r13 => [pI r13, pA (M11.1 a0 32)]) (fun r13 => M11) (fun _ => rfl) (fun _ => rfl) (fun r13 h14 => ?_) rfl
    refine v_dup2 dX11_gives_50 (by intro z hz; cases hz) (by intro z hz; cases hz) ?_
    refine v_if (fun h15 => ?_)
    refine v_iaload h15 dX11_gives_51 ?_
    refine v_iconst dX11_gives_52 (by decide) ?_
    refine v_iadd dX11_gives_53 ?_
    refine v_if (fun h16 => ?_)
    refine v_iastore h16 dX11_gives_54 ?_
    refine v_bM (fun M17 e18 => ?_)
    refine v_aload_n dX11_gives_55 rfl ?_
    refine v_get (v := pA (M17.1 a0 36)) 10 36 rfl inX11 (by decide) tw1229 dX11_gives_56 (by rw [e18, e12, e8]; exact h3) rfl ?_
    refine v_iload_n dX11_gives_59 rfl ?_
    refine v_dup2 dX11_gives_60 (by intro z hz; cases hz) (by intro z hz; cases hz) ?_
    refine v_if (fun h19 => ?_)
    refine v_iaload h19 dX11_gives_61 ?_
    refine v_aload_n dX11_gives_62 rfl ?_
    refine v_aload_n dX11_gives_63 rfl ?_
    refine v_get (v := pI (M17.1 a0 40)) 10 40 rfl inX11 (by decide) tw1233 dX11_gives_64 (by rw [e18, e12, e8]; exact h3) rfl ?_
    refine v_cV (mi := mX11_gives) (c0 := 0) (c1 := 0) (As := [pI (M17.1 a0 40)]) (st := [pI (M17.1 (M17.1 a0 36) a1), pI a1, pA (M17.1 a0 36)]) (kX11_isDouble d (by omega) _ _ _) rfl (by rw [e18, e12, e8]; exact h3) rfl okX11_isDouble (Or.inl tw1543) tw1545 tp62 rfl (Nat.le_of_ble_eq_true rfl) dX11_gives_67 (fun r20 => [pI r20, pI (M17.1 (M17.1 a0 36) a1), pI a1, pA (M17.1 a0 36)]) (fun r20 => M17) (fun _ => rfl) (fun _ => rfl) (fun r20 h21 => ?_) rfl
    refine v_join (fun (t23 : Int) => [some (pA a0), some (pI a1), some (pI a2), none]) (fun (t23 : Int) => [pI t23, pI (M17.1 (M17.1 a0 36) a1), pI a1, pA (M17.1 a0 36)]) (fun (t23 : Int) => M17) 78 (fun t23 => ?_) (fun j22 hj22 => ?_)
    · refine v_iadd dX11_gives_78 ?_
      refine v_if (fun h24 => ?_)
      refine v_iastore h24 dX11_gives_79 ?_
      refine v_bM (fun M25 e26 => ?_)
      refine v_aload_n dX11_gives_80 rfl ?_
      refine v_get (v := pA (M25.1 a0 34)) 10 34 rfl inX11 (by decide) tw1227 dX11_gives_81 (by rw [e26, e18, e12, e8]; exact h3) rfl ?_
      refine v_iload_n dX11_gives_84 rfl ?_
      refine v_dup2 dX11_gives_85 (by intro z hz; cases hz) (by intro z hz; cases hz) ?_
      refine v_if (fun h27 => ?_)
      refine v_iaload h27 dX11_gives_86 ?_
      refine v_aload_n dX11_gives_87 rfl ?_
      refine v_bipush dX11_gives_88 (by decide) ?_
      refine v_iload_n dX11_gives_90 rfl ?_
      refine v_iadd dX11_gives_91 ?_
      refine v_cV (mi := mX11_gives) (c0 := 0) (c1 := 0) (As := [pI (w32 (62 + a2))]) (st := [pI (M25.1 (M25.1 a0 34) a1), pI a1, pA (M25.1 a0 34)]) (kX11_of d (by omega) _ _ _) rfl (by rw [e26, e18, e12, e8]; exact h3) rfl okX11_of (Or.inl tw1504) tw1506 tp55 rfl (Nat.le_of_ble_eq_true rfl) dX11_gives_92 (fun r28 => [pI r28, pI (M25.1 (M25.1 a0 34) a1), pI a1, pA (M25.1 a0 34)]) (fun r28 => M25) (fun _ => rfl) (fun _ => rfl) (fun r28 h29 => ?_) rfl
      refine v_iadd dX11_gives_95 ?_
      refine v_if (fun h30 => ?_)
      refine v_iastore h30 dX11_gives_96 ?_
      refine v_bM (fun M31 e32 => ?_)
      refine v_iconst dX11_gives_97 (by decide) ?_
      exact v_breturn dX11_gives_98 rfl (by decide) rfl
    · refine v_if_eq (tgt := 77) dX11_gives_70 (by decide) (fun c33 => ?_) (fun c33 => ?_)
      · refine v_iconst dX11_gives_77 (by decide) ?_
        exact v_drop [some (pA a0), some (pI a1), some (pI a2), none] (ls_s (ls_s (ls_s (ls_n ls_e)))) (hj22 1)
      · refine v_iconst dX11_gives_73 (by decide) ?_
        refine v_goto (tgt := 78) dX11_gives_74 (by decide) ?_
        exact v_drop [some (pA a0), some (pI a1), some (pI a2), none] (ls_s (ls_s (ls_s (ls_n ls_e)))) (hj22 2)
