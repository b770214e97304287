theorem dX3_isFull_0 : decode cX3_isFull 0 = .ok (.iload_n 1, 1) := by decide +kernel
theorem dX3_isFull_1 : decode cX3_isFull 1 = .ok (.bipush 8, 2) := by decide +kernel
theorem dX3_isFull_3 : decode cX3_isFull 3 = .ok (.if_icmp .ne 20, 3) := by decide +kernel
theorem dX3_isFull_6 : decode cX3_isFull 6 = .ok (.aload_n 0, 1) := by decide +kernel
theorem dX3_isFull_7 : decode cX3_isFull 7 = .ok (.getfield 21, 3) := by decide +kernel
theorem dX3_isFull_10 : decode cX3_isFull 10 = .ok (.getfield 99, 3) := by decide +kernel
theorem dX3_isFull_13 : decode cX3_isFull 13 = .ok (.iconst 4, 1) := by decide +kernel
theorem dX3_isFull_14 : decode cX3_isFull 14 = .ok (.if_icmp .lt 7, 3) := by decide +kernel
theorem dX3_isFull_17 : decode cX3_isFull 17 = .ok (.iconst 1, 1) := by decide +kernel
theorem dX3_isFull_18 : decode cX3_isFull 18 = .ok (.goto 4, 3) := by decide +kernel
theorem dX3_isFull_21 : decode cX3_isFull 21 = .ok (.iconst 0, 1) := by decide +kernel
theorem dX3_isFull_22 : decode cX3_isFull 22 = .ok (.ireturn, 1) := by decide +kernel
theorem dX3_isFull_23 : decode cX3_isFull 23 = .ok (.iload_n 1, 1) := by decide +kernel
theorem dX3_isFull_24 : decode cX3_isFull 24 = .ok (.bipush 12, 2) := by decide +kernel
theorem dX3_isFull_26 : decode cX3_isFull 26 = .ok (.if_icmp .lt 27, 3) := by decide +kernel
theorem dX3_isFull_29 : decode cX3_isFull 29 = .ok (.iload_n 1, 1) := by decide +kernel
theorem dX3_isFull_30 : decode cX3_isFull 30 = .ok (.bipush 15, 2) := by decide +kernel
theorem dX3_isFull_32 : decode cX3_isFull 32 = .ok (.if_icmp .gt 21, 3) := by decide +kernel
theorem dX3_isFull_35 : decode cX3_isFull 35 = .ok (.aload_n 0, 1) := by decide +kernel
theorem dX3_isFull_36 : decode cX3_isFull 36 = .ok (.getfield 35, 3) := by decide +kernel
theorem dX3_isFull_39 : decode cX3_isFull 39 = .ok (.getfield 138, 3) := by decide +kernel
theorem dX3_isFull_42 : decode cX3_isFull 42 = .ok (.bipush 40, 2) := by decide +kernel
theorem dX3_isFull_44 : decode cX3_isFull 44 = .ok (.if_icmp .lt 7, 3) := by decide +kernel
theorem dX3_isFull_47 : decode cX3_isFull 47 = .ok (.iconst 1, 1) := by decide +kernel
theorem dX3_isFull_48 : decode cX3_isFull 48 = .ok (.goto 4, 3) := by decide +kernel
theorem dX3_isFull_51 : decode cX3_isFull 51 = .ok (.iconst 0, 1) := by decide +kernel
theorem dX3_isFull_52 : decode cX3_isFull 52 = .ok (.ireturn, 1) := by decide +kernel
theorem dX3_isFull_53 : decode cX3_isFull 53 = .ok (.iload_n 1, 1) := by decide +kernel
theorem dX3_isFull_54 : decode cX3_isFull 54 = .ok (.bipush 16, 2) := by decide +kernel
theorem dX3_isFull_56 : decode cX3_isFull 56 = .ok (.if_icmp .ne 19, 3) := by decide +kernel
theorem dX3_isFull_59 : decode cX3_isFull 59 = .ok (.aload_n 0, 1) := by decide +kernel
theorem dX3_isFull_60 : decode cX3_isFull 60 = .ok (.getfield 42, 3) := by decide +kernel
theorem dX3_isFull_63 : decode cX3_isFull 63 = .ok (.getfield 141, 3) := by decide +kernel
theorem dX3_isFull_66 : decode cX3_isFull 66 = .ok (.bipush 8, 2) := by decide +kernel
theorem dX3_isFull_68 : decode cX3_isFull 68 = .ok (.if_icmp .lt 7, 3) := by decide +kernel
theorem dX3_isFull_71 : decode cX3_isFull 71 = .ok (.iconst 1, 1) := by decide +kernel
theorem dX3_isFull_72 : decode cX3_isFull 72 = .ok (.goto 4, 3) := by decide +kernel
theorem dX3_isFull_75 : decode cX3_isFull 75 = .ok (.iconst 0, 1) := by decide +kernel
theorem dX3_isFull_76 : decode cX3_isFull 76 = .ok (.ireturn, 1) := by decide +kernel
abbrev mX3_isFull : MI := (yX3_isFull, cX3_isFull, 2, (some .boolean), noE)
theorem okX3_isFull : cok mX3_isFull 1 := ⟨tw597, tw7, by decide, by decide, by decide, by decide +kernel⟩
def fX3_isFull (M : Mem) (a0 a1 : Int) : Option Int :=
  if a1 = 8 then (if M.2.1 a0 = 3 then if M.2.1 (M.1 a0 2) = 7 then if M.1 (M.1 a0 2) 1 < 4 then (some 0) else (some 1) else none else none) else (jn (fun (t6 : Unit) => if a1 = 16 then (if M.2.1 a0 = 3 then if M.2.1 (M.1 a0 5) = 4 then if M.1 (M.1 a0 5) 0 < 8 then (some 0) else (some 1) else none else none) else (some 0)) (fun (j5 : Unit → Option Int) => if a1 < 12 then (j5 ()) else (if 15 < a1 then (j5 ()) else (if M.2.1 a0 = 3 then if M.2.1 (M.1 a0 4) = 1 then if M.1 (M.1 a0 4) 0 < 40 then (some 0) else (some 1) else none else none))))
set_option maxRecDepth 100000 in
set_option maxHeartbeats 4000000 in
theorem kX3_isFull (d : Nat) (hd : 0 ≤ d) (M : Mem) (a0 a1 : Int) : Ct mX3_isFull d 0 0 [pA a0, pI a1] M (dI M) (fX3_isFull M a0 a1) := by
  refine Ct.of 0 (fun _ _ _ => trivial) (by decide +kernel) rfl ?_
  unfold fX3_isFull
  refine v_iload_n dX3_isFull_0 rfl ?_
  refine v_bipush dX3_isFull_1 (by decide) ?_
  refine v_icmp_ne (tgt := 23) dX3_isFull_3 (by decide) (fun c1 => ?_) (fun c1 => ?_)
  · refine v_aload_n dX3_isFull_6 rfl ?_
    refine v_if (fun h2 => ?_)
    refine v_get (v := pA (M.1 a0 2)) 3 2 rfl inX3 (by decide) tw258 dX3_isFull_7 h2 rfl ?_
    refine v_if (fun h3 => ?_)
    refine v_get (v := pI (M.1 (M.1 a0 2) 1)) 7 1 rfl inX7 (by decide) tw62 dX3_isFull_10 h3 rfl ?_
    refine v_iconst dX3_isFull_13 (by decide) ?_
    refine v_icmp_lt (tgt := 21) dX3_isFull_14 (by decide) (fun c4 => ?_) (fun c4 => ?_)
    · refine v_iconst dX3_isFull_21 (by decide) ?_
      exact v_breturn dX3_isFull_22 rfl (by decide) rfl
    · refine v_iconst dX3_isFull_17 (by decide) ?_
      refine v_goto (tgt := 22) dX3_isFull_18 (by decide) ?_
      exact v_breturn dX3_isFull_22 rfl (by decide) rfl
  · refine v_iload_n dX3_isFull_23 rfl ?_
    refine v_bipush dX3_isFull_24 (by decide) ?_
    refine v_join (fun (t6 : Unit) => [some (pA a0), some (pI a1)]) (fun (t6 : Unit) => []) (fun (t6 : Unit) => M) 53 (fun t6 => ?_) (fun j5 hj5 => ?_)
    · refine v_iload_n dX3_isFull_53 rfl ?_
      refine v_bipush dX3_isFull_54 (by decide) ?_
      refine v_icmp_ne (tgt := 75) dX3_isFull_56 (by decide) (fun c7 => ?_) (fun c7 => ?_)
      · refine v_aload_n dX3_isFull_59 rfl ?_
        refine v_if (fun h8 => ?_)
        refine v_get (v := pA (M.1 a0 5)) 3 5 rfl inX3 (by decide) tw264 dX3_isFull_60 h8 rfl ?_
        refine v_if (fun h9 => ?_)
        refine v_get (v := pI (M.1 (M.1 a0 5) 0)) 4 0 rfl inX4 (by decide) tw186 dX3_isFull_63 h9 rfl ?_
        refine v_bipush dX3_isFull_66 (by decide) ?_
        refine v_icmp_lt (tgt := 75) dX3_isFull_68 (by decide) (fun c10 => ?_) (fun c10 => ?_)
        · refine v_iconst dX3_isFull_75 (by decide) ?_
          exact v_breturn dX3_isFull_76 rfl (by decide) rfl
        · refine v_iconst dX3_isFull_71 (by decide) ?_
          refine v_goto (tgt := 76) dX3_isFull_72 (by decide) ?_
          exact v_breturn dX3_isFull_76 rfl (by decide) rfl
      · refine v_iconst dX3_isFull_75 (by decide) ?_
        exact v_breturn dX3_isFull_76 rfl (by decide) rfl
    · refine v_icmp_lt (tgt := 53) dX3_isFull_26 (by decide) (fun c11 => ?_) (fun c11 => ?_)
      · exact hj5 ()
      · refine v_iload_n dX3_isFull_29 rfl ?_
        refine v_bipush dX3_isFull_30 (by decide) ?_
        refine v_icmp_gt (tgt := 53) dX3_isFull_32 (by decide) (fun c12 => ?_) (fun c12 => ?_)
        · exact hj5 ()
        · refine v_aload_n dX3_isFull_35 rfl ?_
          refine v_if (fun h13 => ?_)
          refine v_get (v := pA (M.1 a0 4)) 3 4 rfl inX3 (by decide) tw262 dX3_isFull_36 h13 rfl ?_
          refine v_if (fun h14 => ?_)
          refine v_get (v := pI (M.1 (M.1 a0 4) 0)) 1 0 rfl inX1 (by decide) tw150 dX3_isFull_39 h14 rfl ?_
          refine v_bipush dX3_isFull_42 (by decide) ?_
          refine v_icmp_lt (tgt := 51) dX3_isFull_44 (by decide) (fun c15 => ?_) (fun c15 => ?_)
          · refine v_iconst dX3_isFull_51 (by decide) ?_
            exact v_breturn dX3_isFull_52 rfl (by decide) rfl
          · refine v_iconst dX3_isFull_47 (by decide) ?_
            refine v_goto (tgt := 52) dX3_isFull_48 (by decide) ?_
            exact v_breturn dX3_isFull_52 rfl (by decide) rfl
theorem dX3_note_0 : decode cX3_note 0 = .ok (.aload_n 0, 1) := by decide +kernel
theorem dX3_note_1 : decode cX3_note 1 = .ok (.getfield 9, 3) := by decide +kernel
theorem dX3_note_4 : decode cX3_note 4 = .ok (.ifCond .ne 13, 3) := by decide +kernel
theorem dX3_note_7 : decode cX3_note 7 = .ok (.aload_n 0, 1) := by decide +kernel
theorem dX3_note_8 : decode cX3_note 8 = .ok (.iload_n 1, 1) := by decide +kernel
theorem dX3_note_9 : decode cX3_note 9 = .ok (.putfield 9, 3) := by decide +kernel
theorem dX3_note_12 : decode cX3_note 12 = .ok (.aload_n 0, 1) := by decide +kernel
theorem dX3_note_13 : decode cX3_note 13 = .ok (.iload_n 2, 1) := by decide +kernel
theorem dX3_note_14 : decode cX3_note 14 = .ok (.putfield 15, 3) := by decide +kernel
theorem dX3_note_17 : decode cX3_note 17 = .ok (.return_, 1) := by decide +kernel
abbrev mX3_note : MI := (yX3_note, cX3_note, 3, none, noE)
theorem okX3_note : cok mX3_note 2 := ⟨tw601, tw7, by decide, by decide, by decide, by decide +kernel⟩
def fX3_note (M : Mem) (a0 a1 a2 : Int) : Option Mem :=
  if M.2.1 a0 = 3 then if M.1 a0 0 = 0 then (bM (mst M a0 0 a1) fun M3 => bM (mst M3 a0 1 a2) fun M5 => some M5) else (some M) else none
set_option maxRecDepth 100000 in
set_option maxHeartbeats 4000000 in
theorem kX3_note (d : Nat) (hd : 0 ≤ d) (M : Mem) (a0 a1 a2 : Int) : Ct mX3_note d 0 0 [pA a0, pI a1, pI a2] M dV (fX3_note M a0 a1 a2) := by
  refine Ct.of 0 (fun _ _ _ => trivial) (by decide +kernel) rfl ?_
  unfold fX3_note
  refine v_aload_n dX3_note_0 rfl ?_
  refine v_if (fun h1 => ?_)
  refine v_get (v := pI (M.1 a0 0)) 3 0 rfl inX3 (by decide) tw254 dX3_note_1 h1 rfl ?_
  refine v_if_ne (tgt := 17) dX3_note_4 (by decide) (fun c2 => ?_) (fun c2 => ?_)
  · refine v_aload_n dX3_note_7 rfl ?_
    refine v_iload_n dX3_note_8 rfl ?_
    refine v_put (x := a1) 3 0 rfl inX3 (by decide) tw254 (Or.inl rfl) rfl dX3_note_9 h1 rfl id ?_
    refine v_bM (fun M3 e4 => ?_)
    refine v_aload_n dX3_note_12 rfl ?_
    refine v_iload_n dX3_note_13 rfl ?_
    refine v_put (x := a2) 3 1 rfl inX3 (by decide) tw256 (Or.inl rfl) rfl dX3_note_14 (by rw [e4]; exact h1) rfl id ?_
    refine v_bM (fun M5 e6 => ?_)
    exact v_return dX3_note_17 rfl rfl
  · exact v_return dX3_note_17 rfl rfl
theorem dX3_readNumber_0 : decode cX3_readNumber 0 = .ok (.iconst 3, 1) := by decide +kernel
theorem dX3_readNumber_1 : decode cX3_readNumber 1 = .ok (.iload_n 1, 1) := by decide +kernel
theorem dX3_readNumber_2 : decode cX3_readNumber 2 = .ok (.imul, 1) := by decide +kernel
theorem dX3_readNumber_3 : decode cX3_readNumber 3 = .ok (.iload_n 2, 1) := by decide +kernel
theorem dX3_readNumber_4 : decode cX3_readNumber 4 = .ok (.iadd, 1) := by decide +kernel
theorem dX3_readNumber_5 : decode cX3_readNumber 5 = .ok (.istore_n 3, 1) := by decide +kernel
theorem dX3_readNumber_6 : decode cX3_readNumber 6 = .ok (.iload_n 1, 1) := by decide +kernel
theorem dX3_readNumber_7 : decode cX3_readNumber 7 = .ok (.bipush 7, 2) := by decide +kernel
theorem dX3_readNumber_9 : decode cX3_readNumber 9 = .ok (.if_icmp .eq 9, 3) := by decide +kernel
theorem dX3_readNumber_12 : decode cX3_readNumber 12 = .ok (.iload_n 1, 1) := by decide +kernel
theorem dX3_readNumber_13 : decode cX3_readNumber 13 = .ok (.bipush 14, 2) := by decide +kernel
theorem dX3_readNumber_15 : decode cX3_readNumber 15 = .ok (.if_icmp .ne 25, 3) := by decide +kernel
theorem dX3_readNumber_18 : decode cX3_readNumber 18 = .ok (.iload_n 2, 1) := by decide +kernel
theorem dX3_readNumber_19 : decode cX3_readNumber 19 = .ok (.iconst 1, 1) := by decide +kernel
theorem dX3_readNumber_20 : decode cX3_readNumber 20 = .ok (.if_icmp .ne 20, 3) := by decide +kernel
theorem dX3_readNumber_23 : decode cX3_readNumber 23 = .ok (.aload_n 0, 1) := by decide +kernel
theorem dX3_readNumber_24 : decode cX3_readNumber 24 = .ok (.getfield 62, 3) := by decide +kernel
theorem dX3_readNumber_27 : decode cX3_readNumber 27 = .ok (.aload_n 0, 1) := by decide +kernel
theorem dX3_readNumber_28 : decode cX3_readNumber 28 = .ok (.getfield 65, 3) := by decide +kernel
theorem dX3_readNumber_31 : decode cX3_readNumber 31 = .ok (.iconst 0, 1) := by decide +kernel
theorem dX3_readNumber_32 : decode cX3_readNumber 32 = .ok (.iaload, 1) := by decide +kernel
theorem dX3_readNumber_33 : decode cX3_readNumber 33 = .ok (.if_icmp .ne 7, 3) := by decide +kernel
theorem dX3_readNumber_36 : decode cX3_readNumber 36 = .ok (.iconst 1, 1) := by decide +kernel
theorem dX3_readNumber_37 : decode cX3_readNumber 37 = .ok (.goto 4, 3) := by decide +kernel
theorem dX3_readNumber_40 : decode cX3_readNumber 40 = .ok (.iconst 0, 1) := by decide +kernel
theorem dX3_readNumber_41 : decode cX3_readNumber 41 = .ok (.istore 4, 2) := by decide +kernel
theorem dX3_readNumber_43 : decode cX3_readNumber 43 = .ok (.aload_n 0, 1) := by decide +kernel
theorem dX3_readNumber_44 : decode cX3_readNumber 44 = .ok (.getfield 62, 3) := by decide +kernel
theorem dX3_readNumber_47 : decode cX3_readNumber 47 = .ok (.getstatic 132, 3) := by decide +kernel
theorem dX3_readNumber_50 : decode cX3_readNumber 50 = .ok (.iload_n 3, 1) := by decide +kernel
theorem dX3_readNumber_51 : decode cX3_readNumber 51 = .ok (.iaload, 1) := by decide +kernel
theorem dX3_readNumber_52 : decode cX3_readNumber 52 = .ok (.if_icmp .lt 20, 3) := by decide +kernel
theorem dX3_readNumber_55 : decode cX3_readNumber 55 = .ok (.aload_n 0, 1) := by decide +kernel
theorem dX3_readNumber_56 : decode cX3_readNumber 56 = .ok (.getfield 62, 3) := by decide +kernel
theorem dX3_readNumber_59 : decode cX3_readNumber 59 = .ok (.getstatic 135, 3) := by decide +kernel
theorem dX3_readNumber_62 : decode cX3_readNumber 62 = .ok (.iload_n 3, 1) := by decide +kernel
theorem dX3_readNumber_63 : decode cX3_readNumber 63 = .ok (.iaload, 1) := by decide +kernel
theorem dX3_readNumber_64 : decode cX3_readNumber 64 = .ok (.if_icmp .gt 8, 3) := by decide +kernel
theorem dX3_readNumber_67 : decode cX3_readNumber 67 = .ok (.iload 4, 2) := by decide +kernel
theorem dX3_readNumber_69 : decode cX3_readNumber 69 = .ok (.ifCond .eq 12, 3) := by decide +kernel
theorem dX3_readNumber_72 : decode cX3_readNumber 72 = .ok (.aload_n 0, 1) := by decide +kernel
theorem dX3_readNumber_73 : decode cX3_readNumber 73 = .ok (.iconst 2, 1) := by decide +kernel
theorem dX3_readNumber_74 : decode cX3_readNumber 74 = .ok (.aload_n 0, 1) := by decide +kernel
theorem dX3_readNumber_75 : decode cX3_readNumber 75 = .ok (.getfield 59, 3) := by decide +kernel
theorem dX3_readNumber_78 : decode cX3_readNumber 78 = .ok (.invokevirtual 102, 3) := by decide +kernel
theorem dX3_readNumber_81 : decode cX3_readNumber 81 = .ok (.aload_n 0, 1) := by decide +kernel
theorem dX3_readNumber_82 : decode cX3_readNumber 82 = .ok (.getfield 65, 3) := by decide +kernel
theorem dX3_readNumber_85 : decode cX3_readNumber 85 = .ok (.iload_n 2, 1) := by decide +kernel
theorem dX3_readNumber_86 : decode cX3_readNumber 86 = .ok (.aload_n 0, 1) := by decide +kernel
theorem dX3_readNumber_87 : decode cX3_readNumber 87 = .ok (.getfield 62, 3) := by decide +kernel
theorem dX3_readNumber_90 : decode cX3_readNumber 90 = .ok (.iastore, 1) := by decide +kernel
theorem dX3_readNumber_91 : decode cX3_readNumber 91 = .ok (.return_, 1) := by decide +kernel
abbrev mX3_readNumber : MI := (yX3_readNumber, cX3_readNumber, 5, none, noE)
theorem okX3_readNumber : cok mX3_readNumber 2 := ⟨tw607, tw7, by decide, by decide, by decide, by decide +kernel⟩
def fX3_readNumber (M : Mem) (a0 a1 a2 : Int) : Option Mem :=
  jn (fun (t2 : Int) => if M.2.1 a0 = 3 then if (0 : Int) ≤ (w32 ((w32 (3 * a1)) + a2)) ∧ (w32 ((w32 (3 * a1)) + a2)) < 54 then jn (fun (t6 : Mem) => if t6.2.1 a0 = 3 then if t6.2.1 (t6.1 a0 12) = 12 ∧ (0 : Int) ≤ a2 ∧ a2 < t6.2.2.1 (t6.1 a0 12) then bM (mst t6 (t6.1 a0 12) a2 (t6.1 a0 11)) fun M9 => some M9 else none else none) (fun (j5 : Mem → Option Mem) => jn (fun (t12 : Unit) => (fX3_note M a0 2 (M.1 a0 10)).bind fun r13 => j5 r13) (fun (j11 : Unit → Option Mem) => if M.1 a0 11 < (sTab 2).getD (w32 ((w32 (3 * a1)) + a2)).toNat 0 then (j11 ()) else (if (0 : Int) ≤ (w32 ((w32 (3 * a1)) + a2)) ∧ (w32 ((w32 (3 * a1)) + a2)) < 54 then if (sTab 3).getD (w32 ((w32 (3 * a1)) + a2)).toNat 0 < M.1 a0 11 then (j11 ()) else (if t2 = 0 then (j5 M) else (j11 ())) else none))) else none else none) (fun (j1 : Int → Option Mem) => jn (fun (t20 : Unit) => j1 0) (fun (j19 : Unit → Option Mem) => jn (fun (t22 : Unit) => if a2 = 1 then (if M.2.1 a0 = 3 then if M.2.1 (M.1 a0 12) = 12 ∧ (0 : Int) ≤ 0 ∧ 0 < M.2.2.1 (M.1 a0 12) then if M.1 a0 11 = M.1 (M.1 a0 12) 0 then (j1 1) else (j19 ()) else none else none) else (j19 ())) (fun (j21 : Unit → Option Mem) => if a1 = 7 then (j21 ()) else (if a1 = 14 then (j21 ()) else (j19 ())))))
set_option maxRecDepth 100000 in
set_option maxHeartbeats 4000000 in
theorem kX3_readNumber (d : Nat) (hd : 1 ≤ d) (M : Mem) (a0 a1 a2 : Int) : Ct mX3_readNumber d 0 0 [pA a0, pI a1, pI a2] M dV (fX3_readNumber M a0 a1 a2) := by
  obtain ⟨d, rfl⟩ : ∃ k, d = k + 1 := ⟨d - 1, by omega⟩
  refine Ct.of 2 (fun _ _ _ => trivial) (by decide +kernel) rfl ?_
  unfold fX3_readNumber
  refine v_iconst dX3_readNumber_0 (by decide) ?_
  refine v_iload_n dX3_readNumber_1 rfl ?_
  refine v_imul dX3_readNumber_2 ?_
  refine v_iload_n dX3_readNumber_3 rfl ?_
  refine v_iadd dX3_readNumber_4 ?_
  refine v_istore_n (ls' := [some (pA a0), some (pI a1), some (pI a2), some (pI (w32 ((w32 (3 * a1)) + a2))), none]) dX3_readNumber_5 (by decide) rfl ?_
  refine v_iload_n dX3_readNumber_6 rfl ?_
  refine v_bipush dX3_readNumber_7 (by decide) ?_
  refine v_join (fun (t2 : Int) => [some (pA a0), none, some (pI a2), some (pI (w32 ((w32 (3 * a1)) + a2))), none]) (fun (t2 : Int) => [pI t2]) (fun (t2 : Int) => M) 41 (fun t2 => ?_) (fun j1 hj1 => ?_)
  · refine v_istore (ls' := [some (pA a0), none, some (pI a2), some (pI (w32 ((w32 (3 * a1)) + a2))), some (pI t2)]) dX3_readNumber_41 (by decide) rfl ?_
    refine v_aload_n dX3_readNumber_43 rfl ?_
    refine v_if (fun h3 => ?_)
    refine v_get (v := pI (M.1 a0 11)) 3 11 rfl inX3 (by decide) tw271 dX3_readNumber_44 h3 rfl ?_
    refine v_gets (mi := mX3_readNumber) 2 (by decide) tw608 dX3_readNumber_47 rfl ?_
    refine v_iload_n dX3_readNumber_50 rfl ?_
    refine v_if (fun h4 => ?_)
    refine v_ciald (mi := mX3_readNumber) 2 (by decide) rfl rfl h4 dX3_readNumber_51 ?_
    refine v_join (fun (t6 : Mem) => [some (pA a0), none, some (pI a2), none, none]) (fun (t6 : Mem) => []) (fun (t6 : Mem) => t6) 81 (fun t6 => ?_) (fun j5 hj5 => ?_)
    · refine v_aload_n dX3_readNumber_81 rfl ?_
      refine v_if (fun h7 => ?_)
      refine v_get (v := pA (t6.1 a0 12)) 3 12 rfl inX3 (by decide) tw272 dX3_readNumber_82 h7 rfl ?_
      refine v_iload_n dX3_readNumber_85 rfl ?_
      refine v_aload_n dX3_readNumber_86 rfl ?_
      refine v_get (v := pI (t6.1 a0 11)) 3 11 rfl inX3 (by decide) tw271 dX3_readNumber_87 h7 rfl ?_
      refine v_if (fun h8 => ?_)
      refine v_iastore h8 dX3_readNumber_90 ?_
      refine v_bM (fun M9 e10 => ?_)
      exact v_return dX3_readNumber_91 rfl rfl
    · refine v_join (fun (t12 : Unit) => [some (pA a0), none, some (pI a2), none, none]) (fun (t12 : Unit) => []) (fun (t12 : Unit) => M) 72 (fun t12 => ?_) (fun j11 hj11 => ?_)
      · refine v_aload_n dX3_readNumber_72 rfl ?_
        refine v_iconst dX3_readNumber_73 (by decide) ?_
        refine v_aload_n dX3_readNumber_74 rfl ?_
        refine v_get (v := pI (M.1 a0 10)) 3 10 rfl inX3 (by decide) tw270 dX3_readNumber_75 h3 rfl ?_
        refine v_cV (mi := mX3_readNumber) (c0 := 0) (c1 := 0) (As := [pI 2, pI (M.1 a0 10)]) (st := []) (kX3_note d (by omega) _ _ _ _) rfl h3 rfl okX3_note (Or.inl tw598) tw600 tp9 rfl (Nat.le_of_ble_eq_true rfl) dX3_readNumber_78 (fun r13 => []) (fun r13 => r13) (fun _ => rfl) (fun _ => rfl) (fun r13 h14 => ?_) rfl
        exact hj5 r13
      · refine v_icmp_lt (tgt := 72) dX3_readNumber_52 (by decide) (fun c15 => ?_) (fun c15 => ?_)
        · exact v_drop [some (pA a0), none, some (pI a2), none, none] (ls_s (ls_n (ls_s (ls_n (ls_n ls_e))))) (hj11 ())
        · refine v_aload_n dX3_readNumber_55 rfl ?_
          refine v_get (v := pI (M.1 a0 11)) 3 11 rfl inX3 (by decide) tw271 dX3_readNumber_56 h3 rfl ?_
          refine v_gets (mi := mX3_readNumber) 3 (by decide) tw610 dX3_readNumber_59 rfl ?_
          refine v_iload_n dX3_readNumber_62 rfl ?_
          refine v_if (fun h16 => ?_)
          refine v_ciald (mi := mX3_readNumber) 3 (by decide) rfl rfl h16 dX3_readNumber_63 ?_
          refine v_icmp_gt (tgt := 72) dX3_readNumber_64 (by decide) (fun c17 => ?_) (fun c17 => ?_)
          · exact v_drop [some (pA a0), none, some (pI a2), none, none] (ls_s (ls_n (ls_s (ls_n (ls_n ls_e))))) (hj11 ())
          · refine v_iload dX3_readNumber_67 rfl ?_
            refine v_if_eq (tgt := 81) dX3_readNumber_69 (by decide) (fun c18 => ?_) (fun c18 => ?_)
            · exact v_drop [some (pA a0), none, some (pI a2), none, none] (ls_s (ls_n (ls_s (ls_n (ls_n ls_e))))) (hj5 M)
            · exact v_drop [some (pA a0), none, some (pI a2), none, none] (ls_s (ls_n (ls_s (ls_n (ls_n ls_e))))) (hj11 ())
  · refine v_join (fun (t20 : Unit) => [some (pA a0), none, some (pI a2), some (pI (w32 ((w32 (3 * a1)) + a2))), none]) (fun (t20 : Unit) => []) (fun (t20 : Unit) => M) 40 (fun t20 => ?_) (fun j19 hj19 => ?_)
    · refine v_iconst dX3_readNumber_40 (by decide) ?_
      exact hj1 0
    · refine v_join (fun (t22 : Unit) => [some (pA a0), none, some (pI a2), some (pI (w32 ((w32 (3 * a1)) + a2))), none]) (fun (t22 : Unit) => []) (fun (t22 : Unit) => M) 18 (fun t22 => ?_) (fun j21 hj21 => ?_)
      · refine v_iload_n dX3_readNumber_18 rfl ?_
        refine v_iconst dX3_readNumber_19 (by decide) ?_
        refine v_icmp_ne (tgt := 40) dX3_readNumber_20 (by decide) (fun c23 => ?_) (fun c23 => ?_)
        · refine v_aload_n dX3_readNumber_23 rfl ?_
          refine v_if (fun h24 => ?_)
          refine v_get (v := pI (M.1 a0 11)) 3 11 rfl inX3 (by decide) tw271 dX3_readNumber_24 h24 rfl ?_
          refine v_aload_n dX3_readNumber_27 rfl ?_
          refine v_get (v := pA (M.1 a0 12)) 3 12 rfl inX3 (by decide) tw272 dX3_readNumber_28 h24 rfl ?_
          refine v_iconst dX3_readNumber_31 (by decide) ?_
          refine v_if (fun h25 => ?_)
          refine v_iaload h25 dX3_readNumber_32 ?_
          refine v_icmp_ne (tgt := 40) dX3_readNumber_33 (by decide) (fun c26 => ?_) (fun c26 => ?_)
          · refine v_iconst dX3_readNumber_36 (by decide) ?_
            refine v_goto (tgt := 41) dX3_readNumber_37 (by decide) ?_
            exact hj1 1
          · exact hj19 ()
        · exact hj19 ()
      · refine v_icmp_eq (tgt := 18) dX3_readNumber_9 (by decide) (fun c27 => ?_) (fun c27 => ?_)
        · exact v_drop [some (pA a0), none, some (pI a2), some (pI (w32 ((w32 (3 * a1)) + a2))), none] (ls_s (ls_n (ls_s (ls_s (ls_n ls_e))))) (hj21 ())
        · refine v_iload_n dX3_readNumber_12 rfl ?_
          refine v_bipush dX3_readNumber_13 (by decide) ?_
          refine v_icmp_ne (tgt := 40) dX3_readNumber_15 (by decide) (fun c28 => ?_) (fun c28 => ?_)
          · exact v_drop [some (pA a0), none, some (pI a2), some (pI (w32 ((w32 (3 * a1)) + a2))), none] (ls_s (ls_n (ls_s (ls_s (ls_n ls_e))))) (hj21 ())
          · exact v_drop [some (pA a0), none, some (pI a2), some (pI (w32 ((w32 (3 * a1)) + a2))), none] (ls_s (ls_n (ls_s (ls_s (ls_n ls_e))))) (hj19 ())
theorem dX3_keepTown_0 : decode cX3_keepTown 0 = .ok (.aload_n 0, 1) := by decide +kernel
theorem dX3_keepTown_1 : decode cX3_keepTown 1 = .ok (.getfield 65, 3) := by decide +kernel
theorem dX3_keepTown_4 : decode cX3_keepTown 4 = .ok (.iconst 0, 1) := by decide +kernel
theorem dX3_keepTown_5 : decode cX3_keepTown 5 = .ok (.iaload, 1) := by decide +kernel
theorem dX3_keepTown_6 : decode cX3_keepTown 6 = .ok (.istore_n 2, 1) := by decide +kernel
theorem dX3_keepTown_7 : decode cX3_keepTown 7 = .ok (.aload_n 0, 1) := by decide +kernel
theorem dX3_keepTown_8 : decode cX3_keepTown 8 = .ok (.getfield 65, 3) := by decide +kernel
theorem dX3_keepTown_11 : decode cX3_keepTown 11 = .ok (.iconst 1, 1) := by decide +kernel
theorem dX3_keepTown_12 : decode cX3_keepTown 12 = .ok (.iaload, 1) := by decide +kernel
theorem dX3_keepTown_13 : decode cX3_keepTown 13 = .ok (.istore_n 3, 1) := by decide +kernel
theorem dX3_keepTown_14 : decode cX3_keepTown 14 = .ok (.iload_n 1, 1) := by decide +kernel
theorem dX3_keepTown_15 : decode cX3_keepTown 15 = .ok (.tableswitch 193 0 7 #[45, 56, 78, 100, 113, 138, 151, 164], 45) := by decide +kernel
theorem dX3_keepTown_60 : decode cX3_keepTown 60 = .ok (.aload_n 0, 1) := by decide +kernel
theorem dX3_keepTown_61 : decode cX3_keepTown 61 = .ok (.getfield 21, 3) := by decide +kernel
theorem dX3_keepTown_64 : decode cX3_keepTown 64 = .ok (.iload_n 2, 1) := by decide +kernel
theorem dX3_keepTown_65 : decode cX3_keepTown 65 = .ok (.putfield 96, 3) := by decide +kernel
theorem dX3_keepTown_68 : decode cX3_keepTown 68 = .ok (.goto 148, 3) := by decide +kernel
theorem dX3_keepTown_71 : decode cX3_keepTown 71 = .ok (.aload_n 0, 1) := by decide +kernel
theorem dX3_keepTown_72 : decode cX3_keepTown 72 = .ok (.getfield 21, 3) := by decide +kernel
theorem dX3_keepTown_75 : decode cX3_keepTown 75 = .ok (.getfield 219, 3) := by decide +kernel
theorem dX3_keepTown_78 : decode cX3_keepTown 78 = .ok (.iload_n 2, 1) := by decide +kernel
theorem dX3_keepTown_79 : decode cX3_keepTown 79 = .ok (.iload_n 3, 1) := by decide +kernel
theorem dX3_keepTown_80 : decode cX3_keepTown 80 = .ok (.invokestatic 216, 3) := by decide +kernel
theorem dX3_keepTown_83 : decode cX3_keepTown 83 = .ok (.aload_n 0, 1) := by decide +kernel
theorem dX3_keepTown_84 : decode cX3_keepTown 84 = .ok (.getfield 65, 3) := by decide +kernel
theorem dX3_keepTown_87 : decode cX3_keepTown 87 = .ok (.iconst 2, 1) := by decide +kernel
theorem dX3_keepTown_88 : decode cX3_keepTown 88 = .ok (.iaload, 1) := by decide +kernel
theorem dX3_keepTown_89 : decode cX3_keepTown 89 = .ok (.iastore, 1) := by decide +kernel
theorem dX3_keepTown_90 : decode cX3_keepTown 90 = .ok (.goto 126, 3) := by decide +kernel
theorem dX3_keepTown_93 : decode cX3_keepTown 93 = .ok (.aload_n 0, 1) := by decide +kernel
theorem dX3_keepTown_94 : decode cX3_keepTown 94 = .ok (.getfield 21, 3) := by decide +kernel
theorem dX3_keepTown_97 : decode cX3_keepTown 97 = .ok (.getfield 221, 3) := by decide +kernel
theorem dX3_keepTown_100 : decode cX3_keepTown 100 = .ok (.iload_n 2, 1) := by decide +kernel
theorem dX3_keepTown_101 : decode cX3_keepTown 101 = .ok (.iload_n 3, 1) := by decide +kernel
theorem dX3_keepTown_102 : decode cX3_keepTown 102 = .ok (.invokestatic 216, 3) := by decide +kernel
theorem dX3_keepTown_105 : decode cX3_keepTown 105 = .ok (.aload_n 0, 1) := by decide +kernel
theorem dX3_keepTown_106 : decode cX3_keepTown 106 = .ok (.getfield 65, 3) := by decide +kernel
theorem dX3_keepTown_109 : decode cX3_keepTown 109 = .ok (.iconst 2, 1) := by decide +kernel
theorem dX3_keepTown_110 : decode cX3_keepTown 110 = .ok (.iaload, 1) := by decide +kernel
theorem dX3_keepTown_111 : decode cX3_keepTown 111 = .ok (.iastore, 1) := by decide +kernel
theorem dX3_keepTown_112 : decode cX3_keepTown 112 = .ok (.goto 104, 3) := by decide +kernel
theorem dX3_keepTown_115 : decode cX3_keepTown 115 = .ok (.aload_n 0, 1) := by decide +kernel
theorem dX3_keepTown_116 : decode cX3_keepTown 116 = .ok (.getfield 21, 3) := by decide +kernel
theorem dX3_keepTown_119 : decode cX3_keepTown 119 = .ok (.getfield 223, 3) := by decide +kernel
theorem dX3_keepTown_122 : decode cX3_keepTown 122 = .ok (.iload_n 2, 1) := by decide +kernel
theorem dX3_keepTown_123 : decode cX3_keepTown 123 = .ok (.iload_n 3, 1) := by decide +kernel
theorem dX3_keepTown_124 : decode cX3_keepTown 124 = .ok (.iastore, 1) := by decide +kernel
theorem dX3_keepTown_125 : decode cX3_keepTown 125 = .ok (.goto 91, 3) := by decide +kernel
theorem dX3_keepTown_128 : decode cX3_keepTown 128 = .ok (.aload_n 0, 1) := by decide +kernel
theorem dX3_keepTown_129 : decode cX3_keepTown 129 = .ok (.getfield 21, 3) := by decide +kernel
theorem dX3_keepTown_132 : decode cX3_keepTown 132 = .ok (.getfield 225, 3) := by decide +kernel
theorem dX3_keepTown_135 : decode cX3_keepTown 135 = .ok (.iload_n 2, 1) := by decide +kernel
theorem dX3_keepTown_136 : decode cX3_keepTown 136 = .ok (.iload_n 3, 1) := by decide +kernel
theorem dX3_keepTown_137 : decode cX3_keepTown 137 = .ok (.iastore, 1) := by decide +kernel
theorem dX3_keepTown_138 : decode cX3_keepTown 138 = .ok (.aload_n 0, 1) := by decide +kernel
theorem dX3_keepTown_139 : decode cX3_keepTown 139 = .ok (.aload_n 0, 1) := by decide +kernel
theorem dX3_keepTown_140 : decode cX3_keepTown 140 = .ok (.getfield 73, 3) := by decide +kernel
theorem dX3_keepTown_143 : decode cX3_keepTown 143 = .ok (.iload_n 3, 1) := by decide +kernel
theorem dX3_keepTown_144 : decode cX3_keepTown 144 = .ok (.invokestatic 227, 3) := by decide +kernel
theorem dX3_keepTown_147 : decode cX3_keepTown 147 = .ok (.putfield 73, 3) := by decide +kernel
theorem dX3_keepTown_150 : decode cX3_keepTown 150 = .ok (.goto 66, 3) := by decide +kernel
theorem dX3_keepTown_153 : decode cX3_keepTown 153 = .ok (.aload_n 0, 1) := by decide +kernel
theorem dX3_keepTown_154 : decode cX3_keepTown 154 = .ok (.getfield 21, 3) := by decide +kernel
theorem dX3_keepTown_157 : decode cX3_keepTown 157 = .ok (.getfield 230, 3) := by decide +kernel
theorem dX3_keepTown_160 : decode cX3_keepTown 160 = .ok (.iload_n 2, 1) := by decide +kernel
theorem dX3_keepTown_161 : decode cX3_keepTown 161 = .ok (.iload_n 3, 1) := by decide +kernel
theorem dX3_keepTown_162 : decode cX3_keepTown 162 = .ok (.iastore, 1) := by decide +kernel
theorem dX3_keepTown_163 : decode cX3_keepTown 163 = .ok (.goto 53, 3) := by decide +kernel
theorem dX3_keepTown_166 : decode cX3_keepTown 166 = .ok (.aload_n 0, 1) := by decide +kernel
theorem dX3_keepTown_167 : decode cX3_keepTown 167 = .ok (.getfield 21, 3) := by decide +kernel
theorem dX3_keepTown_170 : decode cX3_keepTown 170 = .ok (.getfield 232, 3) := by decide +kernel
theorem dX3_keepTown_173 : decode cX3_keepTown 173 = .ok (.iload_n 2, 1) := by decide +kernel
theorem dX3_keepTown_174 : decode cX3_keepTown 174 = .ok (.iload_n 3, 1) := by decide +kernel
theorem dX3_keepTown_175 : decode cX3_keepTown 175 = .ok (.iastore, 1) := by decide +kernel
theorem dX3_keepTown_176 : decode cX3_keepTown 176 = .ok (.goto 40, 3) := by decide +kernel
theorem dX3_keepTown_179 : decode cX3_keepTown 179 = .ok (.aload_n 0, 1) := by decide +kernel
theorem dX3_keepTown_180 : decode cX3_keepTown 180 = .ok (.getfield 21, 3) := by decide +kernel
theorem dX3_keepTown_183 : decode cX3_keepTown 183 = .ok (.getfield 234, 3) := by decide +kernel
theorem dX3_keepTown_186 : decode cX3_keepTown 186 = .ok (.iload_n 2, 1) := by decide +kernel
theorem dX3_keepTown_187 : decode cX3_keepTown 187 = .ok (.iload_n 3, 1) := by decide +kernel
theorem dX3_keepTown_188 : decode cX3_keepTown 188 = .ok (.iastore, 1) := by decide +kernel
theorem dX3_keepTown_189 : decode cX3_keepTown 189 = .ok (.aload_n 0, 1) := by decide +kernel
theorem dX3_keepTown_190 : decode cX3_keepTown 190 = .ok (.aload_n 0, 1) := by decide +kernel
theorem dX3_keepTown_191 : decode cX3_keepTown 191 = .ok (.getfield 76, 3) := by decide +kernel
theorem dX3_keepTown_194 : decode cX3_keepTown 194 = .ok (.iload_n 2, 1) := by decide +kernel
theorem dX3_keepTown_195 : decode cX3_keepTown 195 = .ok (.iload_n 3, 1) := by decide +kernel
theorem dX3_keepTown_196 : decode cX3_keepTown 196 = .ok (.invokestatic 227, 3) := by decide +kernel
theorem dX3_keepTown_199 : decode cX3_keepTown 199 = .ok (.invokestatic 227, 3) := by decide +kernel
theorem dX3_keepTown_202 : decode cX3_keepTown 202 = .ok (.putfield 76, 3) := by decide +kernel
theorem dX3_keepTown_205 : decode cX3_keepTown 205 = .ok (.goto 11, 3) := by decide +kernel
theorem dX3_keepTown_208 : decode cX3_keepTown 208 = .ok (.aload_n 0, 1) := by decide +kernel
theorem dX3_keepTown_209 : decode cX3_keepTown 209 = .ok (.getfield 21, 3) := by decide +kernel
theorem dX3_keepTown_212 : decode cX3_keepTown 212 = .ok (.iload_n 2, 1) := by decide +kernel
theorem dX3_keepTown_213 : decode cX3_keepTown 213 = .ok (.invokevirtual 237, 3) := by decide +kernel
theorem dX3_keepTown_216 : decode cX3_keepTown 216 = .ok (.iload_n 1, 1) := by decide +kernel
theorem dX3_keepTown_217 : decode cX3_keepTown 217 = .ok (.iconst 1, 1) := by decide +kernel
theorem dX3_keepTown_218 : decode cX3_keepTown 218 = .ok (.if_icmp .lt 20, 3) := by decide +kernel
theorem dX3_keepTown_221 : decode cX3_keepTown 221 = .ok (.iload_n 1, 1) := by decide +kernel
theorem dX3_keepTown_222 : decode cX3_keepTown 222 = .ok (.iconst 4, 1) := by decide +kernel
theorem dX3_keepTown_223 : decode cX3_keepTown 223 = .ok (.if_icmp .gt 15, 3) := by decide +kernel
theorem dX3_keepTown_226 : decode cX3_keepTown 226 = .ok (.aload_n 0, 1) := by decide +kernel
theorem dX3_keepTown_227 : decode cX3_keepTown 227 = .ok (.aload_n 0, 1) := by decide +kernel
theorem dX3_keepTown_228 : decode cX3_keepTown 228 = .ok (.getfield 73, 3) := by decide +kernel
theorem dX3_keepTown_231 : decode cX3_keepTown 231 = .ok (.iload_n 2, 1) := by decide +kernel
theorem dX3_keepTown_232 : decode cX3_keepTown 232 = .ok (.invokestatic 227, 3) := by decide +kernel
theorem dX3_keepTown_235 : decode cX3_keepTown 235 = .ok (.putfield 73, 3) := by decide +kernel
theorem dX3_keepTown_238 : decode cX3_keepTown 238 = .ok (.return_, 1) := by decide +kernel
abbrev mX3_keepTown : MI := (yX3_keepTown, cX3_keepTown, 4, none, noE)
theorem okX3_keepTown : cok mX3_keepTown 1 := ⟨tw619, tw7, by decide, by decide, by decide, by decide +kernel⟩
def fX3_keepTown (M : Mem) (a0 a1 : Int) : Option Mem :=
  if M.2.1 a0 = 3 then if M.2.1 (M.1 a0 12) = 12 ∧ (0 : Int) ≤ 0 ∧ 0 < M.2.2.1 (M.1 a0 12) then if M.2.1 (M.1 a0 12) = 12 ∧ (0 : Int) ≤ 1 ∧ 1 < M.2.2.1 (M.1 a0 12) then jn (fun (t5 : Mem) => if a1 < 1 then (some t5) else (if 4 < a1 then (some t5) else (if t5.2.1 a0 = 3 then bM (mst t5 a0 14 (imax (t5.1 a0 14) (M.1 (M.1 a0 12) 0))) fun M9 => some M9 else none))) (fun (j4 : Mem → Option Mem) => if a1 = 0 then (if M.2.1 (M.1 a0 2) = 7 then bM (mst M (M.1 a0 2) 0 (M.1 (M.1 a0 12) 0)) fun M13 => j4 M13 else none) else if a1 = 1 then (if M.2.1 (M.1 a0 2) = 7 then (fX10_cell M (M.1 (M.1 a0 12) 0) (M.1 (M.1 a0 12) 1)).bind fun r17 => if M.2.1 (M.1 a0 12) = 12 ∧ (0 : Int) ≤ 2 ∧ 2 < M.2.2.1 (M.1 a0 12) then if M.2.1 (M.1 (M.1 a0 2) 2) = 12 ∧ (0 : Int) ≤ r17 ∧ r17 < M.2.2.1 (M.1 (M.1 a0 2) 2) then bM (mst M (M.1 (M.1 a0 2) 2) r17 (M.1 (M.1 a0 12) 2)) fun M21 => j4 M21 else none else none else none) else if a1 = 2 then (if M.2.1 (M.1 a0 2) = 7 then (fX10_cell M (M.1 (M.1 a0 12) 0) (M.1 (M.1 a0 12) 1)).bind fun r25 => if M.2.1 (M.1 a0 12) = 12 ∧ (0 : Int) ≤ 2 ∧ 2 < M.2.2.1 (M.1 a0 12) then if M.2.1 (M.1 (M.1 a0 2) 3) = 12 ∧ (0 : Int) ≤ r25 ∧ r25 < M.2.2.1 (M.1 (M.1 a0 2) 3) then bM (mst M (M.1 (M.1 a0 2) 3) r25 (M.1 (M.1 a0 12) 2)) fun M29 => j4 M29 else none else none else none) else if a1 = 3 then (if M.2.1 (M.1 a0 2) = 7 then if M.2.1 (M.1 (M.1 a0 2) 4) = 12 ∧ (0 : Int) ≤ (M.1 (M.1 a0 12) 0) ∧ (M.1 (M.1 a0 12) 0) < M.2.2.1 (M.1 (M.1 a0 2) 4) then bM (mst M (M.1 (M.1 a0 2) 4) (M.1 (M.1 a0 12) 0) (M.1 (M.1 a0 12) 1)) fun M34 => j4 M34 else none else none) else if a1 = 4 then (if M.2.1 (M.1 a0 2) = 7 then if M.2.1 (M.1 (M.1 a0 2) 5) = 12 ∧ (0 : Int) ≤ (M.1 (M.1 a0 12) 0) ∧ (M.1 (M.1 a0 12) 0) < M.2.2.1 (M.1 (M.1 a0 2) 5) then bM (mst M (M.1 (M.1 a0 2) 5) (M.1 (M.1 a0 12) 0) (M.1 (M.1 a0 12) 1)) fun M39 => bM (mst M39 a0 14 (imax (M39.1 a0 14) (M.1 (M.1 a0 12) 1))) fun M41 => j4 M41 else none else none) else if a1 = 5 then (if M.2.1 (M.1 a0 2) = 7 then if M.2.1 (M.1 (M.1 a0 2) 6) = 12 ∧ (0 : Int) ≤ (M.1 (M.1 a0 12) 0) ∧ (M.1 (M.1 a0 12) 0) < M.2.2.1 (M.1 (M.1 a0 2) 6) then bM (mst M (M.1 (M.1 a0 2) 6) (M.1 (M.1 a0 12) 0) (M.1 (M.1 a0 12) 1)) fun M46 => j4 M46 else none else none) else if a1 = 6 then (if M.2.1 (M.1 a0 2) = 7 then if M.2.1 (M.1 (M.1 a0 2) 7) = 12 ∧ (0 : Int) ≤ (M.1 (M.1 a0 12) 0) ∧ (M.1 (M.1 a0 12) 0) < M.2.2.1 (M.1 (M.1 a0 2) 7) then bM (mst M (M.1 (M.1 a0 2) 7) (M.1 (M.1 a0 12) 0) (M.1 (M.1 a0 12) 1)) fun M51 => j4 M51 else none else none) else if a1 = 7 then (if M.2.1 (M.1 a0 2) = 7 then if M.2.1 (M.1 (M.1 a0 2) 9) = 12 ∧ (0 : Int) ≤ (M.1 (M.1 a0 12) 0) ∧ (M.1 (M.1 a0 12) 0) < M.2.2.1 (M.1 (M.1 a0 2) 9) then bM (mst M (M.1 (M.1 a0 2) 9) (M.1 (M.1 a0 12) 0) (M.1 (M.1 a0 12) 1)) fun M56 => bM (mst M56 a0 15 (imax (M56.1 a0 15) (imax (M.1 (M.1 a0 12) 0) (M.1 (M.1 a0 12) 1)))) fun M58 => j4 M58 else none else none) else if M.2.1 (M.1 a0 2) = 7 then (fX7_addThief M (M.1 a0 2) (M.1 (M.1 a0 12) 0)).bind fun r60 => j4 r60 else none) else none else none else none
set_option maxRecDepth 100000 in
set_option maxHeartbeats 4000000 in
theorem kX3_keepTown (d : Nat) (hd : 1 ≤ d) (M : Mem) (a0 a1 : Int) : Ct mX3_keepTown d 0 0 [pA a0, pI a1] M dV (fX3_keepTown M a0 a1) := by
  obtain ⟨d, rfl⟩ : ∃ k, d = k + 1 := ⟨d - 1, by omega⟩
  refine Ct.of 2 (fun _ _ _ => trivial) (by decide +kernel) rfl ?_
  unfold fX3_keepTown
  refine v_aload_n dX3_keepTown_0 rfl ?_
  refine v_if (fun h1 => ?_)
  refine v_get (v := pA (M.1 a0 12)) 3 12 rfl inX3 (by decide) tw272 dX3_keepTown_1 h1 rfl ?_
  refine v_iconst dX3_keepTown_4 (by decide) ?_
  refine v_if (fun h2 => ?_)
  refine v_iaload h2 dX3_keepTown_5 ?_
  refine v_istore_n (ls' := [some (pA a0), some (pI a1), some (pI (M.1 (M.1 a0 12) 0)), none]) dX3_keepTown_6 (by decide) rfl ?_
  refine v_aload_n dX3_keepTown_7 rfl ?_
  refine v_get (v := pA (M.1 a0 12)) 3 12 rfl inX3 (by decide) tw272 dX3_keepTown_8 h1 rfl ?_
  refine v_iconst dX3_keepTown_11 (by decide) ?_
  refine v_if (fun h3 => ?_)
  refine v_iaload h3 dX3_keepTown_12 ?_
  refine v_istore_n (ls' := [some (pA a0), some (pI a1), some (pI (M.1 (M.1 a0 12) 0)), some (pI (M.1 (M.1 a0 12) 1))]) dX3_keepTown_13 (by decide) rfl ?_
  refine v_iload_n dX3_keepTown_14 rfl ?_
  refine v_join (fun (t5 : Mem) => [some (pA a0), some (pI a1), some (pI (M.1 (M.1 a0 12) 0)), none]) (fun (t5 : Mem) => []) (fun (t5 : Mem) => t5) 216 (fun t5 => ?_) (fun j4 hj4 => ?_)
  · refine v_iload_n dX3_keepTown_216 rfl ?_
    refine v_iconst dX3_keepTown_217 (by decide) ?_
    refine v_icmp_lt (tgt := 238) dX3_keepTown_218 (by decide) (fun c6 => ?_) (fun c6 => ?_)
    · exact v_return dX3_keepTown_238 rfl rfl
    · refine v_iload_n dX3_keepTown_221 rfl ?_
      refine v_iconst dX3_keepTown_222 (by decide) ?_
      refine v_icmp_gt (tgt := 238) dX3_keepTown_223 (by decide) (fun c7 => ?_) (fun c7 => ?_)
      · exact v_return dX3_keepTown_238 rfl rfl
      · refine v_aload_n dX3_keepTown_226 rfl ?_
        refine v_aload_n dX3_keepTown_227 rfl ?_
        refine v_if (fun h8 => ?_)
        refine v_get (v := pI (t5.1 a0 14)) 3 14 rfl inX3 (by decide) tw274 dX3_keepTown_228 h8 rfl ?_
        refine v_iload_n dX3_keepTown_231 rfl ?_
        refine v_mmax (mi := mX3_keepTown) tw623 tw624 tw12 tw625 (Nat.le_of_ble_eq_true rfl) dX3_keepTown_232 ?_
        refine v_put (x := imax (t5.1 a0 14) (M.1 (M.1 a0 12) 0)) 3 14 rfl inX3 (by decide) tw274 (Or.inl rfl) rfl dX3_keepTown_235 h8 rfl id ?_
        refine v_bM (fun M9 e10 => ?_)
        exact v_return dX3_keepTown_238 rfl rfl
  · refine v_ite (fun h11 => ?_) (fun h11 => ?_)
    · refine v_tabIn (off := 45) (tgt := 60) dX3_keepTown_15 h11 (by decide) ?_
      refine v_aload_n dX3_keepTown_60 rfl ?_
      refine v_get (v := pA (M.1 a0 2)) 3 2 rfl inX3 (by decide) tw258 dX3_keepTown_61 h1 rfl ?_
      refine v_iload_n dX3_keepTown_64 rfl ?_
      refine v_if (fun h12 => ?_)
      refine v_put (x := M.1 (M.1 a0 12) 0) 7 0 rfl inX7 (by decide) tw56 (Or.inl rfl) rfl dX3_keepTown_65 h12 rfl id ?_
      refine v_bM (fun M13 e14 => ?_)
      refine v_goto (tgt := 216) dX3_keepTown_68 (by decide) ?_
      exact v_drop [some (pA a0), some (pI a1), some (pI (M.1 (M.1 a0 12) 0)), none] (ls_s (ls_s (ls_s (ls_n ls_e)))) (hj4 M13)
    · refine v_ite (fun h15 => ?_) (fun h15 => ?_)
      · refine v_tabIn (off := 56) (tgt := 71) dX3_keepTown_15 h15 (by decide) ?_
        refine v_aload_n dX3_keepTown_71 rfl ?_
        refine v_get (v := pA (M.1 a0 2)) 3 2 rfl inX3 (by decide) tw258 dX3_keepTown_72 h1 rfl ?_
        refine v_if (fun h16 => ?_)
        refine v_get (v := pA (M.1 (M.1 a0 2) 2)) 7 2 rfl inX7 (by decide) tw71 dX3_keepTown_75 h16 rfl ?_
        refine v_iload_n dX3_keepTown_78 rfl ?_
        refine v_iload_n dX3_keepTown_79 rfl ?_
        refine v_cS (mi := mX3_keepTown) (c0 := 0) (c1 := 0) (As := [pI (M.1 (M.1 a0 12) 0), pI (M.1 (M.1 a0 12) 1)]) (st := [pA (M.1 (M.1 a0 2) 2)]) (kX10_cell d (by omega) _ _ _) okX10_cell (Or.inr nw8) tw621 rfl (Nat.le_of_ble_eq_true rfl) dX3_keepTown_80 (fun r17 => [pI r17, pA (M.1 (M.1 a0 2) 2)]) (fun r17 => M) (fun _ => rfl) (fun _ => rfl) (fun r17 h18 => ?_) rfl
        refine v_aload_n dX3_keepTown_83 rfl ?_
        refine v_get (v := pA (M.1 a0 12)) 3 12 rfl inX3 (by decide) tw272 dX3_keepTown_84 h1 rfl ?_
        refine v_iconst dX3_keepTown_87 (by decide) ?_
        refine v_if (fun h19 => ?_)
        refine v_iaload h19 dX3_keepTown_88 ?_
        refine v_if (fun h20 => ?_)
        refine v_iastore h20 dX3_keepTown_89 ?_
        refine v_bM (fun M21 e22 => ?_)
        refine v_goto (tgt := 216) dX3_keepTown_90 (by decide) ?_
        exact v_drop [some (pA a0), some (pI a1), some (pI (M.1 (M.1 a0 12) 0)), none] (ls_s (ls_s (ls_s (ls_n ls_e)))) (hj4 M21)
      · refine v_ite (fun h23 => ?_) (fun h23 => ?_)
        · refine v_tabIn (off := 78) (tgt := 93) dX3_keepTown_15 h23 (by decide) ?_
          refine v_aload_n dX3_keepTown_93 rfl ?_
          refine v_get (v := pA (M.1 a0 2)) 3 2 rfl inX3 (by decide) tw258 dX3_keepTown_94 h1 rfl ?_
          refine v_if (fun h24 => ?_)
          refine v_get (v := pA (M.1 (M.1 a0 2) 3)) 7 3 rfl inX7 (by decide) tw75 dX3_keepTown_97 h24 rfl ?_
          refine v_iload_n dX3_keepTown_100 rfl ?_
          refine v_iload_n dX3_keepTown_101 rfl ?_
          refine v_cS (mi := mX3_keepTown) (c0 := 0) (c1 := 0) (As := [pI (M.1 (M.1 a0 12) 0), pI (M.1 (M.1 a0 12) 1)]) (st := [pA (M.1 (M.1 a0 2) 3)]) (kX10_cell d (by omega) _ _ _) okX10_cell (Or.inr nw8) tw621 rfl (Nat.le_of_ble_eq_true rfl) dX3_keepTown_102 (fun r25 => [pI r25, pA (M.1 (M.1 a0 2) 3)]) (fun r25 => M) (fun _ => rfl) (fun _ => rfl) (fun r25 h26 => ?_) rfl
          refine v_aload_n dX3_keepTown_105 rfl ?_
          refine v_get (v := pA (M.1 a0 12)) 3 12 rfl inX3 (by decide) tw272 dX3_keepTown_106 h1 rfl ?_
          refine v_iconst dX3_keepTown_109 (by decide) ?_
          refine v_if (fun h27 => ?_)
          refine v_iaload h27 dX3_keepTown_110 ?_
          refine v_if (fun h28 => ?_)
          refine v_iastore h28 dX3_keepTown_111 ?_
          refine v_bM (fun M29 e30 => ?_)
          refine v_goto (tgt := 216) dX3_keepTown_112 (by decide) ?_
          exact v_drop [some (pA a0), some (pI a1), some (pI (M.1 (M.1 a0 12) 0)), none] (ls_s (ls_s (ls_s (ls_n ls_e)))) (hj4 M29)
        · refine v_ite (fun h31 => ?_) (fun h31 => ?_)
          · refine v_tabIn (off := 100) (tgt := 115) dX3_keepTown_15 h31 (by decide) ?_
            refine v_aload_n dX3_keepTown_115 rfl ?_
            refine v_get (v := pA (M.1 a0 2)) 3 2 rfl inX3 (by decide) tw258 dX3_keepTown_116 h1 rfl ?_
            refine v_if (fun h32 => ?_)
            refine v_get (v := pA (M.1 (M.1 a0 2) 4)) 7 4 rfl inX7 (by decide) tw80 dX3_keepTown_119 h32 rfl ?_
            refine v_iload_n dX3_keepTown_122 rfl ?_
            refine v_iload_n dX3_keepTown_123 rfl ?_
            refine v_if (fun h33 => ?_)
            refine v_iastore h33 dX3_keepTown_124 ?_
            refine v_bM (fun M34 e35 => ?_)
            refine v_goto (tgt := 216) dX3_keepTown_125 (by decide) ?_
            exact v_drop [some (pA a0), some (pI a1), some (pI (M.1 (M.1 a0 12) 0)), none] (ls_s (ls_s (ls_s (ls_n ls_e)))) (hj4 M34)
          · refine v_ite (fun h36 => ?_) (fun h36 => ?_)
            · refine v_tabIn (off := 113) (tgt := 128) dX3_keepTown_15 h36 (by decide) ?_
              refine v_aload_n dX3_keepTown_128 rfl ?_
              refine v_get (v := pA (M.1 a0 2)) 3 2 rfl inX3 (by decide) tw258 dX3_keepTown_129 h1 rfl ?_
              refine v_if (fun h37 => ?_)
              refine v_get (v := pA (M.1 (M.1 a0 2) 5)) 7 5 rfl inX7 (by decide) tw83 dX3_keepTown_132 h37 rfl ?_
              refine v_iload_n dX3_keepTown_135 rfl ?_
              refine v_iload_n dX3_keepTown_136 rfl ?_
              refine v_if (fun h38 => ?_)
              refine v_iastore h38 dX3_keepTown_137 ?_
              refine v_bM (fun M39 e40 => ?_)
              refine v_aload_n dX3_keepTown_138 rfl ?_
              refine v_aload_n dX3_keepTown_139 rfl ?_
              refine v_get (v := pI (M39.1 a0 14)) 3 14 rfl inX3 (by decide) tw274 dX3_keepTown_140 (by rw [e40]; exact h1) rfl ?_
              refine v_iload_n dX3_keepTown_143 rfl ?_
              refine v_mmax (mi := mX3_keepTown) tw623 tw624 tw12 tw625 (Nat.le_of_ble_eq_true rfl) dX3_keepTown_144 ?_
              refine v_put (x := imax (M39.1 a0 14) (M.1 (M.1 a0 12) 1)) 3 14 rfl inX3 (by decide) tw274 (Or.inl rfl) rfl dX3_keepTown_147 (by rw [e40]; exact h1) rfl id ?_
              refine v_bM (fun M41 e42 => ?_)
              refine v_goto (tgt := 216) dX3_keepTown_150 (by decide) ?_
              exact v_drop [some (pA a0), some (pI a1), some (pI (M.1 (M.1 a0 12) 0)), none] (ls_s (ls_s (ls_s (ls_n ls_e)))) (hj4 M41)
            · refine v_ite (fun h43 => ?_) (fun h43 => ?_)
              · refine v_tabIn (off := 138) (tgt := 153) dX3_keepTown_15 h43 (by decide) ?_
                refine v_aload_n dX3_keepTown_153 rfl ?_
                refine v_get (v := pA (M.1 a0 2)) 3 2 rfl inX3 (by decide) tw258 dX3_keepTown_154 h1 rfl ?_
                refine v_if (fun h44 => ?_)
                refine v_get (v := pA (M.1 (M.1 a0 2) 6)) 7 6 rfl inX7 (by decide) tw88 dX3_keepTown_157 h44 rfl ?_
                refine v_iload_n dX3_keepTown_160 rfl ?_
                refine v_iload_n dX3_keepTown_161 rfl ?_
                refine v_if (fun h45 => ?_)
                refine v_iastore h45 dX3_keepTown_162 ?_
                refine v_bM (fun M46 e47 => ?_)
                refine v_goto (tgt := 216) dX3_keepTown_163 (by decide) ?_
                exact v_drop [some (pA a0), some (pI a1), some (pI (M.1 (M.1 a0 12) 0)), none] (ls_s (ls_s (ls_s (ls_n ls_e)))) (hj4 M46)
              · refine v_ite (fun h48 => ?_) (fun h48 => ?_)
                · refine v_tabIn (off := 151) (tgt := 166) dX3_keepTown_15 h48 (by decide) ?_
                  refine v_aload_n dX3_keepTown_166 rfl ?_
                  refine v_get (v := pA (M.1 a0 2)) 3 2 rfl inX3 (by decide) tw258 dX3_keepTown_167 h1 rfl ?_
                  refine v_if (fun h49 => ?_)
                  refine v_get (v := pA (M.1 (M.1 a0 2) 7)) 7 7 rfl inX7 (by decide) tw92 dX3_keepTown_170 h49 rfl ?_
                  refine v_iload_n dX3_keepTown_173 rfl ?_
                  refine v_iload_n dX3_keepTown_174 rfl ?_
                  refine v_if (fun h50 => ?_)
                  refine v_iastore h50 dX3_keepTown_175 ?_
                  refine v_bM (fun M51 e52 => ?_)
                  refine v_goto (tgt := 216) dX3_keepTown_176 (by decide) ?_
                  exact v_drop [some (pA a0), some (pI a1), some (pI (M.1 (M.1 a0 12) 0)), none] (ls_s (ls_s (ls_s (ls_n ls_e)))) (hj4 M51)
                · refine v_ite (fun h53 => ?_) (fun h53 => ?_)
                  · refine v_tabIn (off := 164) (tgt := 179) dX3_keepTown_15 h53 (by decide) ?_
                    refine v_aload_n dX3_keepTown_179 rfl ?_
                    refine v_get (v := pA (M.1 a0 2)) 3 2 rfl inX3 (by decide) tw258 dX3_keepTown_180 h1 rfl ?_
                    refine v_if (fun h54 => ?_)
                    refine v_get (v := pA (M.1 (M.1 a0 2) 9)) 7 9 rfl inX7 (by decide) tw98 dX3_keepTown_183 h54 rfl ?_
                    refine v_iload_n dX3_keepTown_186 rfl ?_
                    refine v_iload_n dX3_keepTown_187 rfl ?_
                    refine v_if (fun h55 => ?_)
                    refine v_iastore h55 dX3_keepTown_188 ?_
                    refine v_bM (fun M56 e57 => ?_)
                    refine v_aload_n dX3_keepTown_189 rfl ?_
                    refine v_aload_n dX3_keepTown_190 rfl ?_
                    refine v_get (v := pI (M56.1 a0 15)) 3 15 rfl inX3 (by decide) tw275 dX3_keepTown_191 (by rw [e57]; exact h1) rfl ?_
                    refine v_iload_n dX3_keepTown_194 rfl ?_
                    refine v_iload_n dX3_keepTown_195 rfl ?_
                    refine v_mmax (mi := mX3_keepTown) tw623 tw624 tw12 tw625 (Nat.le_of_ble_eq_true rfl) dX3_keepTown_196 ?_
                    refine v_mmax (mi := mX3_keepTown) tw623 tw624 tw12 tw625 (Nat.le_of_ble_eq_true rfl) dX3_keepTown_199 ?_
                    refine v_put (x := imax (M56.1 a0 15) (imax (M.1 (M.1 a0 12) 0) (M.1 (M.1 a0 12) 1))) 3 15 rfl inX3 (by decide) tw275 (Or.inl rfl) rfl dX3_keepTown_202 (by rw [e57]; exact h1) rfl id ?_
                    refine v_bM (fun M58 e59 => ?_)
                    refine v_goto (tgt := 216) dX3_keepTown_205 (by decide) ?_
                    exact v_drop [some (pA a0), some (pI a1), some (pI (M.1 (M.1 a0 12) 0)), none] (ls_s (ls_s (ls_s (ls_n ls_e)))) (hj4 M58)
                  · refine v_tabOut (tgt := 208) dX3_keepTown_15 (by omega) (by decide) ?_
                    refine v_aload_n dX3_keepTown_208 rfl ?_
                    refine v_get (v := pA (M.1 a0 2)) 3 2 rfl inX3 (by decide) tw258 dX3_keepTown_209 h1 rfl ?_
                    refine v_iload_n dX3_keepTown_212 rfl ?_
                    refine v_if (fun h62 => ?_)
                    refine v_cV (mi := mX3_keepTown) (c0 := 0) (c1 := 0) (As := [pI (M.1 (M.1 a0 12) 0)]) (st := []) (kX7_addThief d (by omega) _ _ _) rfl h62 rfl okX7_addThief (Or.inl tw626) tw627 tw628 rfl (Nat.le_of_ble_eq_true rfl) dX3_keepTown_213 (fun r60 => []) (fun r60 => r60) (fun _ => rfl) (fun _ => rfl) (fun r60 h61 => ?_) rfl
                    exact v_drop [some (pA a0), some (pI a1), some (pI (M.1 (M.1 a0 12) 0)), none] (ls_s (ls_s (ls_s (ls_n ls_e)))) (hj4 r60)
theorem dX3_keepLaw_0 : decode cX3_keepLaw 0 = .ok (.iload_n 1, 1) := by decide +kernel
theorem dX3_keepLaw_1 : decode cX3_keepLaw 1 = .ok (.bipush 9, 2) := by decide +kernel
theorem dX3_keepLaw_3 : decode cX3_keepLaw 3 = .ok (.if_icmp .ne 19, 3) := by decide +kernel
theorem dX3_keepLaw_6 : decode cX3_keepLaw 6 = .ok (.aload_n 0, 1) := by decide +kernel
theorem dX3_keepLaw_7 : decode cX3_keepLaw 7 = .ok (.getfield 28, 3) := by decide +kernel
theorem dX3_keepLaw_10 : decode cX3_keepLaw 10 = .ok (.aload_n 0, 1) := by decide +kernel
theorem dX3_keepLaw_11 : decode cX3_keepLaw 11 = .ok (.getfield 65, 3) := by decide +kernel
theorem dX3_keepLaw_14 : decode cX3_keepLaw 14 = .ok (.iconst 0, 1) := by decide +kernel
theorem dX3_keepLaw_15 : decode cX3_keepLaw 15 = .ok (.iaload, 1) := by decide +kernel
theorem dX3_keepLaw_16 : decode cX3_keepLaw 16 = .ok (.putfield 240, 3) := by decide +kernel
theorem dX3_keepLaw_19 : decode cX3_keepLaw 19 = .ok (.goto 45, 3) := by decide +kernel
theorem dX3_keepLaw_22 : decode cX3_keepLaw 22 = .ok (.iload_n 1, 1) := by decide +kernel
theorem dX3_keepLaw_23 : decode cX3_keepLaw 23 = .ok (.bipush 10, 2) := by decide +kernel
theorem dX3_keepLaw_25 : decode cX3_keepLaw 25 = .ok (.if_icmp .ne 19, 3) := by decide +kernel
theorem dX3_keepLaw_28 : decode cX3_keepLaw 28 = .ok (.aload_n 0, 1) := by decide +kernel
theorem dX3_keepLaw_29 : decode cX3_keepLaw 29 = .ok (.getfield 28, 3) := by decide +kernel
theorem dX3_keepLaw_32 : decode cX3_keepLaw 32 = .ok (.aload_n 0, 1) := by decide +kernel
theorem dX3_keepLaw_33 : decode cX3_keepLaw 33 = .ok (.getfield 65, 3) := by decide +kernel
theorem dX3_keepLaw_36 : decode cX3_keepLaw 36 = .ok (.iconst 0, 1) := by decide +kernel
theorem dX3_keepLaw_37 : decode cX3_keepLaw 37 = .ok (.iaload, 1) := by decide +kernel
theorem dX3_keepLaw_38 : decode cX3_keepLaw 38 = .ok (.putfield 242, 3) := by decide +kernel
theorem dX3_keepLaw_41 : decode cX3_keepLaw 41 = .ok (.goto 23, 3) := by decide +kernel
theorem dX3_keepLaw_44 : decode cX3_keepLaw 44 = .ok (.aload_n 0, 1) := by decide +kernel
theorem dX3_keepLaw_45 : decode cX3_keepLaw 45 = .ok (.getfield 28, 3) := by decide +kernel
theorem dX3_keepLaw_48 : decode cX3_keepLaw 48 = .ok (.dup, 1) := by decide +kernel
theorem dX3_keepLaw_49 : decode cX3_keepLaw 49 = .ok (.getfield 245, 3) := by decide +kernel
theorem dX3_keepLaw_52 : decode cX3_keepLaw 52 = .ok (.iconst 1, 1) := by decide +kernel
theorem dX3_keepLaw_53 : decode cX3_keepLaw 53 = .ok (.aload_n 0, 1) := by decide +kernel
theorem dX3_keepLaw_54 : decode cX3_keepLaw 54 = .ok (.getfield 65, 3) := by decide +kernel
theorem dX3_keepLaw_57 : decode cX3_keepLaw 57 = .ok (.iconst 0, 1) := by decide +kernel
theorem dX3_keepLaw_58 : decode cX3_keepLaw 58 = .ok (.iaload, 1) := by decide +kernel
theorem dX3_keepLaw_59 : decode cX3_keepLaw 59 = .ok (.ishl, 1) := by decide +kernel
theorem dX3_keepLaw_60 : decode cX3_keepLaw 60 = .ok (.ior, 1) := by decide +kernel
theorem dX3_keepLaw_61 : decode cX3_keepLaw 61 = .ok (.putfield 245, 3) := by decide +kernel
theorem dX3_keepLaw_64 : decode cX3_keepLaw 64 = .ok (.return_, 1) := by decide +kernel
abbrev mX3_keepLaw : MI := (yX3_keepLaw, cX3_keepLaw, 2, none, noE)
theorem okX3_keepLaw : cok mX3_keepLaw 1 := ⟨tw633, tw7, by decide, by decide, by decide, by decide +kernel⟩
def fX3_keepLaw (M : Mem) (a0 a1 : Int) : Option Mem :=
  if a1 = 9 then (if M.2.1 a0 = 3 then if M.2.1 (M.1 a0 12) = 12 ∧ (0 : Int) ≤ 0 ∧ 0 < M.2.2.1 (M.1 a0 12) then if M.2.1 (M.1 a0 3) = 0 then bM (mst M (M.1 a0 3) 0 (M.1 (M.1 a0 12) 0)) fun M5 => some M5 else none else none else none) else (if a1 = 10 then (if M.2.1 a0 = 3 then if M.2.1 (M.1 a0 12) = 12 ∧ (0 : Int) ≤ 0 ∧ 0 < M.2.2.1 (M.1 a0 12) then if M.2.1 (M.1 a0 3) = 0 then bM (mst M (M.1 a0 3) 1 (M.1 (M.1 a0 12) 0)) fun M11 => some M11 else none else none else none) else (if M.2.1 a0 = 3 then if M.2.1 (M.1 a0 3) = 0 then if M.2.1 (M.1 a0 12) = 12 ∧ (0 : Int) ≤ 0 ∧ 0 < M.2.2.1 (M.1 a0 12) then bM (mst M (M.1 a0 3) 2 (bOr (M.1 (M.1 a0 3) 2) (bShl 1 (M.1 (M.1 a0 12) 0)))) fun M16 => some M16 else none else none else none))
set_option maxRecDepth 100000 in
set_option maxHeartbeats 4000000 in
theorem kX3_keepLaw (d : Nat) (hd : 0 ≤ d) (M : Mem) (a0 a1 : Int) : Ct mX3_keepLaw d 0 0 [pA a0, pI a1] M dV (fX3_keepLaw M a0 a1) := by
  refine Ct.of 0 (fun _ _ _ => trivial) (by decide +kernel) rfl ?_
  unfold fX3_keepLaw
  refine v_iload_n dX3_keepLaw_0 rfl ?_
  refine v_bipush dX3_keepLaw_1 (by decide) ?_
  refine v_icmp_ne (tgt := 22) dX3_keepLaw_3 (by decide) (fun c1 => ?_) (fun c1 => ?_)
  · refine v_aload_n dX3_keepLaw_6 rfl ?_
    refine v_if (fun h2 => ?_)
    refine v_get (v := pA (M.1 a0 3)) 3 3 rfl inX3 (by decide) tw260 dX3_keepLaw_7 h2 rfl ?_
    refine v_aload_n dX3_keepLaw_10 rfl ?_
    refine v_get (v := pA (M.1 a0 12)) 3 12 rfl inX3 (by decide) tw272 dX3_keepLaw_11 h2 rfl ?_
    refine v_iconst dX3_keepLaw_14 (by decide) ?_
    refine v_if (fun h3 => ?_)
    refine v_iaload h3 dX3_keepLaw_15 ?_
    refine v_if (fun h4 => ?_)
    refine v_put (x := M.1 (M.1 a0 12) 0) 0 0 rfl inX0 (by decide) tw129 (Or.inl rfl) rfl dX3_keepLaw_16 h4 rfl id ?_
    refine v_bM (fun M5 e6 => ?_)
    refine v_goto (tgt := 64) dX3_keepLaw_19 (by decide) ?_
    exact v_return dX3_keepLaw_64 rfl rfl
  · refine v_iload_n dX3_keepLaw_22 rfl ?_
    refine v_bipush dX3_keepLaw_23 (by decide) ?_
    refine v_icmp_ne (tgt := 44) dX3_keepLaw_25 (by decide) (fun c7 => ?_) (fun c7 => ?_)
    · refine v_aload_n dX3_keepLaw_28 rfl ?_
      refine v_if (fun h8 => ?_)
      refine v_get (v := pA (M.1 a0 3)) 3 3 rfl inX3 (by decide) tw260 dX3_keepLaw_29 h8 rfl ?_
      refine v_aload_n dX3_keepLaw_32 rfl ?_
      refine v_get (v := pA (M.1 a0 12)) 3 12 rfl inX3 (by decide) tw272 dX3_keepLaw_33 h8 rfl ?_
      refine v_iconst dX3_keepLaw_36 (by decide) ?_
      refine v_if (fun h9 => ?_)
      refine v_iaload h9 dX3_keepLaw_37 ?_
      refine v_if (fun h10 => ?_)
      refine v_put (x := M.1 (M.1 a0 12) 0) 0 1 rfl inX0 (by decide) tw133 (Or.inl rfl) rfl dX3_keepLaw_38 h10 rfl id ?_
      refine v_bM (fun M11 e12 => ?_)
      refine v_goto (tgt := 64) dX3_keepLaw_41 (by decide) ?_
      exact v_return dX3_keepLaw_64 rfl rfl
    · refine v_aload_n dX3_keepLaw_44 rfl ?_
      refine v_if (fun h13 => ?_)
      refine v_get (v := pA (M.1 a0 3)) 3 3 rfl inX3 (by decide) tw260 dX3_keepLaw_45 h13 rfl ?_
      refine v_dup dX3_keepLaw_48 (by intro z hz; cases hz) ?_
      refine v_if (fun h14 => ?_)
      refine v_get (v := pI (M.1 (M.1 a0 3) 2)) 0 2 rfl inX0 (by decide) tw135 dX3_keepLaw_49 h14 rfl ?_
      refine v_iconst dX3_keepLaw_52 (by decide) ?_
      refine v_aload_n dX3_keepLaw_53 rfl ?_
      refine v_get (v := pA (M.1 a0 12)) 3 12 rfl inX3 (by decide) tw272 dX3_keepLaw_54 h13 rfl ?_
      refine v_iconst dX3_keepLaw_57 (by decide) ?_
      refine v_if (fun h15 => ?_)
      refine v_iaload h15 dX3_keepLaw_58 ?_
      refine v_ishl dX3_keepLaw_59 ?_
      refine v_ior dX3_keepLaw_60 ?_
      refine v_put (x := bOr (M.1 (M.1 a0 3) 2) (bShl 1 (M.1 (M.1 a0 12) 0))) 0 2 rfl inX0 (by decide) tw135 (Or.inl rfl) rfl dX3_keepLaw_61 h14 rfl id ?_
      refine v_bM (fun M16 e17 => ?_)
      exact v_return dX3_keepLaw_64 rfl rfl
theorem dX3_keepLine_0 : decode cX3_keepLine 0 = .ok (.iload_n 1, 1) := by decide +kernel
theorem dX3_keepLine_1 : decode cX3_keepLine 1 = .ok (.bipush 9, 2) := by decide +kernel
theorem dX3_keepLine_3 : decode cX3_keepLine 3 = .ok (.if_icmp .ge 11, 3) := by decide +kernel
theorem dX3_keepLine_6 : decode cX3_keepLine 6 = .ok (.aload_n 0, 1) := by decide +kernel
theorem dX3_keepLine_7 : decode cX3_keepLine 7 = .ok (.iload_n 1, 1) := by decide +kernel
theorem dX3_keepLine_8 : decode cX3_keepLine 8 = .ok (.invokevirtual 202, 3) := by decide +kernel
theorem dX3_keepLine_11 : decode cX3_keepLine 11 = .ok (.goto 134, 3) := by decide +kernel
theorem dX3_keepLine_14 : decode cX3_keepLine 14 = .ok (.iload_n 1, 1) := by decide +kernel
theorem dX3_keepLine_15 : decode cX3_keepLine 15 = .ok (.bipush 12, 2) := by decide +kernel
theorem dX3_keepLine_17 : decode cX3_keepLine 17 = .ok (.if_icmp .ge 11, 3) := by decide +kernel
theorem dX3_keepLine_20 : decode cX3_keepLine 20 = .ok (.aload_n 0, 1) := by decide +kernel
theorem dX3_keepLine_21 : decode cX3_keepLine 21 = .ok (.iload_n 1, 1) := by decide +kernel
theorem dX3_keepLine_22 : decode cX3_keepLine 22 = .ok (.invokevirtual 205, 3) := by decide +kernel
theorem dX3_keepLine_25 : decode cX3_keepLine 25 = .ok (.goto 120, 3) := by decide +kernel
theorem dX3_keepLine_28 : decode cX3_keepLine 28 = .ok (.iload_n 1, 1) := by decide +kernel
theorem dX3_keepLine_29 : decode cX3_keepLine 29 = .ok (.bipush 15, 2) := by decide +kernel
theorem dX3_keepLine_31 : decode cX3_keepLine 31 = .ok (.if_icmp .ne 17, 3) := by decide +kernel
theorem dX3_keepLine_34 : decode cX3_keepLine 34 = .ok (.aload_n 0, 1) := by decide +kernel
theorem dX3_keepLine_35 : decode cX3_keepLine 35 = .ok (.getfield 35, 3) := by decide +kernel
theorem dX3_keepLine_38 : decode cX3_keepLine 38 = .ok (.iconst 3, 1) := by decide +kernel
theorem dX3_keepLine_39 : decode cX3_keepLine 39 = .ok (.iconst (-1), 1) := by decide +kernel
theorem dX3_keepLine_40 : decode cX3_keepLine 40 = .ok (.iconst (-1), 1) := by decide +kernel
theorem dX3_keepLine_41 : decode cX3_keepLine 41 = .ok (.iconst (-1), 1) := by decide +kernel
theorem dX3_keepLine_42 : decode cX3_keepLine 42 = .ok (.invokevirtual 208, 3) := by decide +kernel
theorem dX3_keepLine_45 : decode cX3_keepLine 45 = .ok (.goto 100, 3) := by decide +kernel
theorem dX3_keepLine_48 : decode cX3_keepLine 48 = .ok (.iload_n 1, 1) := by decide +kernel
theorem dX3_keepLine_49 : decode cX3_keepLine 49 = .ok (.bipush 15, 2) := by decide +kernel
theorem dX3_keepLine_51 : decode cX3_keepLine 51 = .ok (.if_icmp .ge 37, 3) := by decide +kernel
theorem dX3_keepLine_54 : decode cX3_keepLine 54 = .ok (.aload_n 0, 1) := by decide +kernel
theorem dX3_keepLine_55 : decode cX3_keepLine 55 = .ok (.getfield 35, 3) := by decide +kernel
theorem dX3_keepLine_58 : decode cX3_keepLine 58 = .ok (.iconst 0, 1) := by decide +kernel
theorem dX3_keepLine_59 : decode cX3_keepLine 59 = .ok (.iload_n 1, 1) := by decide +kernel
theorem dX3_keepLine_60 : decode cX3_keepLine 60 = .ok (.iadd, 1) := by decide +kernel
theorem dX3_keepLine_61 : decode cX3_keepLine 61 = .ok (.bipush 12, 2) := by decide +kernel
theorem dX3_keepLine_63 : decode cX3_keepLine 63 = .ok (.isub, 1) := by decide +kernel
theorem dX3_keepLine_64 : decode cX3_keepLine 64 = .ok (.aload_n 0, 1) := by decide +kernel
theorem dX3_keepLine_65 : decode cX3_keepLine 65 = .ok (.getfield 65, 3) := by decide +kernel
theorem dX3_keepLine_68 : decode cX3_keepLine 68 = .ok (.iconst 0, 1) := by decide +kernel
theorem dX3_keepLine_69 : decode cX3_keepLine 69 = .ok (.iaload, 1) := by decide +kernel
theorem dX3_keepLine_70 : decode cX3_keepLine 70 = .ok (.aload_n 0, 1) := by decide +kernel
theorem dX3_keepLine_71 : decode cX3_keepLine 71 = .ok (.getfield 65, 3) := by decide +kernel
theorem dX3_keepLine_74 : decode cX3_keepLine 74 = .ok (.iconst 1, 1) := by decide +kernel
theorem dX3_keepLine_75 : decode cX3_keepLine 75 = .ok (.iaload, 1) := by decide +kernel
theorem dX3_keepLine_76 : decode cX3_keepLine 76 = .ok (.aload_n 0, 1) := by decide +kernel
theorem dX3_keepLine_77 : decode cX3_keepLine 77 = .ok (.getfield 65, 3) := by decide +kernel
theorem dX3_keepLine_80 : decode cX3_keepLine 80 = .ok (.iconst 2, 1) := by decide +kernel
theorem dX3_keepLine_81 : decode cX3_keepLine 81 = .ok (.iaload, 1) := by decide +kernel
theorem dX3_keepLine_82 : decode cX3_keepLine 82 = .ok (.invokevirtual 208, 3) := by decide +kernel
theorem dX3_keepLine_85 : decode cX3_keepLine 85 = .ok (.goto 60, 3) := by decide +kernel
theorem dX3_keepLine_88 : decode cX3_keepLine 88 = .ok (.iload_n 1, 1) := by decide +kernel
theorem dX3_keepLine_89 : decode cX3_keepLine 89 = .ok (.bipush 16, 2) := by decide +kernel
theorem dX3_keepLine_91 : decode cX3_keepLine 91 = .ok (.if_icmp .ne 25, 3) := by decide +kernel
theorem dX3_keepLine_94 : decode cX3_keepLine 94 = .ok (.aload_n 0, 1) := by decide +kernel
theorem dX3_keepLine_95 : decode cX3_keepLine 95 = .ok (.getfield 42, 3) := by decide +kernel
theorem dX3_keepLine_98 : decode cX3_keepLine 98 = .ok (.aload_n 0, 1) := by decide +kernel
theorem dX3_keepLine_99 : decode cX3_keepLine 99 = .ok (.getfield 65, 3) := by decide +kernel
theorem dX3_keepLine_102 : decode cX3_keepLine 102 = .ok (.iconst 0, 1) := by decide +kernel
theorem dX3_keepLine_103 : decode cX3_keepLine 103 = .ok (.iaload, 1) := by decide +kernel
theorem dX3_keepLine_104 : decode cX3_keepLine 104 = .ok (.aload_n 0, 1) := by decide +kernel
theorem dX3_keepLine_105 : decode cX3_keepLine 105 = .ok (.getfield 65, 3) := by decide +kernel
theorem dX3_keepLine_108 : decode cX3_keepLine 108 = .ok (.iconst 1, 1) := by decide +kernel
theorem dX3_keepLine_109 : decode cX3_keepLine 109 = .ok (.iaload, 1) := by decide +kernel
theorem dX3_keepLine_110 : decode cX3_keepLine 110 = .ok (.invokevirtual 212, 3) := by decide +kernel
theorem dX3_keepLine_113 : decode cX3_keepLine 113 = .ok (.goto 32, 3) := by decide +kernel
theorem dX3_keepLine_116 : decode cX3_keepLine 116 = .ok (.aload_n 0, 1) := by decide +kernel
theorem dX3_keepLine_117 : decode cX3_keepLine 117 = .ok (.getfield 42, 3) := by decide +kernel
theorem dX3_keepLine_120 : decode cX3_keepLine 120 = .ok (.getfield 214, 3) := by decide +kernel
theorem dX3_keepLine_123 : decode cX3_keepLine 123 = .ok (.aload_n 0, 1) := by decide +kernel
theorem dX3_keepLine_124 : decode cX3_keepLine 124 = .ok (.getfield 65, 3) := by decide +kernel
theorem dX3_keepLine_127 : decode cX3_keepLine 127 = .ok (.iconst 0, 1) := by decide +kernel
theorem dX3_keepLine_128 : decode cX3_keepLine 128 = .ok (.iaload, 1) := by decide +kernel
theorem dX3_keepLine_129 : decode cX3_keepLine 129 = .ok (.aload_n 0, 1) := by decide +kernel
theorem dX3_keepLine_130 : decode cX3_keepLine 130 = .ok (.getfield 65, 3) := by decide +kernel
theorem dX3_keepLine_133 : decode cX3_keepLine 133 = .ok (.iconst 1, 1) := by decide +kernel
theorem dX3_keepLine_134 : decode cX3_keepLine 134 = .ok (.iaload, 1) := by decide +kernel
theorem dX3_keepLine_135 : decode cX3_keepLine 135 = .ok (.invokestatic 216, 3) := by decide +kernel
theorem dX3_keepLine_138 : decode cX3_keepLine 138 = .ok (.aload_n 0, 1) := by decide +kernel
theorem dX3_keepLine_139 : decode cX3_keepLine 139 = .ok (.getfield 65, 3) := by decide +kernel
theorem dX3_keepLine_142 : decode cX3_keepLine 142 = .ok (.iconst 2, 1) := by decide +kernel
theorem dX3_keepLine_143 : decode cX3_keepLine 143 = .ok (.iaload, 1) := by decide +kernel
theorem dX3_keepLine_144 : decode cX3_keepLine 144 = .ok (.iastore, 1) := by decide +kernel
theorem dX3_keepLine_145 : decode cX3_keepLine 145 = .ok (.return_, 1) := by decide +kernel
abbrev mX3_keepLine : MI := (yX3_keepLine, cX3_keepLine, 2, none, noE)
theorem okX3_keepLine : cok mX3_keepLine 1 := ⟨tw615, tw7, by decide, by decide, by decide, by decide +kernel⟩
def fX3_keepLine (M : Mem) (a0 a1 : Int) : Option Mem :=
  if a1 < 9 then (if M.2.1 a0 = 3 then (fX3_keepTown M a0 a1).bind fun r2 => some r2 else none) else (if a1 < 12 then (if M.2.1 a0 = 3 then (fX3_keepLaw M a0 a1).bind fun r6 => some r6 else none) else (if a1 = 15 then (if M.2.1 a0 = 3 then if M.2.1 (M.1 a0 4) = 1 then (fX1_add M (M.1 a0 4) 3 (-1) (-1) (-1)).bind fun r11 => some r11 else none else none) else (if a1 < 15 then (if M.2.1 a0 = 3 then if M.2.1 (M.1 a0 12) = 12 ∧ (0 : Int) ≤ 0 ∧ 0 < M.2.2.1 (M.1 a0 12) then if M.2.1 (M.1 a0 12) = 12 ∧ (0 : Int) ≤ 1 ∧ 1 < M.2.2.1 (M.1 a0 12) then if M.2.1 (M.1 a0 12) = 12 ∧ (0 : Int) ≤ 2 ∧ 2 < M.2.2.1 (M.1 a0 12) then if M.2.1 (M.1 a0 4) = 1 then (fX1_add M (M.1 a0 4) (w32 ((w32 (0 + a1)) - 12)) (M.1 (M.1 a0 12) 0) (M.1 (M.1 a0 12) 1) (M.1 (M.1 a0 12) 2)).bind fun r19 => some r19 else none else none else none else none else none) else (if a1 = 16 then (if M.2.1 a0 = 3 then if M.2.1 (M.1 a0 12) = 12 ∧ (0 : Int) ≤ 0 ∧ 0 < M.2.2.1 (M.1 a0 12) then if M.2.1 (M.1 a0 12) = 12 ∧ (0 : Int) ≤ 1 ∧ 1 < M.2.2.1 (M.1 a0 12) then if M.2.1 (M.1 a0 5) = 4 then (fX4_add M (M.1 a0 5) (M.1 (M.1 a0 12) 0) (M.1 (M.1 a0 12) 1)).bind fun r26 => some r26 else none else none else none else none) else (if M.2.1 a0 = 3 then if M.2.1 (M.1 a0 5) = 4 then if M.2.1 (M.1 a0 12) = 12 ∧ (0 : Int) ≤ 0 ∧ 0 < M.2.2.1 (M.1 a0 12) then if M.2.1 (M.1 a0 12) = 12 ∧ (0 : Int) ≤ 1 ∧ 1 < M.2.2.1 (M.1 a0 12) then (fX10_cell M (M.1 (M.1 a0 12) 0) (M.1 (M.1 a0 12) 1)).bind fun r33 => if M.2.1 (M.1 a0 12) = 12 ∧ (0 : Int) ≤ 2 ∧ 2 < M.2.2.1 (M.1 a0 12) then if M.2.1 (M.1 (M.1 a0 5) 3) = 12 ∧ (0 : Int) ≤ r33 ∧ r33 < M.2.2.1 (M.1 (M.1 a0 5) 3) then bM (mst M (M.1 (M.1 a0 5) 3) r33 (M.1 (M.1 a0 12) 2)) fun M37 => some M37 else none else none else none else none else none else none)))))
set_option maxRecDepth 100000 in
set_option maxHeartbeats 4000000 in
theorem kX3_keepLine (d : Nat) (hd : 2 ≤ d) (M : Mem) (a0 a1 : Int) : Ct mX3_keepLine d 0 0 [pA a0, pI a1] M dV (fX3_keepLine M a0 a1) := by
  obtain ⟨d, rfl⟩ : ∃ k, d = k + 1 := ⟨d - 1, by omega⟩
  refine Ct.of 0 (fun _ _ _ => trivial) (by decide +kernel) rfl ?_
  unfold fX3_keepLine
  refine v_iload_n dX3_keepLine_0 rfl ?_
  refine v_bipush dX3_keepLine_1 (by decide) ?_
  refine v_icmp_ge (tgt := 14) dX3_keepLine_3 (by decide) (fun c1 => ?_) (fun c1 => ?_)
  · refine v_aload_n dX3_keepLine_6 rfl ?_
    refine v_iload_n dX3_keepLine_7 rfl ?_
    refine v_if (fun h4 => ?_)
    refine v_cV (mi := mX3_keepLine) (c0 := 0) (c1 := 0) (As := [pI a1]) (st := []) (kX3_keepTown d (by omega) _ _ _) rfl h4 rfl okX3_keepTown (Or.inl tw616) tw618 tp12 rfl (Nat.le_of_ble_eq_true rfl) dX3_keepLine_8 (fun r2 => []) (fun r2 => r2) (fun _ => rfl) (fun _ => rfl) (fun r2 h3 => ?_) rfl
    refine v_goto (tgt := 145) dX3_keepLine_11 (by decide) ?_
    exact v_return dX3_keepLine_145 rfl rfl
  · refine v_iload_n dX3_keepLine_14 rfl ?_
    refine v_bipush dX3_keepLine_15 (by decide) ?_
    refine v_icmp_ge (tgt := 28) dX3_keepLine_17 (by decide) (fun c5 => ?_) (fun c5 => ?_)
    · refine v_aload_n dX3_keepLine_20 rfl ?_
      refine v_iload_n dX3_keepLine_21 rfl ?_
      refine v_if (fun h8 => ?_)
      refine v_cV (mi := mX3_keepLine) (c0 := 0) (c1 := 0) (As := [pI a1]) (st := []) (kX3_keepLaw d (by omega) _ _ _) rfl h8 rfl okX3_keepLaw (Or.inl tw630) tw632 tp13 rfl (Nat.le_of_ble_eq_true rfl) dX3_keepLine_22 (fun r6 => []) (fun r6 => r6) (fun _ => rfl) (fun _ => rfl) (fun r6 h7 => ?_) rfl
      refine v_goto (tgt := 145) dX3_keepLine_25 (by decide) ?_
      exact v_return dX3_keepLine_145 rfl rfl
    · refine v_iload_n dX3_keepLine_28 rfl ?_
      refine v_bipush dX3_keepLine_29 (by decide) ?_
      refine v_icmp_ne (tgt := 48) dX3_keepLine_31 (by decide) (fun c9 => ?_) (fun c9 => ?_)
      · refine v_aload_n dX3_keepLine_34 rfl ?_
        refine v_if (fun h10 => ?_)
        refine v_get (v := pA (M.1 a0 4)) 3 4 rfl inX3 (by decide) tw262 dX3_keepLine_35 h10 rfl ?_
        refine v_iconst dX3_keepLine_38 (by decide) ?_
        refine v_iconst dX3_keepLine_39 (by decide) ?_
        refine v_iconst dX3_keepLine_40 (by decide) ?_
        refine v_iconst dX3_keepLine_41 (by decide) ?_
        refine v_if (fun h13 => ?_)
        refine v_cV (mi := mX3_keepLine) (c0 := 0) (c1 := 0) (As := [pI 3, pI (-1), pI (-1), pI (-1)]) (st := []) (kX1_add d (by omega) _ _ _ _ _ _) rfl h13 rfl okX1_add (Or.inl tw634) tw635 tw636 rfl (Nat.le_of_ble_eq_true rfl) dX3_keepLine_42 (fun r11 => []) (fun r11 => r11) (fun _ => rfl) (fun _ => rfl) (fun r11 h12 => ?_) rfl
        refine v_goto (tgt := 145) dX3_keepLine_45 (by decide) ?_
        exact v_return dX3_keepLine_145 rfl rfl
      · refine v_iload_n dX3_keepLine_48 rfl ?_
        refine v_bipush dX3_keepLine_49 (by decide) ?_
        refine v_icmp_ge (tgt := 88) dX3_keepLine_51 (by decide) (fun c14 => ?_) (fun c14 => ?_)
        · refine v_aload_n dX3_keepLine_54 rfl ?_
          refine v_if (fun h15 => ?_)
          refine v_get (v := pA (M.1 a0 4)) 3 4 rfl inX3 (by decide) tw262 dX3_keepLine_55 h15 rfl ?_
          refine v_iconst dX3_keepLine_58 (by decide) ?_
          refine v_iload_n dX3_keepLine_59 rfl ?_
          refine v_iadd dX3_keepLine_60 ?_
          refine v_bipush dX3_keepLine_61 (by decide) ?_
          refine v_isub dX3_keepLine_63 ?_
          refine v_aload_n dX3_keepLine_64 rfl ?_
          refine v_get (v := pA (M.1 a0 12)) 3 12 rfl inX3 (by decide) tw272 dX3_keepLine_65 h15 rfl ?_
          refine v_iconst dX3_keepLine_68 (by decide) ?_
          refine v_if (fun h16 => ?_)
          refine v_iaload h16 dX3_keepLine_69 ?_
          refine v_aload_n dX3_keepLine_70 rfl ?_
          refine v_get (v := pA (M.1 a0 12)) 3 12 rfl inX3 (by decide) tw272 dX3_keepLine_71 h15 rfl ?_
          refine v_iconst dX3_keepLine_74 (by decide) ?_
          refine v_if (fun h17 => ?_)
          refine v_iaload h17 dX3_keepLine_75 ?_
          refine v_aload_n dX3_keepLine_76 rfl ?_
          refine v_get (v := pA (M.1 a0 12)) 3 12 rfl inX3 (by decide) tw272 dX3_keepLine_77 h15 rfl ?_
          refine v_iconst dX3_keepLine_80 (by decide) ?_
          refine v_if (fun h18 => ?_)
          refine v_iaload h18 dX3_keepLine_81 ?_
          refine v_if (fun h21 => ?_)
          refine v_cV (mi := mX3_keepLine) (c0 := 0) (c1 := 0) (As := [pI (w32 ((w32 (0 + a1)) - 12)), pI (M.1 (M.1 a0 12) 0), pI (M.1 (M.1 a0 12) 1), pI (M.1 (M.1 a0 12) 2)]) (st := []) (kX1_add d (by omega) _ _ _ _ _ _) rfl h21 rfl okX1_add (Or.inl tw634) tw635 tw636 rfl (Nat.le_of_ble_eq_true rfl) dX3_keepLine_82 (fun r19 => []) (fun r19 => r19) (fun _ => rfl) (fun _ => rfl) (fun r19 h20 => ?_) rfl
          refine v_goto (tgt := 145) dX3_keepLine_85 (by decide) ?_
          exact v_return dX3_keepLine_145 rfl rfl
        · refine v_iload_n dX3_keepLine_88 rfl ?_
          refine v_bipush dX3_keepLine_89 (by decide) ?_
          refine v_icmp_ne (tgt := 116) dX3_keepLine_91 (by decide) (fun c22 => ?_) (fun c22 => ?_)
          · refine v_aload_n dX3_keepLine_94 rfl ?_
            refine v_if (fun h23 => ?_)
            refine v_get (v := pA (M.1 a0 5)) 3 5 rfl inX3 (by decide) tw264 dX3_keepLine_95 h23 rfl ?_
            refine v_aload_n dX3_keepLine_98 rfl ?_
            refine v_get (v := pA (M.1 a0 12)) 3 12 rfl inX3 (by decide) tw272 dX3_keepLine_99 h23 rfl ?_
            refine v_iconst dX3_keepLine_102 (by decide) ?_
            refine v_if (fun h24 => ?_)
            refine v_iaload h24 dX3_keepLine_103 ?_
            refine v_aload_n dX3_keepLine_104 rfl ?_
            refine v_get (v := pA (M.1 a0 12)) 3 12 rfl inX3 (by decide) tw272 dX3_keepLine_105 h23 rfl ?_
            refine v_iconst dX3_keepLine_108 (by decide) ?_
            refine v_if (fun h25 => ?_)
            refine v_iaload h25 dX3_keepLine_109 ?_
            refine v_if (fun h28 => ?_)
            refine v_cV (mi := mX3_keepLine) (c0 := 0) (c1 := 0) (As := [pI (M.1 (M.1 a0 12) 0), pI (M.1 (M.1 a0 12) 1)]) (st := []) (kX4_add d (by omega) _ _ _ _) rfl h28 rfl okX4_add (Or.inl tw638) tw639 tw640 rfl (Nat.le_of_ble_eq_true rfl) dX3_keepLine_110 (fun r26 => []) (fun r26 => r26) (fun _ => rfl) (fun _ => rfl) (fun r26 h27 => ?_) rfl
            refine v_goto (tgt := 145) dX3_keepLine_113 (by decide) ?_
            exact v_return dX3_keepLine_145 rfl rfl
          · refine v_aload_n dX3_keepLine_116 rfl ?_
            refine v_if (fun h29 => ?_)
            refine v_get (v := pA (M.1 a0 5)) 3 5 rfl inX3 (by decide) tw264 dX3_keepLine_117 h29 rfl ?_
            refine v_if (fun h30 => ?_)
            refine v_get (v := pA (M.1 (M.1 a0 5) 3)) 4 3 rfl inX4 (by decide) tw193 dX3_keepLine_120 h30 rfl ?_
            refine v_aload_n dX3_keepLine_123 rfl ?_
            refine v_get (v := pA (M.1 a0 12)) 3 12 rfl inX3 (by decide) tw272 dX3_keepLine_124 h29 rfl ?_
            refine v_iconst dX3_keepLine_127 (by decide) ?_
            refine v_if (fun h31 => ?_)
            refine v_iaload h31 dX3_keepLine_128 ?_
            refine v_aload_n dX3_keepLine_129 rfl ?_
            refine v_get (v := pA (M.1 a0 12)) 3 12 rfl inX3 (by decide) tw272 dX3_keepLine_130 h29 rfl ?_
            refine v_iconst dX3_keepLine_133 (by decide) ?_
            refine v_if (fun h32 => ?_)
            refine v_iaload h32 dX3_keepLine_134 ?_
            refine v_cS (mi := mX3_keepLine) (c0 := 0) (c1 := 0) (As := [pI (M.1 (M.1 a0 12) 0), pI (M.1 (M.1 a0 12) 1)]) (st := [pA (M.1 (M.1 a0 5) 3)]) (kX10_cell d (by omega) _ _ _) okX10_cell (Or.inr nw8) tw621 rfl (Nat.le_of_ble_eq_true rfl) dX3_keepLine_135 (fun r33 => [pI r33, pA (M.1 (M.1 a0 5) 3)]) (fun r33 => M) (fun _ => rfl) (fun _ => rfl) (fun r33 h34 => ?_) rfl
            refine v_aload_n dX3_keepLine_138 rfl ?_
            refine v_get (v := pA (M.1 a0 12)) 3 12 rfl inX3 (by decide) tw272 dX3_keepLine_139 h29 rfl ?_
            refine v_iconst dX3_keepLine_142 (by decide) ?_
            refine v_if (fun h35 => ?_)
            refine v_iaload h35 dX3_keepLine_143 ?_
            refine v_if (fun h36 => ?_)
            refine v_iastore h36 dX3_keepLine_144 ?_
            refine v_bM (fun M37 e38 => ?_)
            exact v_return dX3_keepLine_145 rfl rfl
theorem dX3_readLine_0 : decode cX3_readLine 0 = .ok (.aload_n 0, 1) := by decide +kernel
theorem dX3_readLine_1 : decode cX3_readLine 1 = .ok (.getfield 56, 3) := by decide +kernel
theorem dX3_readLine_4 : decode cX3_readLine 4 = .ok (.iconst 1, 1) := by decide +kernel
theorem dX3_readLine_5 : decode cX3_readLine 5 = .ok (.if_icmp .ne 11, 3) := by decide +kernel
theorem dX3_readLine_8 : decode cX3_readLine 8 = .ok (.aload_n 0, 1) := by decide +kernel
theorem dX3_readLine_9 : decode cX3_readLine 9 = .ok (.iload_n 1, 1) := by decide +kernel
theorem dX3_readLine_10 : decode cX3_readLine 10 = .ok (.invokevirtual 112, 3) := by decide +kernel
theorem dX3_readLine_13 : decode cX3_readLine 13 = .ok (.goto 4, 3) := by decide +kernel
theorem dX3_readLine_16 : decode cX3_readLine 16 = .ok (.iconst (-1), 1) := by decide +kernel
theorem dX3_readLine_17 : decode cX3_readLine 17 = .ok (.istore_n 2, 1) := by decide +kernel
theorem dX3_readLine_18 : decode cX3_readLine 18 = .ok (.iload_n 2, 1) := by decide +kernel
theorem dX3_readLine_19 : decode cX3_readLine 19 = .ok (.iconst (-1), 1) := by decide +kernel
theorem dX3_readLine_20 : decode cX3_readLine 20 = .ok (.if_icmp .ne 8, 3) := by decide +kernel
theorem dX3_readLine_23 : decode cX3_readLine 23 = .ok (.aload_n 0, 1) := by decide +kernel
theorem dX3_readLine_24 : decode cX3_readLine 24 = .ok (.invokevirtual 116, 3) := by decide +kernel
theorem dX3_readLine_27 : decode cX3_readLine 27 = .ok (.return_, 1) := by decide +kernel
theorem dX3_readLine_28 : decode cX3_readLine 28 = .ok (.aload_n 0, 1) := by decide +kernel
theorem dX3_readLine_29 : decode cX3_readLine 29 = .ok (.iload_n 2, 1) := by decide +kernel
theorem dX3_readLine_30 : decode cX3_readLine 30 = .ok (.invokevirtual 119, 3) := by decide +kernel
theorem dX3_readLine_33 : decode cX3_readLine 33 = .ok (.ifCond .eq 12, 3) := by decide +kernel
theorem dX3_readLine_36 : decode cX3_readLine 36 = .ok (.aload_n 0, 1) := by decide +kernel
theorem dX3_readLine_37 : decode cX3_readLine 37 = .ok (.iconst 3, 1) := by decide +kernel
theorem dX3_readLine_38 : decode cX3_readLine 38 = .ok (.aload_n 0, 1) := by decide +kernel
theorem dX3_readLine_39 : decode cX3_readLine 39 = .ok (.getfield 59, 3) := by decide +kernel
theorem dX3_readLine_42 : decode cX3_readLine 42 = .ok (.invokevirtual 102, 3) := by decide +kernel
theorem dX3_readLine_45 : decode cX3_readLine 45 = .ok (.aload_n 0, 1) := by decide +kernel
theorem dX3_readLine_46 : decode cX3_readLine 46 = .ok (.invokevirtual 89, 3) := by decide +kernel
theorem dX3_readLine_49 : decode cX3_readLine 49 = .ok (.iconst 0, 1) := by decide +kernel
theorem dX3_readLine_50 : decode cX3_readLine 50 = .ok (.istore_n 3, 1) := by decide +kernel
theorem dX3_readLine_51 : decode cX3_readLine 51 = .ok (.iload_n 3, 1) := by decide +kernel
theorem dX3_readLine_52 : decode cX3_readLine 52 = .ok (.getstatic 123, 3) := by decide +kernel
theorem dX3_readLine_55 : decode cX3_readLine 55 = .ok (.iload_n 2, 1) := by decide +kernel
theorem dX3_readLine_56 : decode cX3_readLine 56 = .ok (.iaload, 1) := by decide +kernel
theorem dX3_readLine_57 : decode cX3_readLine 57 = .ok (.if_icmp .ge 32, 3) := by decide +kernel
theorem dX3_readLine_60 : decode cX3_readLine 60 = .ok (.aload_n 0, 1) := by decide +kernel
theorem dX3_readLine_61 : decode cX3_readLine 61 = .ok (.getfield 56, 3) := by decide +kernel
theorem dX3_readLine_64 : decode cX3_readLine 64 = .ok (.iconst 2, 1) := by decide +kernel
theorem dX3_readLine_65 : decode cX3_readLine 65 = .ok (.if_icmp .eq 8, 3) := by decide +kernel
theorem dX3_readLine_68 : decode cX3_readLine 68 = .ok (.aload_n 0, 1) := by decide +kernel
theorem dX3_readLine_69 : decode cX3_readLine 69 = .ok (.invokevirtual 116, 3) := by decide +kernel
theorem dX3_readLine_72 : decode cX3_readLine 72 = .ok (.return_, 1) := by decide +kernel
theorem dX3_readLine_73 : decode cX3_readLine 73 = .ok (.aload_n 0, 1) := by decide +kernel
theorem dX3_readLine_74 : decode cX3_readLine 74 = .ok (.iload_n 2, 1) := by decide +kernel
theorem dX3_readLine_75 : decode cX3_readLine 75 = .ok (.iload_n 3, 1) := by decide +kernel
theorem dX3_readLine_76 : decode cX3_readLine 76 = .ok (.invokevirtual 126, 3) := by decide +kernel
theorem dX3_readLine_79 : decode cX3_readLine 79 = .ok (.aload_n 0, 1) := by decide +kernel
theorem dX3_readLine_80 : decode cX3_readLine 80 = .ok (.invokevirtual 89, 3) := by decide +kernel
theorem dX3_readLine_83 : decode cX3_readLine 83 = .ok (.iinc 3 1, 3) := by decide +kernel
theorem dX3_readLine_86 : decode cX3_readLine 86 = .ok (.goto (-35), 3) := by decide +kernel
theorem dX3_readLine_89 : decode cX3_readLine 89 = .ok (.aload_n 0, 1) := by decide +kernel
theorem dX3_readLine_90 : decode cX3_readLine 90 = .ok (.getfield 56, 3) := by decide +kernel
theorem dX3_readLine_93 : decode cX3_readLine 93 = .ok (.iconst 3, 1) := by decide +kernel
theorem dX3_readLine_94 : decode cX3_readLine 94 = .ok (.if_icmp .eq 8, 3) := by decide +kernel
theorem dX3_readLine_97 : decode cX3_readLine 97 = .ok (.aload_n 0, 1) := by decide +kernel
theorem dX3_readLine_98 : decode cX3_readLine 98 = .ok (.invokevirtual 116, 3) := by decide +kernel
theorem dX3_readLine_101 : decode cX3_readLine 101 = .ok (.return_, 1) := by decide +kernel
theorem dX3_readLine_102 : decode cX3_readLine 102 = .ok (.aload_n 0, 1) := by decide +kernel
theorem dX3_readLine_103 : decode cX3_readLine 103 = .ok (.invokevirtual 89, 3) := by decide +kernel
theorem dX3_readLine_106 : decode cX3_readLine 106 = .ok (.aload_n 0, 1) := by decide +kernel
theorem dX3_readLine_107 : decode cX3_readLine 107 = .ok (.getfield 9, 3) := by decide +kernel
theorem dX3_readLine_110 : decode cX3_readLine 110 = .ok (.ifCond .ne 8, 3) := by decide +kernel
theorem dX3_readLine_113 : decode cX3_readLine 113 = .ok (.aload_n 0, 1) := by decide +kernel
theorem dX3_readLine_114 : decode cX3_readLine 114 = .ok (.iload_n 2, 1) := by decide +kernel
theorem dX3_readLine_115 : decode cX3_readLine 115 = .ok (.invokevirtual 129, 3) := by decide +kernel
theorem dX3_readLine_118 : decode cX3_readLine 118 = .ok (.return_, 1) := by decide +kernel
abbrev mX3_readLine : MI := (yX3_readLine, cX3_readLine, 4, none, noE)
theorem okX3_readLine : cok mX3_readLine 1 := ⟨tw509, tw7, by decide, by decide, by decide, by decide +kernel⟩
def fX3_readLine (M : Mem) (a0 a1 : Int) : Option Mem :=
  if M.2.1 a0 = 3 then jn (fun (t3 : Int) => if t3 = (-1) then ((fX3_breakOff M a0).bind fun r5 => some r5) else ((fX3_isFull M a0 t3).bind fun r7 => jn (fun (t10 : Mem) => if t10.2.1 a0 = 3 then (fX3_step t10 a0).bind fun r11 => iterC (fun (rec14 : (Int × Mem) → Option Mem) (s15 : Int × Mem) => if (0 : Int) ≤ t3 ∧ t3 < 18 then if s15.1 < (sTab 1).getD t3.toNat 0 then (if s15.2.2.1 a0 = 3 then if s15.2.1 a0 9 = 2 then ((fX3_readNumber s15.2 a0 t3 s15.1).bind fun r20 => if r20.2.1 a0 = 3 then (fX3_step r20 a0).bind fun r22 => rec14 (w32 (s15.1 + 1), r22) else none) else ((fX3_breakOff s15.2 a0).bind fun r25 => some r25) else none) else (if s15.2.2.1 a0 = 3 then if s15.2.1 a0 9 = 3 then ((fX3_step s15.2 a0).bind fun r29 => if r29.2.1 a0 = 3 then if r29.1 a0 0 = 0 then ((fX3_keepLine r29 a0 t3).bind fun r33 => some r33) else (some r29) else none) else ((fX3_breakOff s15.2 a0).bind fun r35 => some r35) else none) else none) BIG (0, r11) else none) (fun (j9 : Mem → Option Mem) => if r7 = 0 then (j9 M) else ((fX3_note M a0 3 (M.1 a0 10)).bind fun r38 => j9 r38)))) (fun (j2 : Int → Option Mem) => if M.1 a0 9 = 1 then ((fX3_lineOf M a0 a1).bind fun r41 => j2 r41) else (j2 (-1))) else none
set_option maxRecDepth 100000 in
set_option maxHeartbeats 4000000 in
theorem kX3_readLine (d : Nat) (hd : 8 ≤ d) (M : Mem) (a0 a1 : Int) : Ct mX3_readLine d 0 0 [pA a0, pI a1] M dV (fX3_readLine M a0 a1) := by
  obtain ⟨d, rfl⟩ : ∃ k, d = k + 1 := ⟨d - 1, by omega⟩
  refine Ct.of 2 (fun _ _ _ => trivial) (by decide +kernel) rfl ?_
  unfold fX3_readLine
  refine v_aload_n dX3_readLine_0 rfl ?_
  refine v_if (fun h1 => ?_)
  refine v_get (v := pI (M.1 a0 9)) 3 9 rfl inX3 (by decide) tw269 dX3_readLine_1 h1 rfl ?_
  refine v_iconst dX3_readLine_4 (by decide) ?_
  refine v_join (fun (t3 : Int) => [some (pA a0), none, none, none]) (fun (t3 : Int) => [pI t3]) (fun (t3 : Int) => M) 17 (fun t3 => ?_) (fun j2 hj2 => ?_)
  · refine v_istore_n (ls' := [some (pA a0), none, some (pI t3), none]) dX3_readLine_17 (by decide) rfl ?_
    refine v_iload_n dX3_readLine_18 rfl ?_
    refine v_iconst dX3_readLine_19 (by decide) ?_
    refine v_icmp_ne (tgt := 28) dX3_readLine_20 (by decide) (fun c4 => ?_) (fun c4 => ?_)
    · refine v_aload_n dX3_readLine_23 rfl ?_
      refine v_cV (mi := mX3_readLine) (c0 := 0) (c1 := 0) (As := []) (st := []) (kX3_breakOff d (by omega) _ _) rfl h1 rfl okX3_breakOff (Or.inl tw590) tw592 tp7 rfl (Nat.le_of_ble_eq_true rfl) dX3_readLine_24 (fun r5 => []) (fun r5 => r5) (fun _ => rfl) (fun _ => rfl) (fun r5 h6 => ?_) rfl
      exact v_return dX3_readLine_27 rfl rfl
    · refine v_aload_n dX3_readLine_28 rfl ?_
      refine v_iload_n dX3_readLine_29 rfl ?_
      refine v_cV (mi := mX3_readLine) (c0 := 0) (c1 := 0) (As := [pI t3]) (st := []) (kX3_isFull d (by omega) _ _ _) rfl h1 rfl okX3_isFull (Or.inl tw594) tw596 tp8 rfl (Nat.le_of_ble_eq_true rfl) dX3_readLine_30 (fun r7 => [pI r7]) (fun r7 => M) (fun _ => rfl) (fun _ => rfl) (fun r7 h8 => ?_) rfl
      refine v_join (fun (t10 : Mem) => [some (pA a0), none, some (pI t3), none]) (fun (t10 : Mem) => []) (fun (t10 : Mem) => t10) 45 (fun t10 => ?_) (fun j9 hj9 => ?_)
      · refine v_aload_n dX3_readLine_45 rfl ?_
        refine v_if (fun h13 => ?_)
        refine v_cV (mi := mX3_readLine) (c0 := 0) (c1 := 0) (As := []) (st := []) (kX3_step d (by omega) _ _) rfl h13 rfl okX3_step (Or.inl tw485) tw487 tp1 rfl (Nat.le_of_ble_eq_true rfl) dX3_readLine_46 (fun r11 => []) (fun r11 => r11) (fun _ => rfl) (fun _ => rfl) (fun r11 h12 => ?_) rfl
        refine v_iconst dX3_readLine_49 (by decide) ?_
        refine v_istore_n (ls' := [some (pA a0), none, some (pI t3), some (pI 0)]) dX3_readLine_50 (by decide) rfl ?_
        refine v_loop (fun (s15 : Int × Mem) => [some (pA a0), none, some (pI t3), some (pI s15.1)]) (fun (s15 : Int × Mem) => s15.2) (s0 := (0, r11)) ?_
        intro rec14 hrec14 s15
        refine v_iload_n dX3_readLine_51 rfl ?_
        refine v_gets (mi := mX3_readLine) 1 (by decide) tw602 dX3_readLine_52 rfl ?_
        refine v_iload_n dX3_readLine_55 rfl ?_
        refine v_if (fun h16 => ?_)
        refine v_ciald (mi := mX3_readLine) 1 (by decide) rfl rfl h16 dX3_readLine_56 ?_
        refine v_icmp_ge (tgt := 89) dX3_readLine_57 (by decide) (fun c17 => ?_) (fun c17 => ?_)
        · refine v_aload_n dX3_readLine_60 rfl ?_
          refine v_if (fun h18 => ?_)
          refine v_get (v := pI (s15.2.1 a0 9)) 3 9 rfl inX3 (by decide) tw269 dX3_readLine_61 h18 rfl ?_
          refine v_iconst dX3_readLine_64 (by decide) ?_
          refine v_icmp_eq (tgt := 73) dX3_readLine_65 (by decide) (fun c19 => ?_) (fun c19 => ?_)
          · refine v_aload_n dX3_readLine_73 rfl ?_
            refine v_iload_n dX3_readLine_74 rfl ?_
            refine v_iload_n dX3_readLine_75 rfl ?_
            refine v_cV (mi := mX3_readLine) (c0 := 0) (c1 := 0) (As := [pI t3, pI s15.1]) (st := []) (kX3_readNumber d (by omega) _ _ _ _) rfl h18 rfl okX3_readNumber (Or.inl tw604) tw606 tp10 rfl (Nat.le_of_ble_eq_true rfl) dX3_readLine_76 (fun r20 => []) (fun r20 => r20) (fun _ => rfl) (fun _ => rfl) (fun r20 h21 => ?_) rfl
            refine v_aload_n dX3_readLine_79 rfl ?_
            refine v_if (fun h24 => ?_)
            refine v_cV (mi := mX3_readLine) (c0 := 0) (c1 := 0) (As := []) (st := []) (kX3_step d (by omega) _ _) rfl h24 rfl okX3_step (Or.inl tw485) tw487 tp1 rfl (Nat.le_of_ble_eq_true rfl) dX3_readLine_80 (fun r22 => []) (fun r22 => r22) (fun _ => rfl) (fun _ => rfl) (fun r22 h23 => ?_) rfl
            refine v_iinc (ls' := [some (pA a0), none, some (pI t3), some (pI (w32 (s15.1 + 1)))]) dX3_readLine_83 (by decide) rfl rfl ?_
            refine v_goto (tgt := 51) dX3_readLine_86 (by decide) ?_
            exact hrec14 (w32 (s15.1 + 1), r22)
          · refine v_aload_n dX3_readLine_68 rfl ?_
            refine v_cV (mi := mX3_readLine) (c0 := 0) (c1 := 0) (As := []) (st := []) (kX3_breakOff d (by omega) _ _) rfl h18 rfl okX3_breakOff (Or.inl tw590) tw592 tp7 rfl (Nat.le_of_ble_eq_true rfl) dX3_readLine_69 (fun r25 => []) (fun r25 => r25) (fun _ => rfl) (fun _ => rfl) (fun r25 h26 => ?_) rfl
            exact v_return dX3_readLine_72 rfl rfl
        · refine v_aload_n dX3_readLine_89 rfl ?_
          refine v_if (fun h27 => ?_)
          refine v_get (v := pI (s15.2.1 a0 9)) 3 9 rfl inX3 (by decide) tw269 dX3_readLine_90 h27 rfl ?_
          refine v_iconst dX3_readLine_93 (by decide) ?_
          refine v_icmp_eq (tgt := 102) dX3_readLine_94 (by decide) (fun c28 => ?_) (fun c28 => ?_)
          · refine v_aload_n dX3_readLine_102 rfl ?_
            refine v_cV (mi := mX3_readLine) (c0 := 0) (c1 := 0) (As := []) (st := []) (kX3_step d (by omega) _ _) rfl h27 rfl okX3_step (Or.inl tw485) tw487 tp1 rfl (Nat.le_of_ble_eq_true rfl) dX3_readLine_103 (fun r29 => []) (fun r29 => r29) (fun _ => rfl) (fun _ => rfl) (fun r29 h30 => ?_) rfl
            refine v_aload_n dX3_readLine_106 rfl ?_
            refine v_if (fun h31 => ?_)
            refine v_get (v := pI (r29.1 a0 0)) 3 0 rfl inX3 (by decide) tw254 dX3_readLine_107 h31 rfl ?_
            refine v_if_ne (tgt := 118) dX3_readLine_110 (by decide) (fun c32 => ?_) (fun c32 => ?_)
            · refine v_aload_n dX3_readLine_113 rfl ?_
              refine v_iload_n dX3_readLine_114 rfl ?_
              refine v_cV (mi := mX3_readLine) (c0 := 0) (c1 := 0) (As := [pI t3]) (st := []) (kX3_keepLine d (by omega) _ _ _) rfl h31 rfl okX3_keepLine (Or.inl tw612) tw614 tp11 rfl (Nat.le_of_ble_eq_true rfl) dX3_readLine_115 (fun r33 => []) (fun r33 => r33) (fun _ => rfl) (fun _ => rfl) (fun r33 h34 => ?_) rfl
              exact v_return dX3_readLine_118 rfl rfl
            · exact v_return dX3_readLine_118 rfl rfl
          · refine v_aload_n dX3_readLine_97 rfl ?_
            refine v_cV (mi := mX3_readLine) (c0 := 0) (c1 := 0) (As := []) (st := []) (kX3_breakOff d (by omega) _ _) rfl h27 rfl okX3_breakOff (Or.inl tw590) tw592 tp7 rfl (Nat.le_of_ble_eq_true rfl) dX3_readLine_98 (fun r35 => []) (fun r35 => r35) (fun _ => rfl) (fun _ => rfl) (fun r35 h36 => ?_) rfl
            exact v_return dX3_readLine_101 rfl rfl
      · refine v_if_eq (tgt := 45) dX3_readLine_33 (by decide) (fun c37 => ?_) (fun c37 => ?_)
        · exact hj9 M
        · refine v_aload_n dX3_readLine_36 rfl ?_
          refine v_iconst dX3_readLine_37 (by decide) ?_
          refine v_aload_n dX3_readLine_38 rfl ?_
          refine v_get (v := pI (M.1 a0 10)) 3 10 rfl inX3 (by decide) tw270 dX3_readLine_39 h1 rfl ?_
          refine v_cV (mi := mX3_readLine) (c0 := 0) (c1 := 0) (As := [pI 3, pI (M.1 a0 10)]) (st := []) (kX3_note d (by omega) _ _ _ _) rfl h1 rfl okX3_note (Or.inl tw598) tw600 tp9 rfl (Nat.le_of_ble_eq_true rfl) dX3_readLine_42 (fun r38 => []) (fun r38 => r38) (fun _ => rfl) (fun _ => rfl) (fun r38 h39 => ?_) rfl
          exact hj9 r38
  · refine v_icmp_ne (tgt := 16) dX3_readLine_5 (by decide) (fun c40 => ?_) (fun c40 => ?_)
    · refine v_aload_n dX3_readLine_8 rfl ?_
      refine v_iload_n dX3_readLine_9 rfl ?_
      refine v_cV (mi := mX3_readLine) (c0 := 0) (c1 := 0) (As := [pI a1]) (st := []) (kX3_lineOf d (by omega) _ _ _) rfl h1 rfl okX3_lineOf (Or.inl tw510) tw512 tp5 rfl (Nat.le_of_ble_eq_true rfl) dX3_readLine_10 (fun r41 => [pI r41]) (fun r41 => M) (fun _ => rfl) (fun _ => rfl) (fun r41 h42 => ?_) rfl
      refine v_goto (tgt := 17) dX3_readLine_13 (by decide) ?_
      exact v_drop [some (pA a0), none, none, none] (ls_s (ls_n (ls_n (ls_n ls_e)))) (hj2 r41)
    · refine v_iconst dX3_readLine_16 (by decide) ?_
      exact v_drop [some (pA a0), none, none, none] (ls_s (ls_n (ls_n (ls_n ls_e)))) (hj2 (-1))
theorem dX3_read_0 : decode cX3_read 0 = .ok (.aload_n 0, 1) := by decide +kernel
theorem dX3_read_1 : decode cX3_read 1 = .ok (.aload_n 1, 1) := by decide +kernel
theorem dX3_read_2 : decode cX3_read 2 = .ok (.iload_n 2, 1) := by decide +kernel
theorem dX3_read_3 : decode cX3_read 3 = .ok (.aload_n 1, 1) := by decide +kernel
theorem dX3_read_4 : decode cX3_read 4 = .ok (.arraylength, 1) := by decide +kernel
theorem dX3_read_5 : decode cX3_read 5 = .ok (.invokestatic 79, 3) := by decide +kernel
theorem dX3_read_8 : decode cX3_read 8 = .ok (.invokevirtual 85, 3) := by decide +kernel
theorem dX3_read_11 : decode cX3_read 11 = .ok (.aload_n 0, 1) := by decide +kernel
theorem dX3_read_12 : decode cX3_read 12 = .ok (.invokevirtual 89, 3) := by decide +kernel
theorem dX3_read_15 : decode cX3_read 15 = .ok (.iconst 0, 1) := by decide +kernel
theorem dX3_read_16 : decode cX3_read 16 = .ok (.istore 4, 2) := by decide +kernel
theorem dX3_read_18 : decode cX3_read 18 = .ok (.iload 4, 2) := by decide +kernel
theorem dX3_read_20 : decode cX3_read 20 = .ok (.aload_n 0, 1) := by decide +kernel
theorem dX3_read_21 : decode cX3_read 21 = .ok (.getfield 50, 3) := by decide +kernel
theorem dX3_read_24 : decode cX3_read 24 = .ok (.if_icmp .gt 28, 3) := by decide +kernel
theorem dX3_read_27 : decode cX3_read 27 = .ok (.aload_n 0, 1) := by decide +kernel
theorem dX3_read_28 : decode cX3_read 28 = .ok (.getfield 56, 3) := by decide +kernel
theorem dX3_read_31 : decode cX3_read 31 = .ok (.ifCond .eq 21, 3) := by decide +kernel
theorem dX3_read_34 : decode cX3_read 34 = .ok (.aload_n 0, 1) := by decide +kernel
theorem dX3_read_35 : decode cX3_read 35 = .ok (.getfield 69, 3) := by decide +kernel
theorem dX3_read_38 : decode cX3_read 38 = .ok (.ifCond .ne 14, 3) := by decide +kernel
theorem dX3_read_41 : decode cX3_read 41 = .ok (.aload_n 0, 1) := by decide +kernel
theorem dX3_read_42 : decode cX3_read 42 = .ok (.iload_n 3, 1) := by decide +kernel
theorem dX3_read_43 : decode cX3_read 43 = .ok (.invokevirtual 92, 3) := by decide +kernel
theorem dX3_read_46 : decode cX3_read 46 = .ok (.iinc 4 1, 3) := by decide +kernel
theorem dX3_read_49 : decode cX3_read 49 = .ok (.goto (-31), 3) := by decide +kernel
theorem dX3_read_52 : decode cX3_read 52 = .ok (.aload_n 0, 1) := by decide +kernel
theorem dX3_read_53 : decode cX3_read 53 = .ok (.getfield 9, 3) := by decide +kernel
theorem dX3_read_56 : decode cX3_read 56 = .ok (.ifCond .ne 40, 3) := by decide +kernel
theorem dX3_read_59 : decode cX3_read 59 = .ok (.aload_n 0, 1) := by decide +kernel
theorem dX3_read_60 : decode cX3_read 60 = .ok (.getfield 73, 3) := by decide +kernel
theorem dX3_read_63 : decode cX3_read 63 = .ok (.aload_n 0, 1) := by decide +kernel
theorem dX3_read_64 : decode cX3_read 64 = .ok (.getfield 21, 3) := by decide +kernel
theorem dX3_read_67 : decode cX3_read 67 = .ok (.getfield 96, 3) := by decide +kernel
theorem dX3_read_70 : decode cX3_read 70 = .ok (.if_icmp .ge 17, 3) := by decide +kernel
theorem dX3_read_73 : decode cX3_read 73 = .ok (.aload_n 0, 1) := by decide +kernel
theorem dX3_read_74 : decode cX3_read 74 = .ok (.getfield 76, 3) := by decide +kernel
theorem dX3_read_77 : decode cX3_read 77 = .ok (.aload_n 0, 1) := by decide +kernel
theorem dX3_read_78 : decode cX3_read 78 = .ok (.getfield 21, 3) := by decide +kernel
theorem dX3_read_81 : decode cX3_read 81 = .ok (.getfield 99, 3) := by decide +kernel
theorem dX3_read_84 : decode cX3_read 84 = .ok (.if_icmp .lt 12, 3) := by decide +kernel
theorem dX3_read_87 : decode cX3_read 87 = .ok (.aload_n 0, 1) := by decide +kernel
theorem dX3_read_88 : decode cX3_read 88 = .ok (.iconst 4, 1) := by decide +kernel
theorem dX3_read_89 : decode cX3_read 89 = .ok (.aload_n 0, 1) := by decide +kernel
theorem dX3_read_90 : decode cX3_read 90 = .ok (.getfield 50, 3) := by decide +kernel
theorem dX3_read_93 : decode cX3_read 93 = .ok (.invokevirtual 102, 3) := by decide +kernel
theorem dX3_read_96 : decode cX3_read 96 = .ok (.aload_n 0, 1) := by decide +kernel
theorem dX3_read_97 : decode cX3_read 97 = .ok (.aconst_null, 1) := by decide +kernel
theorem dX3_read_98 : decode cX3_read 98 = .ok (.putfield 46, 3) := by decide +kernel
theorem dX3_read_101 : decode cX3_read 101 = .ok (.return_, 1) := by decide +kernel
abbrev mX3_read : MI := (yX3_read, cX3_read, 5, none, noE)
theorem okX3_read : cok mX3_read 3 := ⟨tw467, tw7, by decide, by decide, by decide, by decide +kernel⟩
def fX3_read (M : Mem) (a0 a1 a2 a3 : Int) : Option Mem :=
  if 11 ≤ M.2.1 a1 then if M.2.1 a0 = 3 then (fX3_begin M a0 a1 (imin a2 (M.2.2.1 a1))).bind fun r2 => if r2.2.1 a0 = 3 then (fX3_step r2 a0).bind fun r5 => iterC (fun (rec8 : (Int × Mem) → Option Mem) (s9 : Int × Mem) => if s9.2.2.1 a0 = 3 then jn (fun (t12 : Unit) => jn (fun (t14 : Mem) => if t14.2.1 a0 = 3 then if (-1 : Int) ≤ (-1) then bM (mst t14 a0 6 (-1)) fun M17 => some M17 else none else none) (fun (j13 : Mem → Option Mem) => if s9.2.1 a0 0 = 0 then (if s9.2.2.1 (s9.2.1 a0 2) = 7 then jn (fun (t22 : Unit) => (fX3_note s9.2 a0 4 (s9.2.1 a0 7)).bind fun r23 => j13 r23) (fun (j21 : Unit → Option Mem) => if s9.2.1 a0 14 < s9.2.1 (s9.2.1 a0 2) 0 then (if s9.2.1 a0 15 < s9.2.1 (s9.2.1 a0 2) 1 then (j13 s9.2) else (j21 ())) else (j21 ())) else none) else (j13 s9.2))) (fun (j11 : Unit → Option Mem) => if s9.2.1 a0 7 < s9.1 then (j11 ()) else (if s9.2.1 a0 9 = 0 then (j11 ()) else (if s9.2.1 a0 13 = 0 then ((fX3_readLine s9.2 a0 a3).bind fun r30 => rec8 (w32 (s9.1 + 1), r30)) else (j11 ())))) else none) BIG (0, r5) else none else none else none
set_option maxRecDepth 100000 in
set_option maxHeartbeats 4000000 in
theorem kX3_read (d : Nat) (hd : 9 ≤ d) (M : Mem) (a0 a1 a2 a3 : Int) : Ct mX3_read d 0 0 [pA a0, pA a1, pI a2, pI a3] M dV (fX3_read M a0 a1 a2 a3) := by
  obtain ⟨d, rfl⟩ : ∃ k, d = k + 1 := ⟨d - 1, by omega⟩
  refine Ct.of 1 (fun _ _ _ => trivial) (by decide +kernel) rfl ?_
  unfold fX3_read
  refine v_aload_n dX3_read_0 rfl ?_
  refine v_aload_n dX3_read_1 rfl ?_
  refine v_iload_n dX3_read_2 rfl ?_
  refine v_aload_n dX3_read_3 rfl ?_
  refine v_if (fun h1 => ?_)
  refine v_alen h1 dX3_read_4 ?_
  refine v_mmin (mi := mX3_read) tw468 tw469 tw12 tw470 (Nat.le_of_ble_eq_true rfl) dX3_read_5 ?_
  refine v_if (fun h4 => ?_)
  refine v_cV (mi := mX3_read) (c0 := 0) (c1 := 0) (As := [pA a1, pI (imin a2 (M.2.2.1 a1))]) (st := []) (kX3_begin d (by omega) _ _ _ _) rfl h4 rfl okX3_begin (Or.inl tw471) tw473 tp0 rfl (Nat.le_of_ble_eq_true rfl) dX3_read_8 (fun r2 => []) (fun r2 => r2) (fun _ => rfl) (fun _ => rfl) (fun r2 h3 => ?_) rfl
  refine v_aload_n dX3_read_11 rfl ?_
  refine v_if (fun h7 => ?_)
  refine v_cV (mi := mX3_read) (c0 := 0) (c1 := 0) (As := []) (st := []) (kX3_step d (by omega) _ _) rfl h7 rfl okX3_step (Or.inl tw485) tw487 tp1 rfl (Nat.le_of_ble_eq_true rfl) dX3_read_12 (fun r5 => []) (fun r5 => r5) (fun _ => rfl) (fun _ => rfl) (fun r5 h6 => ?_) rfl
  refine v_iconst dX3_read_15 (by decide) ?_
  refine v_istore (ls' := [some (pA a0), some (pA a1), some (pI a2), some (pI a3), some (pI 0)]) dX3_read_16 (by decide) rfl ?_
  refine v_drop [some (pA a0), none, none, some (pI a3), some (pI 0)] (ls_s (ls_n (ls_n (ls_s (ls_s ls_e))))) ?_
  refine v_loop (fun (s9 : Int × Mem) => [some (pA a0), none, none, some (pI a3), some (pI s9.1)]) (fun (s9 : Int × Mem) => s9.2) (s0 := (0, r5)) ?_
  intro rec8 hrec8 s9
  refine v_iload dX3_read_18 rfl ?_
  refine v_aload_n dX3_read_20 rfl ?_
  refine v_if (fun h10 => ?_)
  refine v_get (v := pI (s9.2.1 a0 7)) 3 7 rfl inX3 (by decide) tw267 dX3_read_21 h10 rfl ?_
  refine v_join (fun (t12 : Unit) => [some (pA a0), none, none, none, none]) (fun (t12 : Unit) => []) (fun (t12 : Unit) => s9.2) 52 (fun t12 => ?_) (fun j11 hj11 => ?_)
  · refine v_aload_n dX3_read_52 rfl ?_
    refine v_get (v := pI (s9.2.1 a0 0)) 3 0 rfl inX3 (by decide) tw254 dX3_read_53 h10 rfl ?_
    refine v_join (fun (t14 : Mem) => [some (pA a0), none, none, none, none]) (fun (t14 : Mem) => []) (fun (t14 : Mem) => t14) 96 (fun t14 => ?_) (fun j13 hj13 => ?_)
    · refine v_aload_n dX3_read_96 rfl ?_
      refine v_null dX3_read_97 ?_
      refine v_if (fun h15 => ?_)
      refine v_if (fun h16 => ?_)
      refine v_put (x := (-1)) 3 6 rfl inX3 (by decide) tw266 (Or.inl rfl) rfl dX3_read_98 h15 rfl (fun _ => h16) ?_
      refine v_bM (fun M17 e18 => ?_)
      exact v_return dX3_read_101 rfl rfl
    · refine v_if_ne (tgt := 96) dX3_read_56 (by decide) (fun c19 => ?_) (fun c19 => ?_)
      · refine v_aload_n dX3_read_59 rfl ?_
        refine v_get (v := pI (s9.2.1 a0 14)) 3 14 rfl inX3 (by decide) tw274 dX3_read_60 h10 rfl ?_
        refine v_aload_n dX3_read_63 rfl ?_
        refine v_get (v := pA (s9.2.1 a0 2)) 3 2 rfl inX3 (by decide) tw258 dX3_read_64 h10 rfl ?_
        refine v_if (fun h20 => ?_)
        refine v_get (v := pI (s9.2.1 (s9.2.1 a0 2) 0)) 7 0 rfl inX7 (by decide) tw56 dX3_read_67 h20 rfl ?_
        refine v_join (fun (t22 : Unit) => [some (pA a0), none, none, none, none]) (fun (t22 : Unit) => []) (fun (t22 : Unit) => s9.2) 87 (fun t22 => ?_) (fun j21 hj21 => ?_)
        · refine v_aload_n dX3_read_87 rfl ?_
          refine v_iconst dX3_read_88 (by decide) ?_
          refine v_aload_n dX3_read_89 rfl ?_
          refine v_get (v := pI (s9.2.1 a0 7)) 3 7 rfl inX3 (by decide) tw267 dX3_read_90 h10 rfl ?_
          refine v_cV (mi := mX3_read) (c0 := 0) (c1 := 0) (As := [pI 4, pI (s9.2.1 a0 7)]) (st := []) (kX3_note d (by omega) _ _ _ _) rfl h10 rfl okX3_note (Or.inl tw598) tw600 tp9 rfl (Nat.le_of_ble_eq_true rfl) dX3_read_93 (fun r23 => []) (fun r23 => r23) (fun _ => rfl) (fun _ => rfl) (fun r23 h24 => ?_) rfl
          exact hj13 r23
        · refine v_icmp_ge (tgt := 87) dX3_read_70 (by decide) (fun c25 => ?_) (fun c25 => ?_)
          · refine v_aload_n dX3_read_73 rfl ?_
            refine v_get (v := pI (s9.2.1 a0 15)) 3 15 rfl inX3 (by decide) tw275 dX3_read_74 h10 rfl ?_
            refine v_aload_n dX3_read_77 rfl ?_
            refine v_get (v := pA (s9.2.1 a0 2)) 3 2 rfl inX3 (by decide) tw258 dX3_read_78 h10 rfl ?_
            refine v_get (v := pI (s9.2.1 (s9.2.1 a0 2) 1)) 7 1 rfl inX7 (by decide) tw62 dX3_read_81 h20 rfl ?_
            refine v_icmp_lt (tgt := 96) dX3_read_84 (by decide) (fun c26 => ?_) (fun c26 => ?_)
            · exact hj13 s9.2
            · exact hj21 ()
          · exact hj21 ()
      · exact hj13 s9.2
  · refine v_icmp_gt (tgt := 52) dX3_read_24 (by decide) (fun c27 => ?_) (fun c27 => ?_)
    · exact v_drop [some (pA a0), none, none, none, none] (ls_s (ls_n (ls_n (ls_n (ls_n ls_e))))) (hj11 ())
    · refine v_aload_n dX3_read_27 rfl ?_
      refine v_get (v := pI (s9.2.1 a0 9)) 3 9 rfl inX3 (by decide) tw269 dX3_read_28 h10 rfl ?_
      refine v_if_eq (tgt := 52) dX3_read_31 (by decide) (fun c28 => ?_) (fun c28 => ?_)
      · exact v_drop [some (pA a0), none, none, none, none] (ls_s (ls_n (ls_n (ls_n (ls_n ls_e))))) (hj11 ())
      · refine v_aload_n dX3_read_34 rfl ?_
        refine v_get (v := pI (s9.2.1 a0 13)) 3 13 rfl inX3 (by decide) tw273 dX3_read_35 h10 rfl ?_
        refine v_if_ne (tgt := 52) dX3_read_38 (by decide) (fun c29 => ?_) (fun c29 => ?_)
        · refine v_aload_n dX3_read_41 rfl ?_
          refine v_iload_n dX3_read_42 rfl ?_
          refine v_cV (mi := mX3_read) (c0 := 0) (c1 := 0) (As := [pI a3]) (st := []) (kX3_readLine d (by omega) _ _ _) rfl h10 rfl okX3_readLine (Or.inl tw506) tw508 tp4 rfl (Nat.le_of_ble_eq_true rfl) dX3_read_43 (fun r30 => []) (fun r30 => r30) (fun _ => rfl) (fun _ => rfl) (fun r30 h31 => ?_) rfl
          refine v_iinc (ls' := [some (pA a0), none, none, some (pI a3), some (pI (w32 (s9.1 + 1)))]) dX3_read_46 (by decide) rfl rfl ?_
          refine v_goto (tgt := 18) dX3_read_49 (by decide) ?_
          exact hrec8 (w32 (s9.1 + 1), r30)
        · exact v_drop [some (pA a0), none, none, none, none] (ls_s (ls_n (ls_n (ls_n (ls_n ls_e))))) (hj11 ())
theorem dX10_init_0 : decode cX10_init 0 = .ok (.aload_n 0, 1) := by decide +kernel
theorem dX10_init_1 : decode cX10_init 1 = .ok (.invokespecial 3, 3) := by decide +kernel
theorem dX10_init_4 : decode cX10_init 4 = .ok (.aload_n 0, 1) := by decide +kernel
theorem dX10_init_5 : decode cX10_init 5 = .ok (.new 9, 3) := by decide +kernel
theorem dX10_init_8 : decode cX10_init 8 = .ok (.dup, 1) := by decide +kernel
theorem dX10_init_9 : decode cX10_init 9 = .ok (.invokespecial 11, 3) := by decide +kernel
theorem dX10_init_12 : decode cX10_init 12 = .ok (.putfield 12, 3) := by decide +kernel
theorem dX10_init_15 : decode cX10_init 15 = .ok (.aload_n 0, 1) := by decide +kernel
theorem dX10_init_16 : decode cX10_init 16 = .ok (.iconst 3, 1) := by decide +kernel
theorem dX10_init_17 : decode cX10_init 17 = .ok (.anewarray 9, 3) := by decide +kernel
theorem dX10_init_20 : decode cX10_init 20 = .ok (.putfield 16, 3) := by decide +kernel
theorem dX10_init_23 : decode cX10_init 23 = .ok (.aload_n 0, 1) := by decide +kernel
theorem dX10_init_24 : decode cX10_init 24 = .ok (.new 20, 3) := by decide +kernel
theorem dX10_init_27 : decode cX10_init 27 = .ok (.dup, 1) := by decide +kernel
theorem dX10_init_28 : decode cX10_init 28 = .ok (.invokespecial 22, 3) := by decide +kernel
theorem dX10_init_31 : decode cX10_init 31 = .ok (.putfield 23, 3) := by decide +kernel
theorem dX10_init_34 : decode cX10_init 34 = .ok (.aload_n 0, 1) := by decide +kernel
theorem dX10_init_35 : decode cX10_init 35 = .ok (.new 27, 3) := by decide +kernel
theorem dX10_init_38 : decode cX10_init 38 = .ok (.dup, 1) := by decide +kernel
theorem dX10_init_39 : decode cX10_init 39 = .ok (.aload_n 0, 1) := by decide +kernel
theorem dX10_init_40 : decode cX10_init 40 = .ok (.getfield 12, 3) := by decide +kernel
theorem dX10_init_43 : decode cX10_init 43 = .ok (.getfield 29, 3) := by decide +kernel
theorem dX10_init_46 : decode cX10_init 46 = .ok (.iconst 0, 1) := by decide +kernel
theorem dX10_init_47 : decode cX10_init 47 = .ok (.aaload, 1) := by decide +kernel
theorem dX10_init_48 : decode cX10_init 48 = .ok (.aload_n 0, 1) := by decide +kernel
theorem dX10_init_49 : decode cX10_init 49 = .ok (.getfield 12, 3) := by decide +kernel
theorem dX10_init_52 : decode cX10_init 52 = .ok (.getfield 33, 3) := by decide +kernel
theorem dX10_init_55 : decode cX10_init 55 = .ok (.iconst 0, 1) := by decide +kernel
theorem dX10_init_56 : decode cX10_init 56 = .ok (.aaload, 1) := by decide +kernel
theorem dX10_init_57 : decode cX10_init 57 = .ok (.invokespecial 37, 3) := by decide +kernel
theorem dX10_init_60 : decode cX10_init 60 = .ok (.putfield 40, 3) := by decide +kernel
theorem dX10_init_63 : decode cX10_init 63 = .ok (.aload_n 0, 1) := by decide +kernel
theorem dX10_init_64 : decode cX10_init 64 = .ok (.new 44, 3) := by decide +kernel
theorem dX10_init_67 : decode cX10_init 67 = .ok (.dup, 1) := by decide +kernel
theorem dX10_init_68 : decode cX10_init 68 = .ok (.invokespecial 46, 3) := by decide +kernel
theorem dX10_init_71 : decode cX10_init 71 = .ok (.putfield 47, 3) := by decide +kernel
theorem dX10_init_74 : decode cX10_init 74 = .ok (.aload_n 0, 1) := by decide +kernel
theorem dX10_init_75 : decode cX10_init 75 = .ok (.new 51, 3) := by decide +kernel
theorem dX10_init_78 : decode cX10_init 78 = .ok (.dup, 1) := by decide +kernel
theorem dX10_init_79 : decode cX10_init 79 = .ok (.aload_n 0, 1) := by decide +kernel
theorem dX10_init_80 : decode cX10_init 80 = .ok (.getfield 12, 3) := by decide +kernel
theorem dX10_init_83 : decode cX10_init 83 = .ok (.getfield 29, 3) := by decide +kernel
theorem dX10_init_86 : decode cX10_init 86 = .ok (.iconst 0, 1) := by decide +kernel
theorem dX10_init_87 : decode cX10_init 87 = .ok (.aaload, 1) := by decide +kernel
theorem dX10_init_88 : decode cX10_init 88 = .ok (.invokespecial 53, 3) := by decide +kernel
theorem dX10_init_91 : decode cX10_init 91 = .ok (.putfield 56, 3) := by decide +kernel
theorem dX10_init_94 : decode cX10_init 94 = .ok (.return_, 1) := by decide +kernel
abbrev mX10_init : MI := (yX10_init, cX10_init, 1, none, noE)
theorem okX10_init : cok mX10_init 0 := ⟨tw24, tw1, by decide, by decide, by decide, by decide +kernel⟩
def fX10_init (M : Mem) (a0 : Int) : Option Mem :=
  if (0 : Int) ≤ a0 then bM (mnew M 6 9) fun M2 => if (0 : Int) ≤ (M.2.2.2 : Int) then (fX6_init M2 (M.2.2.2 : Int)).bind fun r5 => if r5.2.1 a0 = 9 then if (-1 : Int) ≤ (M.2.2.2 : Int) then bM (mst r5 a0 0 (M.2.2.2 : Int)) fun M10 => bM (mnew M10 17 3) fun M12 => if M12.2.1 a0 = 9 then if (-1 : Int) ≤ (M10.2.2.2 : Int) then bM (mst M12 a0 1 (M10.2.2.2 : Int)) fun M16 => bM (mnew M16 3 16) fun M18 => if (0 : Int) ≤ (M16.2.2.2 : Int) then (fX3_init M18 (M16.2.2.2 : Int)).bind fun r21 => if r21.2.1 a0 = 9 then if (-1 : Int) ≤ (M16.2.2.2 : Int) then bM (mst r21 a0 2 (M16.2.2.2 : Int)) fun M26 => bM (mnew M26 8 17) fun M28 => if M28.2.1 a0 = 9 then if M28.2.1 (M28.1 a0 0) = 6 then if 14 ≤ M28.2.1 (M28.1 (M28.1 a0 0) 5) ∧ (0 : Int) ≤ 0 ∧ 0 < M28.2.2.1 (M28.1 (M28.1 a0 0) 5) then if 14 ≤ M28.2.1 (M28.1 (M28.1 a0 0) 6) ∧ (0 : Int) ≤ 0 ∧ 0 < M28.2.2.1 (M28.1 (M28.1 a0 0) 6) then if (0 : Int) ≤ (M26.2.2.2 : Int) then (fX9_init M28 (M26.2.2.2 : Int) (M28.1 (M28.1 (M28.1 a0 0) 5) 0) (M28.1 (M28.1 (M28.1 a0 0) 6) 0)).bind fun r35 => if r35.2.1 a0 = 9 then if (-1 : Int) ≤ (M26.2.2.2 : Int) then bM (mst r35 a0 3 (M26.2.2.2 : Int)) fun M40 => bM (mnew M40 5 2) fun M42 => if (0 : Int) ≤ (M40.2.2.2 : Int) then (fX5_init M42 (M40.2.2.2 : Int)).bind fun r45 => if r45.2.1 a0 = 9 then if (-1 : Int) ≤ (M40.2.2.2 : Int) then bM (mst r45 a0 4 (M40.2.2.2 : Int)) fun M50 => bM (mnew M50 2 5) fun M52 => if M52.2.1 a0 = 9 then if M52.2.1 (M52.1 a0 0) = 6 then if 14 ≤ M52.2.1 (M52.1 (M52.1 a0 0) 5) ∧ (0 : Int) ≤ 0 ∧ 0 < M52.2.2.1 (M52.1 (M52.1 a0 0) 5) then if (0 : Int) ≤ (M50.2.2.2 : Int) then (fX2_init M52 (M50.2.2.2 : Int) (M52.1 (M52.1 (M52.1 a0 0) 5) 0)).bind fun r58 => if r58.2.1 a0 = 9 then if (-1 : Int) ≤ (M50.2.2.2 : Int) then bM (mst r58 a0 5 (M50.2.2.2 : Int)) fun M63 => some M63 else none else none else none else none else none else none else none else none else none else none else none else none else none else none else none else none else none else none else none else none else none else none else none else none else none
set_option maxRecDepth 100000 in
set_option maxHeartbeats 4000000 in
theorem kX10_init (d : Nat) (hd : 4 ≤ d) (M : Mem) (a0 : Int) : Ct mX10_init d 84 2163 [pA a0] M dV (fX10_init M a0) := by
  obtain ⟨d, rfl⟩ : ∃ k, d = k + 1 := ⟨d - 1, by omega⟩
  refine Ct.of 0 (fun _ _ _ => trivial) (by decide +kernel) rfl ?_
  unfold fX10_init
  refine v_aload_n dX10_init_0 rfl ?_
  refine v_if (fun h1 => ?_)
  refine v_objInit (mi := mX10_init) h1 tw25 tw26 tw27 (Nat.le_of_ble_eq_true rfl) dX10_init_1 ?_
  refine v_aload_n dX10_init_4 rfl ?_
  refine v_new (N := 9) 6 rfl inX6 tw28 tw29 tw2 ftX6 dX10_init_5 ?_
  refine v_bM (fun M2 e3 => ?_)
  have h4 : M2.2.1 (M.2.2.2 : Int) = 6 := by rw [e3]; exact mnew_k
  refine v_dup dX10_init_8 (by intro z hz; cases hz) ?_
  refine v_if (fun h7 => ?_)
  refine v_cI (mi := mX10_init) (c0 := 44) (c1 := 1248) (As := []) (st := [pA (M.2.2.2 : Int), pA a0]) (kX6_init d (by omega) _ _) h7 okX6_init rfl rfl (Or.inl tw30) tw31 rfl (Nat.le_of_ble_eq_true rfl) dX10_init_9 (fun r5 => [pA (M.2.2.2 : Int), pA a0]) (fun r5 => r5) (fun _ => rfl) (fun _ => rfl) (fun r5 h6 => ?_) rfl
  refine v_if (fun h8 => ?_)
  refine v_if (fun h9 => ?_)
  refine v_put (x := (M.2.2.2 : Int)) 9 0 rfl inX10 (by decide) tw421 (Or.inr ⟨rfl, rfl, rfl⟩) rfl dX10_init_12 h8 rfl (fun _ => h9) ?_
  refine v_bM (fun M10 e11 => ?_)
  refine v_aload_n dX10_init_15 rfl ?_
  refine v_iconst dX10_init_16 (by decide) ?_
  refine v_anewarray (n := 3) 17 "OneBack$Told" (by decide +kernel) (by decide) tw28 dX10_init_17 ?_
  refine v_bM (fun M12 e13 => ?_)
  refine v_if (fun h14 => ?_)
  refine v_if (fun h15 => ?_)
  refine v_put (x := (M10.2.2.2 : Int)) 9 1 rfl inX10 (by decide) tw422 (Or.inr ⟨rfl, rfl, rfl⟩) rfl dX10_init_20 h14 rfl (fun _ => h15) ?_
  refine v_bM (fun M16 e17 => ?_)
  refine v_aload_n dX10_init_23 rfl ?_
  refine v_new (N := 16) 3 rfl inX3 tw240 tw241 tw7 ftX3 dX10_init_24 ?_
  refine v_bM (fun M18 e19 => ?_)
  have h20 : M18.2.1 (M16.2.2.2 : Int) = 3 := by rw [e19]; exact mnew_k
  refine v_dup dX10_init_27 (by intro z hz; cases hz) ?_
  refine v_if (fun h23 => ?_)
  refine v_cI (mi := mX10_init) (c0 := 20) (c1 := 321) (As := []) (st := [pA (M16.2.2.2 : Int), pA a0]) (kX3_init d (by omega) _ _) h23 okX3_init rfl rfl (Or.inr nw4) tw243 rfl (Nat.le_of_ble_eq_true rfl) dX10_init_28 (fun r21 => [pA (M16.2.2.2 : Int), pA a0]) (fun r21 => r21) (fun _ => rfl) (fun _ => rfl) (fun r21 h22 => ?_) rfl
  refine v_if (fun h24 => ?_)
  refine v_if (fun h25 => ?_)
  refine v_put (x := (M16.2.2.2 : Int)) 9 2 rfl inX10 (by decide) tw423 (Or.inr ⟨rfl, rfl, rfl⟩) rfl dX10_init_31 h24 rfl (fun _ => h25) ?_
  refine v_bM (fun M26 e27 => ?_)
  refine v_aload_n dX10_init_34 rfl ?_
  refine v_new (N := 17) 8 rfl inX9 tw309 tw310 tw8 ftX9 dX10_init_35 ?_
  refine v_bM (fun M28 e29 => ?_)
  have h30 : M28.2.1 (M26.2.2.2 : Int) = 8 := by rw [e29]; exact mnew_k
  refine v_dup dX10_init_38 (by intro z hz; cases hz) ?_
  refine v_aload_n dX10_init_39 rfl ?_
  refine v_if (fun h31 => ?_)
  refine v_get (v := pA (M28.1 a0 0)) 9 0 rfl inX10 (by decide) tw421 dX10_init_40 h31 rfl ?_
  refine v_if (fun h32 => ?_)
  refine v_get (v := pA (M28.1 (M28.1 a0 0) 5)) 6 5 rfl inX6 (by decide) tw215 dX10_init_43 h32 rfl ?_
  refine v_iconst dX10_init_46 (by decide) ?_
  refine v_if (fun h33 => ?_)
  refine v_aaload h33 dX10_init_47 ?_
  refine v_aload_n dX10_init_48 rfl ?_
  refine v_get (v := pA (M28.1 a0 0)) 9 0 rfl inX10 (by decide) tw421 dX10_init_49 h31 rfl ?_
  refine v_get (v := pA (M28.1 (M28.1 a0 0) 6)) 6 6 rfl inX6 (by decide) tw217 dX10_init_52 h32 rfl ?_
  refine v_iconst dX10_init_55 (by decide) ?_
  refine v_if (fun h34 => ?_)
  refine v_aaload h34 dX10_init_56 ?_
  refine v_if (fun h37 => ?_)
  refine v_cI (mi := mX10_init) (c0 := 10) (c1 := 314) (As := [pA (M28.1 (M28.1 (M28.1 a0 0) 5) 0), pA (M28.1 (M28.1 (M28.1 a0 0) 6) 0)]) (st := [pA (M26.2.2.2 : Int), pA a0]) (kX9_init d (by omega) _ _ _ _) h37 okX9_init rfl rfl (Or.inl tw311) tw312 rfl (Nat.le_of_ble_eq_true rfl) dX10_init_57 (fun r35 => [pA (M26.2.2.2 : Int), pA a0]) (fun r35 => r35) (fun _ => rfl) (fun _ => rfl) (fun r35 h36 => ?_) rfl
  refine v_if (fun h38 => ?_)
  refine v_if (fun h39 => ?_)
  refine v_put (x := (M26.2.2.2 : Int)) 9 3 rfl inX10 (by decide) tw424 (Or.inr ⟨rfl, rfl, rfl⟩) rfl dX10_init_60 h38 rfl (fun _ => h39) ?_
  refine v_bM (fun M40 e41 => ?_)
  refine v_aload_n dX10_init_63 rfl ?_
  refine v_new (N := 2) 5 rfl inX5 tw384 tw385 tw9 ftX5 dX10_init_64 ?_
  refine v_bM (fun M42 e43 => ?_)
  have h44 : M42.2.1 (M40.2.2.2 : Int) = 5 := by rw [e43]; exact mnew_k
  refine v_dup dX10_init_67 (by intro z hz; cases hz) ?_
  refine v_if (fun h47 => ?_)
  refine v_cI (mi := mX10_init) (c0 := 2) (c1 := 218) (As := []) (st := [pA (M40.2.2.2 : Int), pA a0]) (kX5_init d (by omega) _ _) h47 okX5_init rfl rfl (Or.inr nw7) tw387 rfl (Nat.le_of_ble_eq_true rfl) dX10_init_68 (fun r45 => [pA (M40.2.2.2 : Int), pA a0]) (fun r45 => r45) (fun _ => rfl) (fun _ => rfl) (fun r45 h46 => ?_) rfl
  refine v_if (fun h48 => ?_)
  refine v_if (fun h49 => ?_)
  refine v_put (x := (M40.2.2.2 : Int)) 9 4 rfl inX10 (by decide) tw425 (Or.inr ⟨rfl, rfl, rfl⟩) rfl dX10_init_71 h48 rfl (fun _ => h49) ?_
  refine v_bM (fun M50 e51 => ?_)
  refine v_aload_n dX10_init_74 rfl ?_
  refine v_new (N := 5) 2 rfl inX2 tw397 tw398 tw10 ftX2 dX10_init_75 ?_
  refine v_bM (fun M52 e53 => ?_)
  have h54 : M52.2.1 (M50.2.2.2 : Int) = 2 := by rw [e53]; exact mnew_k
  refine v_dup dX10_init_78 (by intro z hz; cases hz) ?_
  refine v_aload_n dX10_init_79 rfl ?_
  refine v_if (fun h55 => ?_)
  refine v_get (v := pA (M52.1 a0 0)) 9 0 rfl inX10 (by decide) tw421 dX10_init_80 h55 rfl ?_
  refine v_if (fun h56 => ?_)
  refine v_get (v := pA (M52.1 (M52.1 a0 0) 5)) 6 5 rfl inX6 (by decide) tw215 dX10_init_83 h56 rfl ?_
  refine v_iconst dX10_init_86 (by decide) ?_
  refine v_if (fun h57 => ?_)
  refine v_aaload h57 dX10_init_87 ?_
  refine v_if (fun h60 => ?_)
  refine v_cI (mi := mX10_init) (c0 := 2) (c1 := 10) (As := [pA (M52.1 (M52.1 (M52.1 a0 0) 5) 0)]) (st := [pA (M50.2.2.2 : Int), pA a0]) (kX2_init d (by omega) _ _ _) h60 okX2_init rfl rfl (Or.inl tw399) tw400 rfl (Nat.le_of_ble_eq_true rfl) dX10_init_88 (fun r58 => [pA (M50.2.2.2 : Int), pA a0]) (fun r58 => r58) (fun _ => rfl) (fun _ => rfl) (fun r58 h59 => ?_) rfl
  refine v_if (fun h61 => ?_)
  refine v_if (fun h62 => ?_)
  refine v_put (x := (M50.2.2.2 : Int)) 9 5 rfl inX10 (by decide) tw426 (Or.inr ⟨rfl, rfl, rfl⟩) rfl dX10_init_91 h61 rfl (fun _ => h62) ?_
  refine v_bM (fun M63 e64 => ?_)
  exact v_return dX10_init_94 rfl rfl
theorem dX10_feed_0 : decode cX10_feed 0 = .ok (.aload_n 0, 1) := by decide +kernel
theorem dX10_feed_1 : decode cX10_feed 1 = .ok (.getfield 12, 3) := by decide +kernel
theorem dX10_feed_4 : decode cX10_feed 4 = .ok (.getfield 60, 3) := by decide +kernel
theorem dX10_feed_7 : decode cX10_feed 7 = .ok (.sipush 580, 3) := by decide +kernel
theorem dX10_feed_10 : decode cX10_feed 10 = .ok (.if_icmp .le 5, 3) := by decide +kernel
theorem dX10_feed_13 : decode cX10_feed 13 = .ok (.iconst (-1), 1) := by decide +kernel
theorem dX10_feed_14 : decode cX10_feed 14 = .ok (.ireturn, 1) := by decide +kernel
theorem dX10_feed_15 : decode cX10_feed 15 = .ok (.aload_n 0, 1) := by decide +kernel
theorem dX10_feed_16 : decode cX10_feed 16 = .ok (.getfield 12, 3) := by decide +kernel
theorem dX10_feed_19 : decode cX10_feed 19 = .ok (.iload_n 1, 1) := by decide +kernel
theorem dX10_feed_20 : decode cX10_feed 20 = .ok (.invokevirtual 64, 3) := by decide +kernel
theorem dX10_feed_23 : decode cX10_feed 23 = .ok (.aload_n 0, 1) := by decide +kernel
theorem dX10_feed_24 : decode cX10_feed 24 = .ok (.getfield 12, 3) := by decide +kernel
theorem dX10_feed_27 : decode cX10_feed 27 = .ok (.iload_n 2, 1) := by decide +kernel
theorem dX10_feed_28 : decode cX10_feed 28 = .ok (.invokevirtual 64, 3) := by decide +kernel
theorem dX10_feed_31 : decode cX10_feed 31 = .ok (.aload_n 0, 1) := by decide +kernel
theorem dX10_feed_32 : decode cX10_feed 32 = .ok (.getfield 12, 3) := by decide +kernel
theorem dX10_feed_35 : decode cX10_feed 35 = .ok (.iload_n 3, 1) := by decide +kernel
theorem dX10_feed_36 : decode cX10_feed 36 = .ok (.invokevirtual 64, 3) := by decide +kernel
theorem dX10_feed_39 : decode cX10_feed 39 = .ok (.aload_n 0, 1) := by decide +kernel
theorem dX10_feed_40 : decode cX10_feed 40 = .ok (.getfield 12, 3) := by decide +kernel
theorem dX10_feed_43 : decode cX10_feed 43 = .ok (.iload 4, 2) := by decide +kernel
theorem dX10_feed_45 : decode cX10_feed 45 = .ok (.invokevirtual 64, 3) := by decide +kernel
theorem dX10_feed_48 : decode cX10_feed 48 = .ok (.aload_n 0, 1) := by decide +kernel
theorem dX10_feed_49 : decode cX10_feed 49 = .ok (.getfield 12, 3) := by decide +kernel
theorem dX10_feed_52 : decode cX10_feed 52 = .ok (.iload 5, 2) := by decide +kernel
theorem dX10_feed_54 : decode cX10_feed 54 = .ok (.invokevirtual 64, 3) := by decide +kernel
theorem dX10_feed_57 : decode cX10_feed 57 = .ok (.aload_n 0, 1) := by decide +kernel
theorem dX10_feed_58 : decode cX10_feed 58 = .ok (.getfield 12, 3) := by decide +kernel
theorem dX10_feed_61 : decode cX10_feed 61 = .ok (.getfield 60, 3) := by decide +kernel
theorem dX10_feed_64 : decode cX10_feed 64 = .ok (.ireturn, 1) := by decide +kernel
abbrev mX10_feed : MI := (yX10_feed, cX10_feed, 6, (some .int), noE)
theorem okX10_feed : cok mX10_feed 5 := ⟨tw443, tw1, by decide, by decide, by decide, by decide +kernel⟩
def fX10_feed (M : Mem) (a0 a1 a2 a3 a4 a5 : Int) : Option (Int × Mem) :=
  if M.2.1 a0 = 9 then if M.2.1 (M.1 a0 0) = 6 then if 580 < M.1 (M.1 a0 0) 1 then (some ((-1), M)) else ((fX6_put M (M.1 a0 0) a1).bind fun r4 => if r4.2.1 a0 = 9 then if r4.2.1 (r4.1 a0 0) = 6 then (fX6_put r4 (r4.1 a0 0) a2).bind fun r7 => if r7.2.1 a0 = 9 then if r7.2.1 (r7.1 a0 0) = 6 then (fX6_put r7 (r7.1 a0 0) a3).bind fun r11 => if r11.2.1 a0 = 9 then if r11.2.1 (r11.1 a0 0) = 6 then (fX6_put r11 (r11.1 a0 0) a4).bind fun r15 => if r15.2.1 a0 = 9 then if r15.2.1 (r15.1 a0 0) = 6 then (fX6_put r15 (r15.1 a0 0) a5).bind fun r19 => if r19.2.1 a0 = 9 then if r19.2.1 (r19.1 a0 0) = 6 then some (r19.1 (r19.1 a0 0) 1, r19) else none else none else none else none else none else none else none else none else none else none) else none else none
set_option maxRecDepth 100000 in
set_option maxHeartbeats 4000000 in
theorem kX10_feed (d : Nat) (hd : 1 ≤ d) (M : Mem) (a0 a1 a2 a3 a4 a5 : Int) : Ct mX10_feed d 0 0 [pA a0, pI a1, pI a2, pI a3, pI a4, pI a5] M dIM (fX10_feed M a0 a1 a2 a3 a4 a5) := by
  obtain ⟨d, rfl⟩ : ∃ k, d = k + 1 := ⟨d - 1, by omega⟩
  refine Ct.of 0 (fun _ _ _ => trivial) (by decide +kernel) rfl ?_
  unfold fX10_feed
  refine v_aload_n dX10_feed_0 rfl ?_
  refine v_if (fun h1 => ?_)
  refine v_get (v := pA (M.1 a0 0)) 9 0 rfl inX10 (by decide) tw421 dX10_feed_1 h1 rfl ?_
  refine v_if (fun h2 => ?_)
  refine v_get (v := pI (M.1 (M.1 a0 0) 1)) 6 1 rfl inX6 (by decide) tw207 dX10_feed_4 h2 rfl ?_
  refine v_sipush dX10_feed_7 (by decide) ?_
  refine v_icmp_le (tgt := 15) dX10_feed_10 (by decide) (fun c3 => ?_) (fun c3 => ?_)
  · refine v_iconst dX10_feed_13 (by decide) ?_
    exact v_ireturn dX10_feed_14 rfl rfl
  · refine v_aload_n dX10_feed_15 rfl ?_
    refine v_get (v := pA (M.1 a0 0)) 9 0 rfl inX10 (by decide) tw421 dX10_feed_16 h1 rfl ?_
    refine v_iload_n dX10_feed_19 rfl ?_
    refine v_cV (mi := mX10_feed) (c0 := 0) (c1 := 0) (As := [pI a1]) (st := []) (kX6_put d (by omega) _ _ _) rfl h2 rfl okX6_put (Or.inl tw444) tw445 tw446 rfl (Nat.le_of_ble_eq_true rfl) dX10_feed_20 (fun r4 => []) (fun r4 => r4) (fun _ => rfl) (fun _ => rfl) (fun r4 h5 => ?_) rfl
    refine v_aload_n dX10_feed_23 rfl ?_
    refine v_if (fun h6 => ?_)
    refine v_get (v := pA (r4.1 a0 0)) 9 0 rfl inX10 (by decide) tw421 dX10_feed_24 h6 rfl ?_
    refine v_iload_n dX10_feed_27 rfl ?_
    refine v_if (fun h9 => ?_)
    refine v_cV (mi := mX10_feed) (c0 := 0) (c1 := 0) (As := [pI a2]) (st := []) (kX6_put d (by omega) _ _ _) rfl h9 rfl okX6_put (Or.inl tw444) tw445 tw446 rfl (Nat.le_of_ble_eq_true rfl) dX10_feed_28 (fun r7 => []) (fun r7 => r7) (fun _ => rfl) (fun _ => rfl) (fun r7 h8 => ?_) rfl
    refine v_aload_n dX10_feed_31 rfl ?_
    refine v_if (fun h10 => ?_)
    refine v_get (v := pA (r7.1 a0 0)) 9 0 rfl inX10 (by decide) tw421 dX10_feed_32 h10 rfl ?_
    refine v_iload_n dX10_feed_35 rfl ?_
    refine v_if (fun h13 => ?_)
    refine v_cV (mi := mX10_feed) (c0 := 0) (c1 := 0) (As := [pI a3]) (st := []) (kX6_put d (by omega) _ _ _) rfl h13 rfl okX6_put (Or.inl tw444) tw445 tw446 rfl (Nat.le_of_ble_eq_true rfl) dX10_feed_36 (fun r11 => []) (fun r11 => r11) (fun _ => rfl) (fun _ => rfl) (fun r11 h12 => ?_) rfl
    refine v_aload_n dX10_feed_39 rfl ?_
    refine v_if (fun h14 => ?_)
    refine v_get (v := pA (r11.1 a0 0)) 9 0 rfl inX10 (by decide) tw421 dX10_feed_40 h14 rfl ?_
    refine v_iload dX10_feed_43 rfl ?_
    refine v_if (fun h17 => ?_)
    refine v_cV (mi := mX10_feed) (c0 := 0) (c1 := 0) (As := [pI a4]) (st := []) (kX6_put d (by omega) _ _ _) rfl h17 rfl okX6_put (Or.inl tw444) tw445 tw446 rfl (Nat.le_of_ble_eq_true rfl) dX10_feed_45 (fun r15 => []) (fun r15 => r15) (fun _ => rfl) (fun _ => rfl) (fun r15 h16 => ?_) rfl
    refine v_aload_n dX10_feed_48 rfl ?_
    refine v_if (fun h18 => ?_)
    refine v_get (v := pA (r15.1 a0 0)) 9 0 rfl inX10 (by decide) tw421 dX10_feed_49 h18 rfl ?_
    refine v_iload dX10_feed_52 rfl ?_
    refine v_if (fun h21 => ?_)
    refine v_cV (mi := mX10_feed) (c0 := 0) (c1 := 0) (As := [pI a5]) (st := []) (kX6_put d (by omega) _ _ _) rfl h21 rfl okX6_put (Or.inl tw444) tw445 tw446 rfl (Nat.le_of_ble_eq_true rfl) dX10_feed_54 (fun r19 => []) (fun r19 => r19) (fun _ => rfl) (fun _ => rfl) (fun r19 h20 => ?_) rfl
    refine v_aload_n dX10_feed_57 rfl ?_
    refine v_if (fun h22 => ?_)
    refine v_get (v := pA (r19.1 a0 0)) 9 0 rfl inX10 (by decide) tw421 dX10_feed_58 h22 rfl ?_
    refine v_if (fun h23 => ?_)
    refine v_get (v := pI (r19.1 (r19.1 a0 0) 1)) 6 1 rfl inX6 (by decide) tw207 dX10_feed_61 h23 rfl ?_
    exact v_ireturn dX10_feed_64 rfl rfl
theorem dX10_end_0 : decode cX10_end 0 = .ok (.iload_n 1, 1) := by decide +kernel
theorem dX10_end_1 : decode cX10_end 1 = .ok (.ifCond .lt 14, 3) := by decide +kernel
theorem dX10_end_4 : decode cX10_end 4 = .ok (.iload_n 1, 1) := by decide +kernel
theorem dX10_end_5 : decode cX10_end 5 = .ok (.aload_n 0, 1) := by decide +kernel
theorem dX10_end_6 : decode cX10_end 6 = .ok (.getfield 12, 3) := by decide +kernel
theorem dX10_end_9 : decode cX10_end 9 = .ok (.getfield 60, 3) := by decide +kernel
theorem dX10_end_12 : decode cX10_end 12 = .ok (.if_icmp .le 5, 3) := by decide +kernel
theorem dX10_end_15 : decode cX10_end 15 = .ok (.iconst (-1), 1) := by decide +kernel
theorem dX10_end_16 : decode cX10_end 16 = .ok (.ireturn, 1) := by decide +kernel
theorem dX10_end_17 : decode cX10_end 17 = .ok (.aload_n 0, 1) := by decide +kernel
theorem dX10_end_18 : decode cX10_end 18 = .ok (.getfield 12, 3) := by decide +kernel
theorem dX10_end_21 : decode cX10_end 21 = .ok (.iload_n 1, 1) := by decide +kernel
theorem dX10_end_22 : decode cX10_end 22 = .ok (.putfield 60, 3) := by decide +kernel
theorem dX10_end_25 : decode cX10_end 25 = .ok (.iload_n 1, 1) := by decide +kernel
theorem dX10_end_26 : decode cX10_end 26 = .ok (.ireturn, 1) := by decide +kernel
abbrev mX10_end : MI := (yX10_end, cX10_end, 2, (some .int), noE)
theorem okX10_end : cok mX10_end 1 := ⟨tw451, tw1, by decide, by decide, by decide, by decide +kernel⟩
def fX10_end (M : Mem) (a0 a1 : Int) : Option (Int × Mem) :=
  if a1 < 0 then (some ((-1), M)) else (if M.2.1 a0 = 9 then if M.2.1 (M.1 a0 0) = 6 then if M.1 (M.1 a0 0) 1 < a1 then (some ((-1), M)) else (bM (mst M (M.1 a0 0) 1 a1) fun M5 => some (a1, M5)) else none else none)
set_option maxRecDepth 100000 in
set_option maxHeartbeats 4000000 in
theorem kX10_end (d : Nat) (hd : 0 ≤ d) (M : Mem) (a0 a1 : Int) : Ct mX10_end d 0 0 [pA a0, pI a1] M dIM (fX10_end M a0 a1) := by
  refine Ct.of 0 (fun _ _ _ => trivial) (by decide +kernel) rfl ?_
  unfold fX10_end
  refine v_iload_n dX10_end_0 rfl ?_
  refine v_if_lt (tgt := 15) dX10_end_1 (by decide) (fun c1 => ?_) (fun c1 => ?_)
  · refine v_iconst dX10_end_15 (by decide) ?_
    exact v_ireturn dX10_end_16 rfl rfl
  · refine v_iload_n dX10_end_4 rfl ?_
    refine v_aload_n dX10_end_5 rfl ?_
    refine v_if (fun h2 => ?_)
    refine v_get (v := pA (M.1 a0 0)) 9 0 rfl inX10 (by decide) tw421 dX10_end_6 h2 rfl ?_
    refine v_if (fun h3 => ?_)
    refine v_get (v := pI (M.1 (M.1 a0 0) 1)) 6 1 rfl inX6 (by decide) tw207 dX10_end_9 h3 rfl ?_
    refine v_icmp_le (tgt := 17) dX10_end_12 (by decide) (fun c4 => ?_) (fun c4 => ?_)
    · refine v_iconst dX10_end_15 (by decide) ?_
      exact v_ireturn dX10_end_16 rfl rfl
    · refine v_aload_n dX10_end_17 rfl ?_
      refine v_get (v := pA (M.1 a0 0)) 9 0 rfl inX10 (by decide) tw421 dX10_end_18 h2 rfl ?_
      refine v_iload_n dX10_end_21 rfl ?_
      refine v_put (x := a1) 6 1 rfl inX6 (by decide) tw207 (Or.inl rfl) rfl dX10_end_22 h3 rfl id ?_
      refine v_bM (fun M5 e6 => ?_)
      refine v_iload_n dX10_end_25 rfl ?_
      exact v_ireturn dX10_end_26 rfl rfl
theorem dX10_text_0 : decode cX10_text 0 = .ok (.aload_n 0, 1) := by decide +kernel
theorem dX10_text_1 : decode cX10_text 1 = .ok (.getfield 12, 3) := by decide +kernel
theorem dX10_text_4 : decode cX10_text 4 = .ok (.iconst 0, 1) := by decide +kernel
theorem dX10_text_5 : decode cX10_text 5 = .ok (.putfield 68, 3) := by decide +kernel
theorem dX10_text_8 : decode cX10_text 8 = .ok (.aload_n 0, 1) := by decide +kernel
theorem dX10_text_9 : decode cX10_text 9 = .ok (.getfield 12, 3) := by decide +kernel
theorem dX10_text_12 : decode cX10_text 12 = .ok (.iconst (-1), 1) := by decide +kernel
theorem dX10_text_13 : decode cX10_text 13 = .ok (.putfield 71, 3) := by decide +kernel
theorem dX10_text_16 : decode cX10_text 16 = .ok (.aload_n 0, 1) := by decide +kernel
theorem dX10_text_17 : decode cX10_text 17 = .ok (.getfield 12, 3) := by decide +kernel
theorem dX10_text_20 : decode cX10_text 20 = .ok (.getfield 60, 3) := by decide +kernel
theorem dX10_text_23 : decode cX10_text 23 = .ok (.istore_n 3, 1) := by decide +kernel
theorem dX10_text_24 : decode cX10_text 24 = .ok (.aload_n 0, 1) := by decide +kernel
theorem dX10_text_25 : decode cX10_text 25 = .ok (.getfield 12, 3) := by decide +kernel
theorem dX10_text_28 : decode cX10_text 28 = .ok (.iconst 0, 1) := by decide +kernel
theorem dX10_text_29 : decode cX10_text 29 = .ok (.putfield 60, 3) := by decide +kernel
theorem dX10_text_32 : decode cX10_text 32 = .ok (.aload_n 0, 1) := by decide +kernel
theorem dX10_text_33 : decode cX10_text 33 = .ok (.getfield 12, 3) := by decide +kernel
theorem dX10_text_36 : decode cX10_text 36 = .ok (.iload_n 1, 1) := by decide +kernel
theorem dX10_text_37 : decode cX10_text 37 = .ok (.iload_n 2, 1) := by decide +kernel
theorem dX10_text_38 : decode cX10_text 38 = .ok (.invokevirtual 74, 3) := by decide +kernel
theorem dX10_text_41 : decode cX10_text 41 = .ok (.istore 4, 2) := by decide +kernel
theorem dX10_text_43 : decode cX10_text 43 = .ok (.iload 4, 2) := by decide +kernel
theorem dX10_text_45 : decode cX10_text 45 = .ok (.iconst (-1), 1) := by decide +kernel
theorem dX10_text_46 : decode cX10_text 46 = .ok (.if_icmp .ne 6, 3) := by decide +kernel
theorem dX10_text_49 : decode cX10_text 49 = .ok (.bipush (-2), 2) := by decide +kernel
theorem dX10_text_51 : decode cX10_text 51 = .ok (.ireturn, 1) := by decide +kernel
theorem dX10_text_52 : decode cX10_text 52 = .ok (.aload_n 0, 1) := by decide +kernel
theorem dX10_text_53 : decode cX10_text 53 = .ok (.getfield 23, 3) := by decide +kernel
theorem dX10_text_56 : decode cX10_text 56 = .ok (.aload_n 0, 1) := by decide +kernel
theorem dX10_text_57 : decode cX10_text 57 = .ok (.getfield 12, 3) := by decide +kernel
theorem dX10_text_60 : decode cX10_text 60 = .ok (.getfield 78, 3) := by decide +kernel
theorem dX10_text_63 : decode cX10_text 63 = .ok (.iload_n 3, 1) := by decide +kernel
theorem dX10_text_64 : decode cX10_text 64 = .ok (.iload_n 1, 1) := by decide +kernel
theorem dX10_text_65 : decode cX10_text 65 = .ok (.invokevirtual 82, 3) := by decide +kernel
theorem dX10_text_68 : decode cX10_text 68 = .ok (.aload_n 0, 1) := by decide +kernel
theorem dX10_text_69 : decode cX10_text 69 = .ok (.getfield 12, 3) := by decide +kernel
theorem dX10_text_72 : decode cX10_text 72 = .ok (.aload_n 0, 1) := by decide +kernel
theorem dX10_text_73 : decode cX10_text 73 = .ok (.getfield 23, 3) := by decide +kernel
theorem dX10_text_76 : decode cX10_text 76 = .ok (.getfield 86, 3) := by decide +kernel
theorem dX10_text_79 : decode cX10_text 79 = .ok (.putfield 68, 3) := by decide +kernel
theorem dX10_text_82 : decode cX10_text 82 = .ok (.aload_n 0, 1) := by decide +kernel
theorem dX10_text_83 : decode cX10_text 83 = .ok (.getfield 12, 3) := by decide +kernel
theorem dX10_text_86 : decode cX10_text 86 = .ok (.aload_n 0, 1) := by decide +kernel
theorem dX10_text_87 : decode cX10_text 87 = .ok (.getfield 23, 3) := by decide +kernel
theorem dX10_text_90 : decode cX10_text 90 = .ok (.getfield 87, 3) := by decide +kernel
theorem dX10_text_93 : decode cX10_text 93 = .ok (.putfield 71, 3) := by decide +kernel
theorem dX10_text_96 : decode cX10_text 96 = .ok (.aload_n 0, 1) := by decide +kernel
theorem dX10_text_97 : decode cX10_text 97 = .ok (.getfield 23, 3) := by decide +kernel
theorem dX10_text_100 : decode cX10_text 100 = .ok (.getfield 86, 3) := by decide +kernel
theorem dX10_text_103 : decode cX10_text 103 = .ok (.ifCond .eq 5, 3) := by decide +kernel
theorem dX10_text_106 : decode cX10_text 106 = .ok (.iconst (-1), 1) := by decide +kernel
theorem dX10_text_107 : decode cX10_text 107 = .ok (.ireturn, 1) := by decide +kernel
theorem dX10_text_108 : decode cX10_text 108 = .ok (.aload_n 0, 1) := by decide +kernel
theorem dX10_text_109 : decode cX10_text 109 = .ok (.getfield 12, 3) := by decide +kernel
theorem dX10_text_112 : decode cX10_text 112 = .ok (.aload_n 0, 1) := by decide +kernel
theorem dX10_text_113 : decode cX10_text 113 = .ok (.getfield 23, 3) := by decide +kernel
theorem dX10_text_116 : decode cX10_text 116 = .ok (.iload_n 1, 1) := by decide +kernel
theorem dX10_text_117 : decode cX10_text 117 = .ok (.iload 4, 2) := by decide +kernel
theorem dX10_text_119 : decode cX10_text 119 = .ok (.invokevirtual 88, 3) := by decide +kernel
theorem dX10_text_122 : decode cX10_text 122 = .ok (.iload 4, 2) := by decide +kernel
theorem dX10_text_124 : decode cX10_text 124 = .ok (.ireturn, 1) := by decide +kernel
abbrev mX10_text : MI := (yX10_text, cX10_text, 5, (some .int), noE)
theorem okX10_text : cok mX10_text 2 := ⟨tw455, tw1, by decide, by decide, by decide, by decide +kernel⟩
def fX10_text (M : Mem) (a0 a1 a2 : Int) : Option (Int × Mem) :=
  if M.2.1 a0 = 9 then if M.2.1 (M.1 a0 0) = 6 then bM (mst M (M.1 a0 0) 2 0) fun M3 => if M3.2.1 (M3.1 a0 0) = 6 then bM (mst M3 (M3.1 a0 0) 3 (-1)) fun M6 => if M6.2.1 (M6.1 a0 0) = 6 then bM (mst M6 (M6.1 a0 0) 1 0) fun M9 => if M9.2.1 (M9.1 a0 0) = 6 then (fX6_slot M9 (M9.1 a0 0) a1 a2).bind fun r11 => if r11 = (-1) then (some ((-2), M9)) else (if M9.2.1 (M9.1 a0 2) = 3 then (fX3_read M9 (M9.1 a0 2) (M9.1 (M9.1 a0 0) 0) (M6.1 (M6.1 a0 0) 1) a1).bind fun r15 => if r15.2.1 a0 = 9 then if r15.2.1 (r15.1 a0 2) = 3 then if r15.2.1 (r15.1 a0 0) = 6 then bM (mst r15 (r15.1 a0 0) 2 (r15.1 (r15.1 a0 2) 0)) fun M21 => if M21.2.1 (M21.1 a0 2) = 3 then if M21.2.1 (M21.1 a0 0) = 6 then bM (mst M21 (M21.1 a0 0) 3 (M21.1 (M21.1 a0 2) 1)) fun M25 => if M25.2.1 (M25.1 a0 2) = 3 then if M25.1 (M25.1 a0 2) 0 = 0 then (if M25.2.1 (M25.1 a0 0) = 6 then (fX6_keep M25 (M25.1 a0 0) (M25.1 a0 2) a1 r11).bind fun r29 => some (r11, r29) else none) else (some ((-1), M25)) else none else none else none else none else none else none else none) else none else none else none else none else none
set_option maxRecDepth 100000 in
set_option maxHeartbeats 4000000 in
theorem kX10_text (d : Nat) (hd : 10 ≤ d) (M : Mem) (a0 a1 a2 : Int) : Ct mX10_text d 0 0 [pA a0, pI a1, pI a2] M dIM (fX10_text M a0 a1 a2) := by
  obtain ⟨d, rfl⟩ : ∃ k, d = k + 1 := ⟨d - 1, by omega⟩
  refine Ct.of 2 (fun _ _ _ => trivial) (by decide +kernel) rfl ?_
  unfold fX10_text
  refine v_aload_n dX10_text_0 rfl ?_
  refine v_if (fun h1 => ?_)
  refine v_get (v := pA (M.1 a0 0)) 9 0 rfl inX10 (by decide) tw421 dX10_text_1 h1 rfl ?_
  refine v_iconst dX10_text_4 (by decide) ?_
  refine v_if (fun h2 => ?_)
  refine v_put (x := 0) 6 2 rfl inX6 (by decide) tw209 (Or.inl rfl) rfl dX10_text_5 h2 rfl id ?_
  refine v_bM (fun M3 e4 => ?_)
  refine v_aload_n dX10_text_8 rfl ?_
  refine v_get (v := pA (M3.1 a0 0)) 9 0 rfl inX10 (by decide) tw421 dX10_text_9 (by rw [e4]; exact h1) rfl ?_
  refine v_iconst dX10_text_12 (by decide) ?_
  refine v_if (fun h5 => ?_)
  refine v_put (x := (-1)) 6 3 rfl inX6 (by decide) tw211 (Or.inl rfl) rfl dX10_text_13 h5 rfl id ?_
  refine v_bM (fun M6 e7 => ?_)
  refine v_aload_n dX10_text_16 rfl ?_
  refine v_get (v := pA (M6.1 a0 0)) 9 0 rfl inX10 (by decide) tw421 dX10_text_17 (by rw [e7, e4]; exact h1) rfl ?_
  refine v_if (fun h8 => ?_)
  refine v_get (v := pI (M6.1 (M6.1 a0 0) 1)) 6 1 rfl inX6 (by decide) tw207 dX10_text_20 h8 rfl ?_
  refine v_istore_n (ls' := [some (pA a0), some (pI a1), some (pI a2), some (pI (M6.1 (M6.1 a0 0) 1)), none]) dX10_text_23 (by decide) rfl ?_
  refine v_aload_n dX10_text_24 rfl ?_
  refine v_get (v := pA (M6.1 a0 0)) 9 0 rfl inX10 (by decide) tw421 dX10_text_25 (by rw [e7, e4]; exact h1) rfl ?_
  refine v_iconst dX10_text_28 (by decide) ?_
  refine v_put (x := 0) 6 1 rfl inX6 (by decide) tw207 (Or.inl rfl) rfl dX10_text_29 h8 rfl id ?_
  refine v_bM (fun M9 e10 => ?_)
  refine v_aload_n dX10_text_32 rfl ?_
  refine v_get (v := pA (M9.1 a0 0)) 9 0 rfl inX10 (by decide) tw421 dX10_text_33 (by rw [e10, e7, e4]; exact h1) rfl ?_
  refine v_iload_n dX10_text_36 rfl ?_
  refine v_iload_n dX10_text_37 rfl ?_
  refine v_if (fun h13 => ?_)
  refine v_cV (mi := mX10_text) (c0 := 0) (c1 := 0) (As := [pI a1, pI a2]) (st := []) (kX6_slot d (by omega) _ _ _ _) rfl h13 rfl okX6_slot (Or.inl tw456) tw457 tw458 rfl (Nat.le_of_ble_eq_true rfl) dX10_text_38 (fun r11 => [pI r11]) (fun r11 => M9) (fun _ => rfl) (fun _ => rfl) (fun r11 h12 => ?_) rfl
  refine v_istore (ls' := [some (pA a0), some (pI a1), some (pI a2), some (pI (M6.1 (M6.1 a0 0) 1)), some (pI r11)]) dX10_text_41 (by decide) rfl ?_
  refine v_iload dX10_text_43 rfl ?_
  refine v_iconst dX10_text_45 (by decide) ?_
  refine v_icmp_ne (tgt := 52) dX10_text_46 (by decide) (fun c14 => ?_) (fun c14 => ?_)
  · refine v_bipush dX10_text_49 (by decide) ?_
    exact v_ireturn dX10_text_51 rfl rfl
  · refine v_aload_n dX10_text_52 rfl ?_
    refine v_get (v := pA (M9.1 a0 2)) 9 2 rfl inX10 (by decide) tw423 dX10_text_53 (by rw [e10, e7, e4]; exact h1) rfl ?_
    refine v_aload_n dX10_text_56 rfl ?_
    refine v_get (v := pA (M9.1 a0 0)) 9 0 rfl inX10 (by decide) tw421 dX10_text_57 (by rw [e10, e7, e4]; exact h1) rfl ?_
    refine v_get (v := pA (M9.1 (M9.1 a0 0) 0)) 6 0 rfl inX6 (by decide) tw205 dX10_text_60 h13 rfl ?_
    refine v_iload_n dX10_text_63 rfl ?_
    refine v_iload_n dX10_text_64 rfl ?_
    refine v_if (fun h17 => ?_)
    refine v_cV (mi := mX10_text) (c0 := 0) (c1 := 0) (As := [pA (M9.1 (M9.1 a0 0) 0), pI (M6.1 (M6.1 a0 0) 1), pI a1]) (st := []) (kX3_read d (by omega) _ _ _ _ _) rfl h17 rfl okX3_read (Or.inl tw464) tw465 tw466 rfl (Nat.le_of_ble_eq_true rfl) dX10_text_65 (fun r15 => []) (fun r15 => r15) (fun _ => rfl) (fun _ => rfl) (fun r15 h16 => ?_) rfl
    refine v_aload_n dX10_text_68 rfl ?_
    refine v_if (fun h18 => ?_)
    refine v_get (v := pA (r15.1 a0 0)) 9 0 rfl inX10 (by decide) tw421 dX10_text_69 h18 rfl ?_
    refine v_aload_n dX10_text_72 rfl ?_
    refine v_get (v := pA (r15.1 a0 2)) 9 2 rfl inX10 (by decide) tw423 dX10_text_73 h18 rfl ?_
    refine v_if (fun h19 => ?_)
    refine v_get (v := pI (r15.1 (r15.1 a0 2) 0)) 3 0 rfl inX3 (by decide) tw255 dX10_text_76 h19 rfl ?_
    refine v_if (fun h20 => ?_)
    refine v_put (x := r15.1 (r15.1 a0 2) 0) 6 2 rfl inX6 (by decide) tw209 (Or.inl rfl) rfl dX10_text_79 h20 rfl id ?_
    refine v_bM (fun M21 e22 => ?_)
    refine v_aload_n dX10_text_82 rfl ?_
    refine v_get (v := pA (M21.1 a0 0)) 9 0 rfl inX10 (by decide) tw421 dX10_text_83 (by rw [e22]; exact h18) rfl ?_
    refine v_aload_n dX10_text_86 rfl ?_
    refine v_get (v := pA (M21.1 a0 2)) 9 2 rfl inX10 (by decide) tw423 dX10_text_87 (by rw [e22]; exact h18) rfl ?_
    refine v_if (fun h23 => ?_)
    refine v_get (v := pI (M21.1 (M21.1 a0 2) 1)) 3 1 rfl inX3 (by decide) tw257 dX10_text_90 h23 rfl ?_
    refine v_if (fun h24 => ?_)
    refine v_put (x := M21.1 (M21.1 a0 2) 1) 6 3 rfl inX6 (by decide) tw211 (Or.inl rfl) rfl dX10_text_93 h24 rfl id ?_
    refine v_bM (fun M25 e26 => ?_)
    refine v_aload_n dX10_text_96 rfl ?_
    refine v_get (v := pA (M25.1 a0 2)) 9 2 rfl inX10 (by decide) tw423 dX10_text_97 (by rw [e26, e22]; exact h18) rfl ?_
    refine v_if (fun h27 => ?_)
    refine v_get (v := pI (M25.1 (M25.1 a0 2) 0)) 3 0 rfl inX3 (by decide) tw255 dX10_text_100 h27 rfl ?_
    refine v_if_eq (tgt := 108) dX10_text_103 (by decide) (fun c28 => ?_) (fun c28 => ?_)
    · refine v_aload_n dX10_text_108 rfl ?_
      refine v_get (v := pA (M25.1 a0 0)) 9 0 rfl inX10 (by decide) tw421 dX10_text_109 (by rw [e26, e22]; exact h18) rfl ?_
      refine v_aload_n dX10_text_112 rfl ?_
      refine v_get (v := pA (M25.1 a0 2)) 9 2 rfl inX10 (by decide) tw423 dX10_text_113 (by rw [e26, e22]; exact h18) rfl ?_
      refine v_iload_n dX10_text_116 rfl ?_
      refine v_iload dX10_text_117 rfl ?_
      refine v_if (fun h31 => ?_)
      refine v_cV (mi := mX10_text) (c0 := 0) (c1 := 0) (As := [pA (M25.1 a0 2), pI a1, pI r11]) (st := []) (kX6_keep d (by omega) _ _ _ _ _) rfl h31 rfl okX6_keep (Or.inl tw642) tw643 tw644 rfl (Nat.le_of_ble_eq_true rfl) dX10_text_119 (fun r29 => []) (fun r29 => r29) (fun _ => rfl) (fun _ => rfl) (fun r29 h30 => ?_) rfl
      refine v_iload dX10_text_122 rfl ?_
      exact v_ireturn dX10_text_124 rfl rfl
    · refine v_iconst dX10_text_106 (by decide) ?_
      exact v_ireturn dX10_text_107 rfl rfl
theorem dX10_fault_0 : decode cX10_fault 0 = .ok (.iload_n 1, 1) := by decide +kernel
theorem dX10_fault_1 : decode cX10_fault 1 = .ok (.ifCond .ne 11, 3) := by decide +kernel
theorem dX10_fault_4 : decode cX10_fault 4 = .ok (.aload_n 0, 1) := by decide +kernel
theorem dX10_fault_5 : decode cX10_fault 5 = .ok (.getfield 12, 3) := by decide +kernel
theorem dX10_fault_8 : decode cX10_fault 8 = .ok (.getfield 68, 3) := by decide +kernel
theorem dX10_fault_11 : decode cX10_fault 11 = .ok (.ireturn, 1) := by decide +kernel
theorem dX10_fault_12 : decode cX10_fault 12 = .ok (.iload_n 1, 1) := by decide +kernel
theorem dX10_fault_13 : decode cX10_fault 13 = .ok (.iconst 1, 1) := by decide +kernel
theorem dX10_fault_14 : decode cX10_fault 14 = .ok (.if_icmp .ne 13, 3) := by decide +kernel
theorem dX10_fault_17 : decode cX10_fault 17 = .ok (.aload_n 0, 1) := by decide +kernel
theorem dX10_fault_18 : decode cX10_fault 18 = .ok (.getfield 12, 3) := by decide +kernel
theorem dX10_fault_21 : decode cX10_fault 21 = .ok (.getfield 71, 3) := by decide +kernel
theorem dX10_fault_24 : decode cX10_fault 24 = .ok (.goto 4, 3) := by decide +kernel
theorem dX10_fault_27 : decode cX10_fault 27 = .ok (.iconst (-1), 1) := by decide +kernel
theorem dX10_fault_28 : decode cX10_fault 28 = .ok (.ireturn, 1) := by decide +kernel
abbrev mX10_fault : MI := (yX10_fault, cX10_fault, 2, (some .int), noE)
theorem okX10_fault : cok mX10_fault 1 := ⟨tw675, tw1, by decide, by decide, by decide, by decide +kernel⟩
def fX10_fault (M : Mem) (a0 a1 : Int) : Option Int :=
  if a1 = 0 then (if M.2.1 a0 = 9 then if M.2.1 (M.1 a0 0) = 6 then some (M.1 (M.1 a0 0) 2) else none else none) else (if a1 = 1 then (if M.2.1 a0 = 9 then if M.2.1 (M.1 a0 0) = 6 then some (M.1 (M.1 a0 0) 3) else none else none) else (some (-1)))
set_option maxRecDepth 100000 in
set_option maxHeartbeats 4000000 in
theorem kX10_fault (d : Nat) (hd : 0 ≤ d) (M : Mem) (a0 a1 : Int) : Ct mX10_fault d 0 0 [pA a0, pI a1] M (dI M) (fX10_fault M a0 a1) := by
  refine Ct.of 0 (fun _ _ _ => trivial) (by decide +kernel) rfl ?_
  unfold fX10_fault
  refine v_iload_n dX10_fault_0 rfl ?_
  refine v_if_ne (tgt := 12) dX10_fault_1 (by decide) (fun c1 => ?_) (fun c1 => ?_)
  · refine v_aload_n dX10_fault_4 rfl ?_
    refine v_if (fun h2 => ?_)
    refine v_get (v := pA (M.1 a0 0)) 9 0 rfl inX10 (by decide) tw421 dX10_fault_5 h2 rfl ?_
    refine v_if (fun h3 => ?_)
    refine v_get (v := pI (M.1 (M.1 a0 0) 2)) 6 2 rfl inX6 (by decide) tw209 dX10_fault_8 h3 rfl ?_
    exact v_ireturn dX10_fault_11 rfl rfl
  · refine v_iload_n dX10_fault_12 rfl ?_
    refine v_iconst dX10_fault_13 (by decide) ?_
    refine v_icmp_ne (tgt := 27) dX10_fault_14 (by decide) (fun c4 => ?_) (fun c4 => ?_)
    · refine v_aload_n dX10_fault_17 rfl ?_
      refine v_if (fun h5 => ?_)
      refine v_get (v := pA (M.1 a0 0)) 9 0 rfl inX10 (by decide) tw421 dX10_fault_18 h5 rfl ?_
      refine v_if (fun h6 => ?_)
      refine v_get (v := pI (M.1 (M.1 a0 0) 3)) 6 3 rfl inX6 (by decide) tw211 dX10_fault_21 h6 rfl ?_
      refine v_goto (tgt := 28) dX10_fault_24 (by decide) ?_
      exact v_ireturn dX10_fault_28 rfl rfl
    · refine v_iconst dX10_fault_27 (by decide) ?_
      exact v_ireturn dX10_fault_28 rfl rfl
theorem dX10_town_0 : decode cX10_town 0 = .ok (.aload_n 0, 1) := by decide +kernel
theorem dX10_town_1 : decode cX10_town 1 = .ok (.getfield 12, 3) := by decide +kernel
theorem dX10_town_4 : decode cX10_town 4 = .ok (.iload_n 1, 1) := by decide +kernel
theorem dX10_town_5 : decode cX10_town 5 = .ok (.invokevirtual 92, 3) := by decide +kernel
theorem dX10_town_8 : decode cX10_town 8 = .ok (.astore_n 3, 1) := by decide +kernel
theorem dX10_town_9 : decode cX10_town 9 = .ok (.aload_n 3, 1) := by decide +kernel
theorem dX10_town_10 : decode cX10_town 10 = .ok (.ifnonnull 6, 3) := by decide +kernel
theorem dX10_town_13 : decode cX10_town 13 = .ok (.bipush (-2), 2) := by decide +kernel
theorem dX10_town_15 : decode cX10_town 15 = .ok (.ireturn, 1) := by decide +kernel
theorem dX10_town_16 : decode cX10_town 16 = .ok (.iload_n 2, 1) := by decide +kernel
theorem dX10_town_17 : decode cX10_town 17 = .ok (.ifCond .ne 8, 3) := by decide +kernel
theorem dX10_town_20 : decode cX10_town 20 = .ok (.aload_n 3, 1) := by decide +kernel
theorem dX10_town_21 : decode cX10_town 21 = .ok (.getfield 96, 3) := by decide +kernel
theorem dX10_town_24 : decode cX10_town 24 = .ok (.ireturn, 1) := by decide +kernel
theorem dX10_town_25 : decode cX10_town 25 = .ok (.iload_n 2, 1) := by decide +kernel
theorem dX10_town_26 : decode cX10_town 26 = .ok (.iconst 1, 1) := by decide +kernel
theorem dX10_town_27 : decode cX10_town 27 = .ok (.if_icmp .ne 8, 3) := by decide +kernel
theorem dX10_town_30 : decode cX10_town 30 = .ok (.aload_n 3, 1) := by decide +kernel
theorem dX10_town_31 : decode cX10_town 31 = .ok (.getfield 101, 3) := by decide +kernel
theorem dX10_town_34 : decode cX10_town 34 = .ok (.ireturn, 1) := by decide +kernel
theorem dX10_town_35 : decode cX10_town 35 = .ok (.iload_n 2, 1) := by decide +kernel
theorem dX10_town_36 : decode cX10_town 36 = .ok (.bipush 10, 2) := by decide +kernel
theorem dX10_town_38 : decode cX10_town 38 = .ok (.if_icmp .ge 6, 3) := by decide +kernel
theorem dX10_town_41 : decode cX10_town 41 = .ok (.bipush (-2), 2) := by decide +kernel
theorem dX10_town_43 : decode cX10_town 43 = .ok (.ireturn, 1) := by decide +kernel
theorem dX10_town_44 : decode cX10_town 44 = .ok (.iload_n 2, 1) := by decide +kernel
theorem dX10_town_45 : decode cX10_town 45 = .ok (.bipush 10, 2) := by decide +kernel
theorem dX10_town_47 : decode cX10_town 47 = .ok (.irem, 1) := by decide +kernel
theorem dX10_town_48 : decode cX10_town 48 = .ok (.istore 4, 2) := by decide +kernel
theorem dX10_town_50 : decode cX10_town 50 = .ok (.iload_n 2, 1) := by decide +kernel
theorem dX10_town_51 : decode cX10_town 51 = .ok (.bipush 10, 2) := by decide +kernel
theorem dX10_town_53 : decode cX10_town 53 = .ok (.idiv, 1) := by decide +kernel
theorem dX10_town_54 : decode cX10_town 54 = .ok (.tableswitch 168 1 6 #[38, 60, 82, 103, 124, 146], 38) := by decide +kernel
theorem dX10_town_92 : decode cX10_town 92 = .ok (.aload_n 3, 1) := by decide +kernel
theorem dX10_town_93 : decode cX10_town 93 = .ok (.iload 4, 2) := by decide +kernel
theorem dX10_town_95 : decode cX10_town 95 = .ok (.invokevirtual 104, 3) := by decide +kernel
theorem dX10_town_98 : decode cX10_town 98 = .ok (.ifCond .eq 13, 3) := by decide +kernel
theorem dX10_town_101 : decode cX10_town 101 = .ok (.aload_n 3, 1) := by decide +kernel
theorem dX10_town_102 : decode cX10_town 102 = .ok (.getfield 108, 3) := by decide +kernel
theorem dX10_town_105 : decode cX10_town 105 = .ok (.iload 4, 2) := by decide +kernel
theorem dX10_town_107 : decode cX10_town 107 = .ok (.iaload, 1) := by decide +kernel
theorem dX10_town_108 : decode cX10_town 108 = .ok (.goto 5, 3) := by decide +kernel
theorem dX10_town_111 : decode cX10_town 111 = .ok (.bipush (-2), 2) := by decide +kernel
theorem dX10_town_113 : decode cX10_town 113 = .ok (.ireturn, 1) := by decide +kernel
theorem dX10_town_114 : decode cX10_town 114 = .ok (.aload_n 3, 1) := by decide +kernel
theorem dX10_town_115 : decode cX10_town 115 = .ok (.iload 4, 2) := by decide +kernel
theorem dX10_town_117 : decode cX10_town 117 = .ok (.invokevirtual 104, 3) := by decide +kernel
theorem dX10_town_120 : decode cX10_town 120 = .ok (.ifCond .eq 13, 3) := by decide +kernel
theorem dX10_town_123 : decode cX10_town 123 = .ok (.aload_n 3, 1) := by decide +kernel
theorem dX10_town_124 : decode cX10_town 124 = .ok (.getfield 112, 3) := by decide +kernel
theorem dX10_town_127 : decode cX10_town 127 = .ok (.iload 4, 2) := by decide +kernel
theorem dX10_town_129 : decode cX10_town 129 = .ok (.iaload, 1) := by decide +kernel
theorem dX10_town_130 : decode cX10_town 130 = .ok (.goto 5, 3) := by decide +kernel
theorem dX10_town_133 : decode cX10_town 133 = .ok (.bipush (-2), 2) := by decide +kernel
theorem dX10_town_135 : decode cX10_town 135 = .ok (.ireturn, 1) := by decide +kernel
theorem dX10_town_136 : decode cX10_town 136 = .ok (.iload 4, 2) := by decide +kernel
theorem dX10_town_138 : decode cX10_town 138 = .ok (.invokestatic 115, 3) := by decide +kernel
theorem dX10_town_141 : decode cX10_town 141 = .ok (.ifCond .eq 13, 3) := by decide +kernel
theorem dX10_town_144 : decode cX10_town 144 = .ok (.aload_n 3, 1) := by decide +kernel
theorem dX10_town_145 : decode cX10_town 145 = .ok (.getfield 118, 3) := by decide +kernel
theorem dX10_town_148 : decode cX10_town 148 = .ok (.iload 4, 2) := by decide +kernel
theorem dX10_town_150 : decode cX10_town 150 = .ok (.iaload, 1) := by decide +kernel
theorem dX10_town_151 : decode cX10_town 151 = .ok (.goto 5, 3) := by decide +kernel
theorem dX10_town_154 : decode cX10_town 154 = .ok (.bipush (-2), 2) := by decide +kernel
theorem dX10_town_156 : decode cX10_town 156 = .ok (.ireturn, 1) := by decide +kernel
theorem dX10_town_157 : decode cX10_town 157 = .ok (.iload 4, 2) := by decide +kernel
theorem dX10_town_159 : decode cX10_town 159 = .ok (.invokestatic 115, 3) := by decide +kernel
theorem dX10_town_162 : decode cX10_town 162 = .ok (.ifCond .eq 13, 3) := by decide +kernel
theorem dX10_town_165 : decode cX10_town 165 = .ok (.aload_n 3, 1) := by decide +kernel
theorem dX10_town_166 : decode cX10_town 166 = .ok (.getfield 121, 3) := by decide +kernel
theorem dX10_town_169 : decode cX10_town 169 = .ok (.iload 4, 2) := by decide +kernel
theorem dX10_town_171 : decode cX10_town 171 = .ok (.iaload, 1) := by decide +kernel
theorem dX10_town_172 : decode cX10_town 172 = .ok (.goto 5, 3) := by decide +kernel
theorem dX10_town_175 : decode cX10_town 175 = .ok (.bipush (-2), 2) := by decide +kernel
theorem dX10_town_177 : decode cX10_town 177 = .ok (.ireturn, 1) := by decide +kernel
theorem dX10_town_178 : decode cX10_town 178 = .ok (.aload_n 3, 1) := by decide +kernel
theorem dX10_town_179 : decode cX10_town 179 = .ok (.iload 4, 2) := by decide +kernel
theorem dX10_town_181 : decode cX10_town 181 = .ok (.invokevirtual 124, 3) := by decide +kernel
theorem dX10_town_184 : decode cX10_town 184 = .ok (.ifCond .eq 13, 3) := by decide +kernel
theorem dX10_town_187 : decode cX10_town 187 = .ok (.aload_n 3, 1) := by decide +kernel
theorem dX10_town_188 : decode cX10_town 188 = .ok (.getfield 127, 3) := by decide +kernel
theorem dX10_town_191 : decode cX10_town 191 = .ok (.iload 4, 2) := by decide +kernel
theorem dX10_town_193 : decode cX10_town 193 = .ok (.iaload, 1) := by decide +kernel
theorem dX10_town_194 : decode cX10_town 194 = .ok (.goto 5, 3) := by decide +kernel
theorem dX10_town_197 : decode cX10_town 197 = .ok (.bipush (-2), 2) := by decide +kernel
theorem dX10_town_199 : decode cX10_town 199 = .ok (.ireturn, 1) := by decide +kernel
theorem dX10_town_200 : decode cX10_town 200 = .ok (.aload_n 3, 1) := by decide +kernel
theorem dX10_town_201 : decode cX10_town 201 = .ok (.iload 4, 2) := by decide +kernel
theorem dX10_town_203 : decode cX10_town 203 = .ok (.invokevirtual 124, 3) := by decide +kernel
theorem dX10_town_206 : decode cX10_town 206 = .ok (.ifCond .eq 13, 3) := by decide +kernel
theorem dX10_town_209 : decode cX10_town 209 = .ok (.aload_n 3, 1) := by decide +kernel
theorem dX10_town_210 : decode cX10_town 210 = .ok (.getfield 130, 3) := by decide +kernel
theorem dX10_town_213 : decode cX10_town 213 = .ok (.iload 4, 2) := by decide +kernel
theorem dX10_town_215 : decode cX10_town 215 = .ok (.iaload, 1) := by decide +kernel
theorem dX10_town_216 : decode cX10_town 216 = .ok (.goto 5, 3) := by decide +kernel
theorem dX10_town_219 : decode cX10_town 219 = .ok (.bipush (-2), 2) := by decide +kernel
theorem dX10_town_221 : decode cX10_town 221 = .ok (.ireturn, 1) := by decide +kernel
theorem dX10_town_222 : decode cX10_town 222 = .ok (.bipush (-2), 2) := by decide +kernel
theorem dX10_town_224 : decode cX10_town 224 = .ok (.ireturn, 1) := by decide +kernel
abbrev mX10_town : MI := (yX10_town, cX10_town, 5, (some .int), noE)
theorem okX10_town : cok mX10_town 2 := ⟨tw679, tw1, by decide, by decide, by decide, by decide +kernel⟩
def fX10_town (M : Mem) (a0 a1 a2 : Int) : Option Int :=
  if M.2.1 a0 = 9 then if M.2.1 (M.1 a0 0) = 6 then (fX6_townAt M (M.1 a0 0) a1).bind fun r2 => if r2 = -1 then (some (-2)) else (if a2 = 0 then (if M.2.1 r2 = 7 then some (M.1 r2 0) else none) else (if a2 = 1 then (if M.2.1 r2 = 7 then some (M.1 r2 1) else none) else (if a2 < 10 then (some (-2)) else (if w32 (a2.tdiv 10) = 1 then (if M.2.1 r2 = 7 then (fX7_isHouse M r2 (a2.tmod 10)).bind fun r12 => if r12 = 0 then (some (-2)) else (if M.2.1 (M.1 r2 4) = 12 ∧ (0 : Int) ≤ (a2.tmod 10) ∧ (a2.tmod 10) < M.2.2.1 (M.1 r2 4) then some (M.1 (M.1 r2 4) (a2.tmod 10)) else none) else none) else if w32 (a2.tdiv 10) = 2 then (if M.2.1 r2 = 7 then (fX7_isHouse M r2 (a2.tmod 10)).bind fun r18 => if r18 = 0 then (some (-2)) else (if M.2.1 (M.1 r2 5) = 12 ∧ (0 : Int) ≤ (a2.tmod 10) ∧ (a2.tmod 10) < M.2.2.1 (M.1 r2 5) then some (M.1 (M.1 r2 5) (a2.tmod 10)) else none) else none) else if w32 (a2.tdiv 10) = 3 then ((fX10_isGood M (a2.tmod 10)).bind fun r24 => if r24 = 0 then (some (-2)) else (if M.2.1 r2 = 7 then if M.2.1 (M.1 r2 6) = 12 ∧ (0 : Int) ≤ (a2.tmod 10) ∧ (a2.tmod 10) < M.2.2.1 (M.1 r2 6) then some (M.1 (M.1 r2 6) (a2.tmod 10)) else none else none)) else if w32 (a2.tdiv 10) = 4 then ((fX10_isGood M (a2.tmod 10)).bind fun r30 => if r30 = 0 then (some (-2)) else (if M.2.1 r2 = 7 then if M.2.1 (M.1 r2 7) = 12 ∧ (0 : Int) ≤ (a2.tmod 10) ∧ (a2.tmod 10) < M.2.2.1 (M.1 r2 7) then some (M.1 (M.1 r2 7) (a2.tmod 10)) else none else none)) else if w32 (a2.tdiv 10) = 5 then (if M.2.1 r2 = 7 then (fX7_isThief M r2 (a2.tmod 10)).bind fun r36 => if r36 = 0 then (some (-2)) else (if M.2.1 (M.1 r2 8) = 12 ∧ (0 : Int) ≤ (a2.tmod 10) ∧ (a2.tmod 10) < M.2.2.1 (M.1 r2 8) then some (M.1 (M.1 r2 8) (a2.tmod 10)) else none) else none) else if w32 (a2.tdiv 10) = 6 then (if M.2.1 r2 = 7 then (fX7_isThief M r2 (a2.tmod 10)).bind fun r42 => if r42 = 0 then (some (-2)) else (if M.2.1 (M.1 r2 9) = 12 ∧ (0 : Int) ≤ (a2.tmod 10) ∧ (a2.tmod 10) < M.2.2.1 (M.1 r2 9) then some (M.1 (M.1 r2 9) (a2.tmod 10)) else none) else none) else some (-2))))) else none else none
set_option maxRecDepth 100000 in
set_option maxHeartbeats 4000000 in
theorem kX10_town (d : Nat) (hd : 2 ≤ d) (M : Mem) (a0 a1 a2 : Int) : Ct mX10_town d 0 0 [pA a0, pI a1, pI a2] M (dI M) (fX10_town M a0 a1 a2) := by
  obtain ⟨d, rfl⟩ : ∃ k, d = k + 1 := ⟨d - 1, by omega⟩
  refine Ct.of 2 (fun _ _ _ => trivial) (by decide +kernel) rfl ?_
  unfold fX10_town
  refine v_aload_n dX10_town_0 rfl ?_
  refine v_if (fun h1 => ?_)
  refine v_get (v := pA (M.1 a0 0)) 9 0 rfl inX10 (by decide) tw421 dX10_town_1 h1 rfl ?_
  refine v_iload_n dX10_town_4 rfl ?_
  refine v_if (fun h4 => ?_)
  refine v_cV (mi := mX10_town) (c0 := 0) (c1 := 0) (As := [pI a1]) (st := []) (kX6_townAt d (by omega) _ _ _) rfl h4 rfl okX6_townAt (Or.inl tw680) tw681 tw682 rfl (Nat.le_of_ble_eq_true rfl) dX10_town_5 (fun r2 => [pA r2]) (fun r2 => M) (fun _ => rfl) (fun _ => rfl) (fun r2 h3 => ?_) rfl
  refine v_astore_n (ls' := [some (pA a0), some (pI a1), some (pI a2), some (pA r2), none]) dX10_town_8 (by decide) rfl ?_
  refine v_aload_n dX10_town_9 rfl ?_
  refine v_ifnonnull (tgt := 16) dX10_town_10 (by decide) (fun c5 => ?_) (fun c5 => ?_)
  · refine v_bipush dX10_town_13 (by decide) ?_
    exact v_ireturn dX10_town_15 rfl rfl
  · refine v_iload_n dX10_town_16 rfl ?_
    refine v_if_ne (tgt := 25) dX10_town_17 (by decide) (fun c6 => ?_) (fun c6 => ?_)
    · refine v_aload_n dX10_town_20 rfl ?_
      refine v_if (fun h7 => ?_)
      refine v_get (v := pI (M.1 r2 0)) 7 0 rfl inX7 (by decide) tw58 dX10_town_21 h7 rfl ?_
      exact v_ireturn dX10_town_24 rfl rfl
    · refine v_iload_n dX10_town_25 rfl ?_
      refine v_iconst dX10_town_26 (by decide) ?_
      refine v_icmp_ne (tgt := 35) dX10_town_27 (by decide) (fun c8 => ?_) (fun c8 => ?_)
      · refine v_aload_n dX10_town_30 rfl ?_
        refine v_if (fun h9 => ?_)
        refine v_get (v := pI (M.1 r2 1)) 7 1 rfl inX7 (by decide) tw64 dX10_town_31 h9 rfl ?_
        exact v_ireturn dX10_town_34 rfl rfl
      · refine v_iload_n dX10_town_35 rfl ?_
        refine v_bipush dX10_town_36 (by decide) ?_
        refine v_icmp_ge (tgt := 44) dX10_town_38 (by decide) (fun c10 => ?_) (fun c10 => ?_)
        · refine v_bipush dX10_town_41 (by decide) ?_
          exact v_ireturn dX10_town_43 rfl rfl
        · refine v_iload_n dX10_town_44 rfl ?_
          refine v_bipush dX10_town_45 (by decide) ?_
          refine v_irem (by decide) dX10_town_47 ?_
          refine v_istore (ls' := [some (pA a0), some (pI a1), some (pI a2), some (pA r2), some (pI (a2.tmod 10))]) dX10_town_48 (by decide) rfl ?_
          refine v_iload_n dX10_town_50 rfl ?_
          refine v_bipush dX10_town_51 (by decide) ?_
          refine v_idiv (by decide) dX10_town_53 ?_
          refine v_ite (fun h11 => ?_) (fun h11 => ?_)
          · refine v_tabIn (off := 38) (tgt := 92) dX10_town_54 h11 (by decide) ?_
            refine v_aload_n dX10_town_92 rfl ?_
            refine v_iload dX10_town_93 rfl ?_
            refine v_if (fun h14 => ?_)
            refine v_cV (mi := mX10_town) (c0 := 0) (c1 := 0) (As := [pI (a2.tmod 10)]) (st := []) (kX7_isHouse d (by omega) _ _ _) rfl h14 rfl okX7_isHouse (Or.inl tw684) tw685 tw686 rfl (Nat.le_of_ble_eq_true rfl) dX10_town_95 (fun r12 => [pI r12]) (fun r12 => M) (fun _ => rfl) (fun _ => rfl) (fun r12 h13 => ?_) rfl
            refine v_if_eq (tgt := 111) dX10_town_98 (by decide) (fun c15 => ?_) (fun c15 => ?_)
            · refine v_bipush dX10_town_111 (by decide) ?_
              exact v_ireturn dX10_town_113 rfl rfl
            · refine v_aload_n dX10_town_101 rfl ?_
              refine v_get (v := pA (M.1 r2 4)) 7 4 rfl inX7 (by decide) tw78 dX10_town_102 h14 rfl ?_
              refine v_iload dX10_town_105 rfl ?_
              refine v_if (fun h16 => ?_)
              refine v_iaload h16 dX10_town_107 ?_
              refine v_goto (tgt := 113) dX10_town_108 (by decide) ?_
              exact v_ireturn dX10_town_113 rfl rfl
          · refine v_ite (fun h17 => ?_) (fun h17 => ?_)
            · refine v_tabIn (off := 60) (tgt := 114) dX10_town_54 h17 (by decide) ?_
              refine v_aload_n dX10_town_114 rfl ?_
              refine v_iload dX10_town_115 rfl ?_
              refine v_if (fun h20 => ?_)
              refine v_cV (mi := mX10_town) (c0 := 0) (c1 := 0) (As := [pI (a2.tmod 10)]) (st := []) (kX7_isHouse d (by omega) _ _ _) rfl h20 rfl okX7_isHouse (Or.inl tw684) tw685 tw686 rfl (Nat.le_of_ble_eq_true rfl) dX10_town_117 (fun r18 => [pI r18]) (fun r18 => M) (fun _ => rfl) (fun _ => rfl) (fun r18 h19 => ?_) rfl
              refine v_if_eq (tgt := 133) dX10_town_120 (by decide) (fun c21 => ?_) (fun c21 => ?_)
              · refine v_bipush dX10_town_133 (by decide) ?_
                exact v_ireturn dX10_town_135 rfl rfl
              · refine v_aload_n dX10_town_123 rfl ?_
                refine v_get (v := pA (M.1 r2 5)) 7 5 rfl inX7 (by decide) tw82 dX10_town_124 h20 rfl ?_
                refine v_iload dX10_town_127 rfl ?_
                refine v_if (fun h22 => ?_)
                refine v_iaload h22 dX10_town_129 ?_
                refine v_goto (tgt := 135) dX10_town_130 (by decide) ?_
                exact v_ireturn dX10_town_135 rfl rfl
            · refine v_ite (fun h23 => ?_) (fun h23 => ?_)
              · refine v_tabIn (off := 82) (tgt := 136) dX10_town_54 h23 (by decide) ?_
                refine v_iload dX10_town_136 rfl ?_
                refine v_cS (mi := mX10_town) (c0 := 0) (c1 := 0) (As := [pI (a2.tmod 10)]) (st := []) (kX10_isGood d (by omega) _ _) okX10_isGood (Or.inl tw688) tw689 rfl (Nat.le_of_ble_eq_true rfl) dX10_town_138 (fun r24 => [pI r24]) (fun r24 => M) (fun _ => rfl) (fun _ => rfl) (fun r24 h25 => ?_) rfl
                refine v_if_eq (tgt := 154) dX10_town_141 (by decide) (fun c26 => ?_) (fun c26 => ?_)
                · refine v_bipush dX10_town_154 (by decide) ?_
                  exact v_ireturn dX10_town_156 rfl rfl
                · refine v_aload_n dX10_town_144 rfl ?_
                  refine v_if (fun h27 => ?_)
                  refine v_get (v := pA (M.1 r2 6)) 7 6 rfl inX7 (by decide) tw86 dX10_town_145 h27 rfl ?_
                  refine v_iload dX10_town_148 rfl ?_
                  refine v_if (fun h28 => ?_)
                  refine v_iaload h28 dX10_town_150 ?_
                  refine v_goto (tgt := 156) dX10_town_151 (by decide) ?_
                  exact v_ireturn dX10_town_156 rfl rfl
              · refine v_ite (fun h29 => ?_) (fun h29 => ?_)
                · refine v_tabIn (off := 103) (tgt := 157) dX10_town_54 h29 (by decide) ?_
                  refine v_iload dX10_town_157 rfl ?_
                  refine v_cS (mi := mX10_town) (c0 := 0) (c1 := 0) (As := [pI (a2.tmod 10)]) (st := []) (kX10_isGood d (by omega) _ _) okX10_isGood (Or.inl tw688) tw689 rfl (Nat.le_of_ble_eq_true rfl) dX10_town_159 (fun r30 => [pI r30]) (fun r30 => M) (fun _ => rfl) (fun _ => rfl) (fun r30 h31 => ?_) rfl
                  refine v_if_eq (tgt := 175) dX10_town_162 (by decide) (fun c32 => ?_) (fun c32 => ?_)
                  · refine v_bipush dX10_town_175 (by decide) ?_
                    exact v_ireturn dX10_town_177 rfl rfl
                  · refine v_aload_n dX10_town_165 rfl ?_
                    refine v_if (fun h33 => ?_)
                    refine v_get (v := pA (M.1 r2 7)) 7 7 rfl inX7 (by decide) tw91 dX10_town_166 h33 rfl ?_
                    refine v_iload dX10_town_169 rfl ?_
                    refine v_if (fun h34 => ?_)
                    refine v_iaload h34 dX10_town_171 ?_
                    refine v_goto (tgt := 177) dX10_town_172 (by decide) ?_
                    exact v_ireturn dX10_town_177 rfl rfl
                · refine v_ite (fun h35 => ?_) (fun h35 => ?_)
                  · refine v_tabIn (off := 124) (tgt := 178) dX10_town_54 h35 (by decide) ?_
                    refine v_aload_n dX10_town_178 rfl ?_
                    refine v_iload dX10_town_179 rfl ?_
                    refine v_if (fun h38 => ?_)
                    refine v_cV (mi := mX10_town) (c0 := 0) (c1 := 0) (As := [pI (a2.tmod 10)]) (st := []) (kX7_isThief d (by omega) _ _ _) rfl h38 rfl okX7_isThief (Or.inl tw691) tw692 tw693 rfl (Nat.le_of_ble_eq_true rfl) dX10_town_181 (fun r36 => [pI r36]) (fun r36 => M) (fun _ => rfl) (fun _ => rfl) (fun r36 h37 => ?_) rfl
                    refine v_if_eq (tgt := 197) dX10_town_184 (by decide) (fun c39 => ?_) (fun c39 => ?_)
                    · refine v_bipush dX10_town_197 (by decide) ?_
                      exact v_ireturn dX10_town_199 rfl rfl
                    · refine v_aload_n dX10_town_187 rfl ?_
                      refine v_get (v := pA (M.1 r2 8)) 7 8 rfl inX7 (by decide) tw94 dX10_town_188 h38 rfl ?_
                      refine v_iload dX10_town_191 rfl ?_
                      refine v_if (fun h40 => ?_)
                      refine v_iaload h40 dX10_town_193 ?_
                      refine v_goto (tgt := 199) dX10_town_194 (by decide) ?_
                      exact v_ireturn dX10_town_199 rfl rfl
                  · refine v_ite (fun h41 => ?_) (fun h41 => ?_)
                    · refine v_tabIn (off := 146) (tgt := 200) dX10_town_54 h41 (by decide) ?_
                      refine v_aload_n dX10_town_200 rfl ?_
                      refine v_iload dX10_town_201 rfl ?_
                      refine v_if (fun h44 => ?_)
                      refine v_cV (mi := mX10_town) (c0 := 0) (c1 := 0) (As := [pI (a2.tmod 10)]) (st := []) (kX7_isThief d (by omega) _ _ _) rfl h44 rfl okX7_isThief (Or.inl tw691) tw692 tw693 rfl (Nat.le_of_ble_eq_true rfl) dX10_town_203 (fun r42 => [pI r42]) (fun r42 => M) (fun _ => rfl) (fun _ => rfl) (fun r42 h43 => ?_) rfl
                      refine v_if_eq (tgt := 219) dX10_town_206 (by decide) (fun c45 => ?_) (fun c45 => ?_)
                      · refine v_bipush dX10_town_219 (by decide) ?_
                        exact v_ireturn dX10_town_221 rfl rfl
                      · refine v_aload_n dX10_town_209 rfl ?_
                        refine v_get (v := pA (M.1 r2 9)) 7 9 rfl inX7 (by decide) tw97 dX10_town_210 h44 rfl ?_
                        refine v_iload dX10_town_213 rfl ?_
                        refine v_if (fun h46 => ?_)
                        refine v_iaload h46 dX10_town_215 ?_
                        refine v_goto (tgt := 221) dX10_town_216 (by decide) ?_
                        exact v_ireturn dX10_town_221 rfl rfl
                    · refine v_tabOut (tgt := 222) dX10_town_54 (by omega) (by decide) ?_
                      refine v_bipush dX10_town_222 (by decide) ?_
                      exact v_ireturn dX10_town_224 rfl rfl
theorem dX10_house_0 : decode cX10_house 0 = .ok (.aload_n 0, 1) := by decide +kernel
theorem dX10_house_1 : decode cX10_house 1 = .ok (.getfield 12, 3) := by decide +kernel
theorem dX10_house_4 : decode cX10_house 4 = .ok (.iload_n 1, 1) := by decide +kernel
theorem dX10_house_5 : decode cX10_house 5 = .ok (.invokevirtual 92, 3) := by decide +kernel
theorem dX10_house_8 : decode cX10_house 8 = .ok (.astore 5, 2) := by decide +kernel
theorem dX10_house_10 : decode cX10_house 10 = .ok (.aload 5, 2) := by decide +kernel
theorem dX10_house_12 : decode cX10_house 12 = .ok (.ifnull 19, 3) := by decide +kernel
theorem dX10_house_15 : decode cX10_house 15 = .ok (.aload 5, 2) := by decide +kernel
theorem dX10_house_17 : decode cX10_house 17 = .ok (.iload_n 2, 1) := by decide +kernel
theorem dX10_house_18 : decode cX10_house 18 = .ok (.invokevirtual 104, 3) := by decide +kernel
theorem dX10_house_21 : decode cX10_house 21 = .ok (.ifCond .eq 10, 3) := by decide +kernel
theorem dX10_house_24 : decode cX10_house 24 = .ok (.iload_n 3, 1) := by decide +kernel
theorem dX10_house_25 : decode cX10_house 25 = .ok (.invokestatic 115, 3) := by decide +kernel
theorem dX10_house_28 : decode cX10_house 28 = .ok (.ifCond .ne 5, 3) := by decide +kernel
theorem dX10_house_31 : decode cX10_house 31 = .ok (.iconst (-1), 1) := by decide +kernel
theorem dX10_house_32 : decode cX10_house 32 = .ok (.ireturn, 1) := by decide +kernel
theorem dX10_house_33 : decode cX10_house 33 = .ok (.iload 4, 2) := by decide +kernel
theorem dX10_house_35 : decode cX10_house 35 = .ok (.tableswitch 69 0 3 #[29, 41, 53, 61], 29) := by decide +kernel
theorem dX10_house_64 : decode cX10_house 64 = .ok (.aload 5, 2) := by decide +kernel
theorem dX10_house_66 : decode cX10_house 66 = .ok (.getfield 133, 3) := by decide +kernel
theorem dX10_house_69 : decode cX10_house 69 = .ok (.iload_n 2, 1) := by decide +kernel
theorem dX10_house_70 : decode cX10_house 70 = .ok (.iload_n 3, 1) := by decide +kernel
theorem dX10_house_71 : decode cX10_house 71 = .ok (.invokestatic 136, 3) := by decide +kernel
theorem dX10_house_74 : decode cX10_house 74 = .ok (.iaload, 1) := by decide +kernel
theorem dX10_house_75 : decode cX10_house 75 = .ok (.ireturn, 1) := by decide +kernel
theorem dX10_house_76 : decode cX10_house 76 = .ok (.aload 5, 2) := by decide +kernel
theorem dX10_house_78 : decode cX10_house 78 = .ok (.getfield 139, 3) := by decide +kernel
theorem dX10_house_81 : decode cX10_house 81 = .ok (.iload_n 2, 1) := by decide +kernel
theorem dX10_house_82 : decode cX10_house 82 = .ok (.iload_n 3, 1) := by decide +kernel
theorem dX10_house_83 : decode cX10_house 83 = .ok (.invokestatic 136, 3) := by decide +kernel
theorem dX10_house_86 : decode cX10_house 86 = .ok (.iaload, 1) := by decide +kernel
theorem dX10_house_87 : decode cX10_house 87 = .ok (.ireturn, 1) := by decide +kernel
theorem dX10_house_88 : decode cX10_house 88 = .ok (.aload 5, 2) := by decide +kernel
theorem dX10_house_90 : decode cX10_house 90 = .ok (.iload_n 2, 1) := by decide +kernel
theorem dX10_house_91 : decode cX10_house 91 = .ok (.iload_n 3, 1) := by decide +kernel
theorem dX10_house_92 : decode cX10_house 92 = .ok (.invokevirtual 142, 3) := by decide +kernel
theorem dX10_house_95 : decode cX10_house 95 = .ok (.ireturn, 1) := by decide +kernel
theorem dX10_house_96 : decode cX10_house 96 = .ok (.aload 5, 2) := by decide +kernel
theorem dX10_house_98 : decode cX10_house 98 = .ok (.iload_n 2, 1) := by decide +kernel
theorem dX10_house_99 : decode cX10_house 99 = .ok (.iload_n 3, 1) := by decide +kernel
theorem dX10_house_100 : decode cX10_house 100 = .ok (.invokevirtual 145, 3) := by decide +kernel
theorem dX10_house_103 : decode cX10_house 103 = .ok (.ireturn, 1) := by decide +kernel
theorem dX10_house_104 : decode cX10_house 104 = .ok (.iconst (-1), 1) := by decide +kernel
theorem dX10_house_105 : decode cX10_house 105 = .ok (.ireturn, 1) := by decide +kernel
abbrev mX10_house : MI := (yX10_house, cX10_house, 6, (some .int), noE)
theorem okX10_house : cok mX10_house 4 := ⟨tw698, tw1, by decide, by decide, by decide, by decide +kernel⟩
def fX10_house (M : Mem) (a0 a1 a2 a3 a4 : Int) : Option Int :=
  if M.2.1 a0 = 9 then if M.2.1 (M.1 a0 0) = 6 then (fX6_townAt M (M.1 a0 0) a1).bind fun r2 => if r2 = -1 then (some (-1)) else (if M.2.1 r2 = 7 then (fX7_isHouse M r2 a2).bind fun r6 => if r6 = 0 then (some (-1)) else ((fX10_isGood M a3).bind fun r10 => if r10 = 0 then (some (-1)) else (if a4 = 0 then ((fX10_cell M a2 a3).bind fun r14 => if M.2.1 (M.1 r2 2) = 12 ∧ (0 : Int) ≤ r14 ∧ r14 < M.2.2.1 (M.1 r2 2) then some (M.1 (M.1 r2 2) r14) else none) else if a4 = 1 then ((fX10_cell M a2 a3).bind fun r18 => if M.2.1 (M.1 r2 3) = 12 ∧ (0 : Int) ≤ r18 ∧ r18 < M.2.2.1 (M.1 r2 3) then some (M.1 (M.1 r2 3) r18) else none) else if a4 = 2 then ((fX7_spareOf M r2 a2 a3).bind fun r22 => some r22) else if a4 = 3 then ((fX7_lackOf M r2 a2 a3).bind fun r25 => some r25) else some (-1))) else none) else none else none
set_option maxRecDepth 100000 in
set_option maxHeartbeats 4000000 in
theorem kX10_house (d : Nat) (hd : 2 ≤ d) (M : Mem) (a0 a1 a2 a3 a4 : Int) : Ct mX10_house d 0 0 [pA a0, pI a1, pI a2, pI a3, pI a4] M (dI M) (fX10_house M a0 a1 a2 a3 a4) := by
  obtain ⟨d, rfl⟩ : ∃ k, d = k + 1 := ⟨d - 1, by omega⟩
  refine Ct.of 1 (fun _ _ _ => trivial) (by decide +kernel) rfl ?_
  unfold fX10_house
  refine v_aload_n dX10_house_0 rfl ?_
  refine v_if (fun h1 => ?_)
  refine v_get (v := pA (M.1 a0 0)) 9 0 rfl inX10 (by decide) tw421 dX10_house_1 h1 rfl ?_
  refine v_iload_n dX10_house_4 rfl ?_
  refine v_if (fun h4 => ?_)
  refine v_cV (mi := mX10_house) (c0 := 0) (c1 := 0) (As := [pI a1]) (st := []) (kX6_townAt d (by omega) _ _ _) rfl h4 rfl okX6_townAt (Or.inl tw680) tw681 tw682 rfl (Nat.le_of_ble_eq_true rfl) dX10_house_5 (fun r2 => [pA r2]) (fun r2 => M) (fun _ => rfl) (fun _ => rfl) (fun r2 h3 => ?_) rfl
  refine v_astore (ls' := [some (pA a0), some (pI a1), some (pI a2), some (pI a3), some (pI a4), some (pA r2)]) dX10_house_8 (by decide) rfl ?_
  refine v_aload dX10_house_10 rfl ?_
  refine v_ifnull (tgt := 31) dX10_house_12 (by decide) (fun c5 => ?_) (fun c5 => ?_)
  · refine v_iconst dX10_house_31 (by decide) ?_
    exact v_ireturn dX10_house_32 rfl rfl
  · refine v_aload dX10_house_15 rfl ?_
    refine v_iload_n dX10_house_17 rfl ?_
    refine v_if (fun h8 => ?_)
    refine v_cV (mi := mX10_house) (c0 := 0) (c1 := 0) (As := [pI a2]) (st := []) (kX7_isHouse d (by omega) _ _ _) rfl h8 rfl okX7_isHouse (Or.inl tw684) tw685 tw686 rfl (Nat.le_of_ble_eq_true rfl) dX10_house_18 (fun r6 => [pI r6]) (fun r6 => M) (fun _ => rfl) (fun _ => rfl) (fun r6 h7 => ?_) rfl
    refine v_if_eq (tgt := 31) dX10_house_21 (by decide) (fun c9 => ?_) (fun c9 => ?_)
    · refine v_iconst dX10_house_31 (by decide) ?_
      exact v_ireturn dX10_house_32 rfl rfl
    · refine v_iload_n dX10_house_24 rfl ?_
      refine v_cS (mi := mX10_house) (c0 := 0) (c1 := 0) (As := [pI a3]) (st := []) (kX10_isGood d (by omega) _ _) okX10_isGood (Or.inl tw688) tw689 rfl (Nat.le_of_ble_eq_true rfl) dX10_house_25 (fun r10 => [pI r10]) (fun r10 => M) (fun _ => rfl) (fun _ => rfl) (fun r10 h11 => ?_) rfl
      refine v_if_ne (tgt := 33) dX10_house_28 (by decide) (fun c12 => ?_) (fun c12 => ?_)
      · refine v_iconst dX10_house_31 (by decide) ?_
        exact v_ireturn dX10_house_32 rfl rfl
      · refine v_iload dX10_house_33 rfl ?_
        refine v_ite (fun h13 => ?_) (fun h13 => ?_)
        · refine v_tabIn (off := 29) (tgt := 64) dX10_house_35 h13 (by decide) ?_
          refine v_aload dX10_house_64 rfl ?_
          refine v_get (v := pA (M.1 r2 2)) 7 2 rfl inX7 (by decide) tw69 dX10_house_66 h8 rfl ?_
          refine v_iload_n dX10_house_69 rfl ?_
          refine v_iload_n dX10_house_70 rfl ?_
          refine v_cS (mi := mX10_house) (c0 := 0) (c1 := 0) (As := [pI a2, pI a3]) (st := [pA (M.1 r2 2)]) (kX10_cell d (by omega) _ _ _) okX10_cell (Or.inl tw699) tw621 rfl (Nat.le_of_ble_eq_true rfl) dX10_house_71 (fun r14 => [pI r14, pA (M.1 r2 2)]) (fun r14 => M) (fun _ => rfl) (fun _ => rfl) (fun r14 h15 => ?_) rfl
          refine v_if (fun h16 => ?_)
          refine v_iaload h16 dX10_house_74 ?_
          exact v_ireturn dX10_house_75 rfl rfl
        · refine v_ite (fun h17 => ?_) (fun h17 => ?_)
          · refine v_tabIn (off := 41) (tgt := 76) dX10_house_35 h17 (by decide) ?_
            refine v_aload dX10_house_76 rfl ?_
            refine v_get (v := pA (M.1 r2 3)) 7 3 rfl inX7 (by decide) tw74 dX10_house_78 h8 rfl ?_
            refine v_iload_n dX10_house_81 rfl ?_
            refine v_iload_n dX10_house_82 rfl ?_
            refine v_cS (mi := mX10_house) (c0 := 0) (c1 := 0) (As := [pI a2, pI a3]) (st := [pA (M.1 r2 3)]) (kX10_cell d (by omega) _ _ _) okX10_cell (Or.inl tw699) tw621 rfl (Nat.le_of_ble_eq_true rfl) dX10_house_83 (fun r18 => [pI r18, pA (M.1 r2 3)]) (fun r18 => M) (fun _ => rfl) (fun _ => rfl) (fun r18 h19 => ?_) rfl
            refine v_if (fun h20 => ?_)
            refine v_iaload h20 dX10_house_86 ?_
            exact v_ireturn dX10_house_87 rfl rfl
          · refine v_ite (fun h21 => ?_) (fun h21 => ?_)
            · refine v_tabIn (off := 53) (tgt := 88) dX10_house_35 h21 (by decide) ?_
              refine v_aload dX10_house_88 rfl ?_
              refine v_iload_n dX10_house_90 rfl ?_
              refine v_iload_n dX10_house_91 rfl ?_
              refine v_cV (mi := mX10_house) (c0 := 0) (c1 := 0) (As := [pI a2, pI a3]) (st := []) (kX7_spareOf d (by omega) _ _ _ _) rfl h8 rfl okX7_spareOf (Or.inl tw700) tw701 tw702 rfl (Nat.le_of_ble_eq_true rfl) dX10_house_92 (fun r22 => [pI r22]) (fun r22 => M) (fun _ => rfl) (fun _ => rfl) (fun r22 h23 => ?_) rfl
              exact v_ireturn dX10_house_95 rfl rfl
            · refine v_ite (fun h24 => ?_) (fun h24 => ?_)
              · refine v_tabIn (off := 61) (tgt := 96) dX10_house_35 h24 (by decide) ?_
                refine v_aload dX10_house_96 rfl ?_
                refine v_iload_n dX10_house_98 rfl ?_
                refine v_iload_n dX10_house_99 rfl ?_
                refine v_cV (mi := mX10_house) (c0 := 0) (c1 := 0) (As := [pI a2, pI a3]) (st := []) (kX7_lackOf d (by omega) _ _ _ _) rfl h8 rfl okX7_lackOf (Or.inl tw706) tw707 tw708 rfl (Nat.le_of_ble_eq_true rfl) dX10_house_100 (fun r25 => [pI r25]) (fun r25 => M) (fun _ => rfl) (fun _ => rfl) (fun r25 h26 => ?_) rfl
                exact v_ireturn dX10_house_103 rfl rfl
              · refine v_tabOut (tgt := 104) dX10_house_35 (by omega) (by decide) ?_
                refine v_iconst dX10_house_104 (by decide) ?_
                exact v_ireturn dX10_house_105 rfl rfl
theorem dX10_law_0 : decode cX10_law 0 = .ok (.aload_n 0, 1) := by decide +kernel
theorem dX10_law_1 : decode cX10_law 1 = .ok (.getfield 12, 3) := by decide +kernel
theorem dX10_law_4 : decode cX10_law 4 = .ok (.iload_n 1, 1) := by decide +kernel
theorem dX10_law_5 : decode cX10_law 5 = .ok (.invokevirtual 148, 3) := by decide +kernel
theorem dX10_law_8 : decode cX10_law 8 = .ok (.astore_n 3, 1) := by decide +kernel
theorem dX10_law_9 : decode cX10_law 9 = .ok (.aload_n 3, 1) := by decide +kernel
theorem dX10_law_10 : decode cX10_law 10 = .ok (.ifnonnull 5, 3) := by decide +kernel
theorem dX10_law_13 : decode cX10_law 13 = .ok (.iconst (-1), 1) := by decide +kernel
theorem dX10_law_14 : decode cX10_law 14 = .ok (.ireturn, 1) := by decide +kernel
theorem dX10_law_15 : decode cX10_law 15 = .ok (.iload_n 2, 1) := by decide +kernel
theorem dX10_law_16 : decode cX10_law 16 = .ok (.ifCond .ne 8, 3) := by decide +kernel
theorem dX10_law_19 : decode cX10_law 19 = .ok (.aload_n 3, 1) := by decide +kernel
theorem dX10_law_20 : decode cX10_law 20 = .ok (.getfield 152, 3) := by decide +kernel
theorem dX10_law_23 : decode cX10_law 23 = .ok (.ireturn, 1) := by decide +kernel
theorem dX10_law_24 : decode cX10_law 24 = .ok (.iload_n 2, 1) := by decide +kernel
theorem dX10_law_25 : decode cX10_law 25 = .ok (.iconst 1, 1) := by decide +kernel
theorem dX10_law_26 : decode cX10_law 26 = .ok (.if_icmp .ne 8, 3) := by decide +kernel
theorem dX10_law_29 : decode cX10_law 29 = .ok (.aload_n 3, 1) := by decide +kernel
theorem dX10_law_30 : decode cX10_law 30 = .ok (.getfield 157, 3) := by decide +kernel
theorem dX10_law_33 : decode cX10_law 33 = .ok (.ireturn, 1) := by decide +kernel
theorem dX10_law_34 : decode cX10_law 34 = .ok (.iload_n 2, 1) := by decide +kernel
theorem dX10_law_35 : decode cX10_law 35 = .ok (.bipush 10, 2) := by decide +kernel
theorem dX10_law_37 : decode cX10_law 37 = .ok (.if_icmp .lt 9, 3) := by decide +kernel
theorem dX10_law_40 : decode cX10_law 40 = .ok (.iload_n 2, 1) := by decide +kernel
theorem dX10_law_41 : decode cX10_law 41 = .ok (.bipush 30, 2) := by decide +kernel
theorem dX10_law_43 : decode cX10_law 43 = .ok (.if_icmp .lt 5, 3) := by decide +kernel
theorem dX10_law_46 : decode cX10_law 46 = .ok (.iconst (-1), 1) := by decide +kernel
theorem dX10_law_47 : decode cX10_law 47 = .ok (.ireturn, 1) := by decide +kernel
theorem dX10_law_48 : decode cX10_law 48 = .ok (.aload_n 3, 1) := by decide +kernel
theorem dX10_law_49 : decode cX10_law 49 = .ok (.iload_n 2, 1) := by decide +kernel
theorem dX10_law_50 : decode cX10_law 50 = .ok (.bipush 10, 2) := by decide +kernel
theorem dX10_law_52 : decode cX10_law 52 = .ok (.isub, 1) := by decide +kernel
theorem dX10_law_53 : decode cX10_law 53 = .ok (.invokevirtual 160, 3) := by decide +kernel
theorem dX10_law_56 : decode cX10_law 56 = .ok (.iconst 1, 1) := by decide +kernel
theorem dX10_law_57 : decode cX10_law 57 = .ok (.isub, 1) := by decide +kernel
theorem dX10_law_58 : decode cX10_law 58 = .ok (.ireturn, 1) := by decide +kernel
abbrev mX10_law : MI := (yX10_law, cX10_law, 4, (some .int), noE)
theorem okX10_law : cok mX10_law 2 := ⟨tw713, tw1, by decide, by decide, by decide, by decide +kernel⟩
def fX10_law (M : Mem) (a0 a1 a2 : Int) : Option Int :=
  if M.2.1 a0 = 9 then if M.2.1 (M.1 a0 0) = 6 then (fX6_lawAt M (M.1 a0 0) a1).bind fun r2 => if r2 = -1 then (some (-1)) else (if a2 = 0 then (if M.2.1 r2 = 0 then some (M.1 r2 0) else none) else (if a2 = 1 then (if M.2.1 r2 = 0 then some (M.1 r2 1) else none) else (if a2 < 10 then (some (-1)) else (if a2 < 30 then (if M.2.1 r2 = 0 then (fX0_counts M r2 (w32 (a2 - 10))).bind fun r12 => some (w32 (r12 - 1)) else none) else (some (-1)))))) else none else none
set_option maxRecDepth 100000 in
set_option maxHeartbeats 4000000 in
theorem kX10_law (d : Nat) (hd : 2 ≤ d) (M : Mem) (a0 a1 a2 : Int) : Ct mX10_law d 0 0 [pA a0, pI a1, pI a2] M (dI M) (fX10_law M a0 a1 a2) := by
  obtain ⟨d, rfl⟩ : ∃ k, d = k + 1 := ⟨d - 1, by omega⟩
  refine Ct.of 1 (fun _ _ _ => trivial) (by decide +kernel) rfl ?_
  unfold fX10_law
  refine v_aload_n dX10_law_0 rfl ?_
  refine v_if (fun h1 => ?_)
  refine v_get (v := pA (M.1 a0 0)) 9 0 rfl inX10 (by decide) tw421 dX10_law_1 h1 rfl ?_
  refine v_iload_n dX10_law_4 rfl ?_
  refine v_if (fun h4 => ?_)
  refine v_cV (mi := mX10_law) (c0 := 0) (c1 := 0) (As := [pI a1]) (st := []) (kX6_lawAt d (by omega) _ _ _) rfl h4 rfl okX6_lawAt (Or.inl tw714) tw715 tw716 rfl (Nat.le_of_ble_eq_true rfl) dX10_law_5 (fun r2 => [pA r2]) (fun r2 => M) (fun _ => rfl) (fun _ => rfl) (fun r2 h3 => ?_) rfl
  refine v_astore_n (ls' := [some (pA a0), some (pI a1), some (pI a2), some (pA r2)]) dX10_law_8 (by decide) rfl ?_
  refine v_aload_n dX10_law_9 rfl ?_
  refine v_ifnonnull (tgt := 15) dX10_law_10 (by decide) (fun c5 => ?_) (fun c5 => ?_)
  · refine v_iconst dX10_law_13 (by decide) ?_
    exact v_ireturn dX10_law_14 rfl rfl
  · refine v_iload_n dX10_law_15 rfl ?_
    refine v_if_ne (tgt := 24) dX10_law_16 (by decide) (fun c6 => ?_) (fun c6 => ?_)
    · refine v_aload_n dX10_law_19 rfl ?_
      refine v_if (fun h7 => ?_)
      refine v_get (v := pI (M.1 r2 0)) 0 0 rfl inX0 (by decide) tw128 dX10_law_20 h7 rfl ?_
      exact v_ireturn dX10_law_23 rfl rfl
    · refine v_iload_n dX10_law_24 rfl ?_
      refine v_iconst dX10_law_25 (by decide) ?_
      refine v_icmp_ne (tgt := 34) dX10_law_26 (by decide) (fun c8 => ?_) (fun c8 => ?_)
      · refine v_aload_n dX10_law_29 rfl ?_
        refine v_if (fun h9 => ?_)
        refine v_get (v := pI (M.1 r2 1)) 0 1 rfl inX0 (by decide) tw131 dX10_law_30 h9 rfl ?_
        exact v_ireturn dX10_law_33 rfl rfl
      · refine v_iload_n dX10_law_34 rfl ?_
        refine v_bipush dX10_law_35 (by decide) ?_
        refine v_icmp_lt (tgt := 46) dX10_law_37 (by decide) (fun c10 => ?_) (fun c10 => ?_)
        · refine v_iconst dX10_law_46 (by decide) ?_
          exact v_ireturn dX10_law_47 rfl rfl
        · refine v_iload_n dX10_law_40 rfl ?_
          refine v_bipush dX10_law_41 (by decide) ?_
          refine v_icmp_lt (tgt := 48) dX10_law_43 (by decide) (fun c11 => ?_) (fun c11 => ?_)
          · refine v_aload_n dX10_law_48 rfl ?_
            refine v_iload_n dX10_law_49 rfl ?_
            refine v_bipush dX10_law_50 (by decide) ?_
            refine v_isub dX10_law_52 ?_
            refine v_if (fun h14 => ?_)
            refine v_cV (mi := mX10_law) (c0 := 0) (c1 := 0) (As := [pI (w32 (a2 - 10))]) (st := []) (kX0_counts d (by omega) _ _ _) rfl h14 rfl okX0_counts (Or.inl tw718) tw719 tw720 rfl (Nat.le_of_ble_eq_true rfl) dX10_law_53 (fun r12 => [pI r12]) (fun r12 => M) (fun _ => rfl) (fun _ => rfl) (fun r12 h13 => ?_) rfl
            refine v_iconst dX10_law_56 (by decide) ?_
            refine v_isub dX10_law_57 ?_
            exact v_ireturn dX10_law_58 rfl rfl
          · refine v_iconst dX10_law_46 (by decide) ?_
            exact v_ireturn dX10_law_47 rfl rfl
theorem dX10_deed_0 : decode cX10_deed 0 = .ok (.aload_n 0, 1) := by decide +kernel
theorem dX10_deed_1 : decode cX10_deed 1 = .ok (.getfield 12, 3) := by decide +kernel
theorem dX10_deed_4 : decode cX10_deed 4 = .ok (.iload_n 1, 1) := by decide +kernel
theorem dX10_deed_5 : decode cX10_deed 5 = .ok (.invokevirtual 164, 3) := by decide +kernel
theorem dX10_deed_8 : decode cX10_deed 8 = .ok (.astore 4, 2) := by decide +kernel
theorem dX10_deed_10 : decode cX10_deed 10 = .ok (.aload 4, 2) := by decide +kernel
theorem dX10_deed_12 : decode cX10_deed 12 = .ok (.ifnonnull 6, 3) := by decide +kernel
theorem dX10_deed_15 : decode cX10_deed 15 = .ok (.bipush (-2), 2) := by decide +kernel
theorem dX10_deed_17 : decode cX10_deed 17 = .ok (.ireturn, 1) := by decide +kernel
theorem dX10_deed_18 : decode cX10_deed 18 = .ok (.iload_n 2, 1) := by decide +kernel
theorem dX10_deed_19 : decode cX10_deed 19 = .ok (.iconst (-1), 1) := by decide +kernel
theorem dX10_deed_20 : decode cX10_deed 20 = .ok (.if_icmp .ne 18, 3) := by decide +kernel
theorem dX10_deed_23 : decode cX10_deed 23 = .ok (.iload_n 3, 1) := by decide +kernel
theorem dX10_deed_24 : decode cX10_deed 24 = .ok (.ifCond .ne 11, 3) := by decide +kernel
theorem dX10_deed_27 : decode cX10_deed 27 = .ok (.aload 4, 2) := by decide +kernel
theorem dX10_deed_29 : decode cX10_deed 29 = .ok (.getfield 168, 3) := by decide +kernel
theorem dX10_deed_32 : decode cX10_deed 32 = .ok (.goto 5, 3) := by decide +kernel
theorem dX10_deed_35 : decode cX10_deed 35 = .ok (.bipush (-2), 2) := by decide +kernel
theorem dX10_deed_37 : decode cX10_deed 37 = .ok (.ireturn, 1) := by decide +kernel
theorem dX10_deed_38 : decode cX10_deed 38 = .ok (.iload_n 2, 1) := by decide +kernel
theorem dX10_deed_39 : decode cX10_deed 39 = .ok (.ifCond .lt 12, 3) := by decide +kernel
theorem dX10_deed_42 : decode cX10_deed 42 = .ok (.iload_n 2, 1) := by decide +kernel
theorem dX10_deed_43 : decode cX10_deed 43 = .ok (.aload 4, 2) := by decide +kernel
theorem dX10_deed_45 : decode cX10_deed 45 = .ok (.getfield 168, 3) := by decide +kernel
theorem dX10_deed_48 : decode cX10_deed 48 = .ok (.if_icmp .lt 6, 3) := by decide +kernel
theorem dX10_deed_51 : decode cX10_deed 51 = .ok (.bipush (-2), 2) := by decide +kernel
theorem dX10_deed_53 : decode cX10_deed 53 = .ok (.ireturn, 1) := by decide +kernel
theorem dX10_deed_54 : decode cX10_deed 54 = .ok (.iload_n 3, 1) := by decide +kernel
theorem dX10_deed_55 : decode cX10_deed 55 = .ok (.tableswitch 61 0 3 #[29, 37, 45, 53], 29) := by decide +kernel
theorem dX10_deed_84 : decode cX10_deed 84 = .ok (.aload 4, 2) := by decide +kernel
theorem dX10_deed_86 : decode cX10_deed 86 = .ok (.getfield 173, 3) := by decide +kernel
theorem dX10_deed_89 : decode cX10_deed 89 = .ok (.iload_n 2, 1) := by decide +kernel
theorem dX10_deed_90 : decode cX10_deed 90 = .ok (.iaload, 1) := by decide +kernel
theorem dX10_deed_91 : decode cX10_deed 91 = .ok (.ireturn, 1) := by decide +kernel
theorem dX10_deed_92 : decode cX10_deed 92 = .ok (.aload 4, 2) := by decide +kernel
theorem dX10_deed_94 : decode cX10_deed 94 = .ok (.getfield 176, 3) := by decide +kernel
theorem dX10_deed_97 : decode cX10_deed 97 = .ok (.iload_n 2, 1) := by decide +kernel
theorem dX10_deed_98 : decode cX10_deed 98 = .ok (.iaload, 1) := by decide +kernel
theorem dX10_deed_99 : decode cX10_deed 99 = .ok (.ireturn, 1) := by decide +kernel
theorem dX10_deed_100 : decode cX10_deed 100 = .ok (.aload 4, 2) := by decide +kernel
theorem dX10_deed_102 : decode cX10_deed 102 = .ok (.getfield 179, 3) := by decide +kernel
theorem dX10_deed_105 : decode cX10_deed 105 = .ok (.iload_n 2, 1) := by decide +kernel
theorem dX10_deed_106 : decode cX10_deed 106 = .ok (.iaload, 1) := by decide +kernel
theorem dX10_deed_107 : decode cX10_deed 107 = .ok (.ireturn, 1) := by decide +kernel
theorem dX10_deed_108 : decode cX10_deed 108 = .ok (.aload 4, 2) := by decide +kernel
theorem dX10_deed_110 : decode cX10_deed 110 = .ok (.getfield 182, 3) := by decide +kernel
theorem dX10_deed_113 : decode cX10_deed 113 = .ok (.iload_n 2, 1) := by decide +kernel
theorem dX10_deed_114 : decode cX10_deed 114 = .ok (.iaload, 1) := by decide +kernel
theorem dX10_deed_115 : decode cX10_deed 115 = .ok (.ireturn, 1) := by decide +kernel
theorem dX10_deed_116 : decode cX10_deed 116 = .ok (.bipush (-2), 2) := by decide +kernel
theorem dX10_deed_118 : decode cX10_deed 118 = .ok (.ireturn, 1) := by decide +kernel
abbrev mX10_deed : MI := (yX10_deed, cX10_deed, 5, (some .int), noE)
theorem okX10_deed : cok mX10_deed 3 := ⟨tw725, tw1, by decide, by decide, by decide, by decide +kernel⟩
def fX10_deed (M : Mem) (a0 a1 a2 a3 : Int) : Option Int :=
  if M.2.1 a0 = 9 then if M.2.1 (M.1 a0 0) = 6 then (fX6_nightsAt M (M.1 a0 0) a1).bind fun r2 => if r2 = -1 then (some (-2)) else (if a2 = (-1) then (if a3 = 0 then (if M.2.1 r2 = 1 then some (M.1 r2 0) else none) else (some (-2))) else (if a2 < 0 then (some (-2)) else (if M.2.1 r2 = 1 then if a2 < M.1 r2 0 then (if a3 = 0 then (if M.2.1 (M.1 r2 1) = 12 ∧ (0 : Int) ≤ a2 ∧ a2 < M.2.2.1 (M.1 r2 1) then some (M.1 (M.1 r2 1) a2) else none) else if a3 = 1 then (if M.2.1 (M.1 r2 2) = 12 ∧ (0 : Int) ≤ a2 ∧ a2 < M.2.2.1 (M.1 r2 2) then some (M.1 (M.1 r2 2) a2) else none) else if a3 = 2 then (if M.2.1 (M.1 r2 3) = 12 ∧ (0 : Int) ≤ a2 ∧ a2 < M.2.2.1 (M.1 r2 3) then some (M.1 (M.1 r2 3) a2) else none) else if a3 = 3 then (if M.2.1 (M.1 r2 4) = 12 ∧ (0 : Int) ≤ a2 ∧ a2 < M.2.2.1 (M.1 r2 4) then some (M.1 (M.1 r2 4) a2) else none) else some (-2)) else (some (-2)) else none))) else none else none
set_option maxRecDepth 100000 in
set_option maxHeartbeats 4000000 in
theorem kX10_deed (d : Nat) (hd : 2 ≤ d) (M : Mem) (a0 a1 a2 a3 : Int) : Ct mX10_deed d 0 0 [pA a0, pI a1, pI a2, pI a3] M (dI M) (fX10_deed M a0 a1 a2 a3) := by
  obtain ⟨d, rfl⟩ : ∃ k, d = k + 1 := ⟨d - 1, by omega⟩
  refine Ct.of 1 (fun _ _ _ => trivial) (by decide +kernel) rfl ?_
  unfold fX10_deed
  refine v_aload_n dX10_deed_0 rfl ?_
  refine v_if (fun h1 => ?_)
  refine v_get (v := pA (M.1 a0 0)) 9 0 rfl inX10 (by decide) tw421 dX10_deed_1 h1 rfl ?_
  refine v_iload_n dX10_deed_4 rfl ?_
  refine v_if (fun h4 => ?_)
  refine v_cV (mi := mX10_deed) (c0 := 0) (c1 := 0) (As := [pI a1]) (st := []) (kX6_nightsAt d (by omega) _ _ _) rfl h4 rfl okX6_nightsAt (Or.inl tw726) tw727 tw728 rfl (Nat.le_of_ble_eq_true rfl) dX10_deed_5 (fun r2 => [pA r2]) (fun r2 => M) (fun _ => rfl) (fun _ => rfl) (fun r2 h3 => ?_) rfl
  refine v_astore (ls' := [some (pA a0), some (pI a1), some (pI a2), some (pI a3), some (pA r2)]) dX10_deed_8 (by decide) rfl ?_
  refine v_aload dX10_deed_10 rfl ?_
  refine v_ifnonnull (tgt := 18) dX10_deed_12 (by decide) (fun c5 => ?_) (fun c5 => ?_)
  · refine v_bipush dX10_deed_15 (by decide) ?_
    exact v_ireturn dX10_deed_17 rfl rfl
  · refine v_iload_n dX10_deed_18 rfl ?_
    refine v_iconst dX10_deed_19 (by decide) ?_
    refine v_icmp_ne (tgt := 38) dX10_deed_20 (by decide) (fun c6 => ?_) (fun c6 => ?_)
    · refine v_iload_n dX10_deed_23 rfl ?_
      refine v_if_ne (tgt := 35) dX10_deed_24 (by decide) (fun c7 => ?_) (fun c7 => ?_)
      · refine v_aload dX10_deed_27 rfl ?_
        refine v_if (fun h8 => ?_)
        refine v_get (v := pI (M.1 r2 0)) 1 0 rfl inX1 (by decide) tw151 dX10_deed_29 h8 rfl ?_
        refine v_goto (tgt := 37) dX10_deed_32 (by decide) ?_
        exact v_ireturn dX10_deed_37 rfl rfl
      · refine v_bipush dX10_deed_35 (by decide) ?_
        exact v_ireturn dX10_deed_37 rfl rfl
    · refine v_iload_n dX10_deed_38 rfl ?_
      refine v_if_lt (tgt := 51) dX10_deed_39 (by decide) (fun c9 => ?_) (fun c9 => ?_)
      · refine v_bipush dX10_deed_51 (by decide) ?_
        exact v_ireturn dX10_deed_53 rfl rfl
      · refine v_iload_n dX10_deed_42 rfl ?_
        refine v_aload dX10_deed_43 rfl ?_
        refine v_if (fun h10 => ?_)
        refine v_get (v := pI (M.1 r2 0)) 1 0 rfl inX1 (by decide) tw151 dX10_deed_45 h10 rfl ?_
        refine v_icmp_lt (tgt := 54) dX10_deed_48 (by decide) (fun c11 => ?_) (fun c11 => ?_)
        · refine v_iload_n dX10_deed_54 rfl ?_
          refine v_ite (fun h12 => ?_) (fun h12 => ?_)
          · refine v_tabIn (off := 29) (tgt := 84) dX10_deed_55 h12 (by decide) ?_
            refine v_aload dX10_deed_84 rfl ?_
            refine v_get (v := pA (M.1 r2 1)) 1 1 rfl inX1 (by decide) tw154 dX10_deed_86 h10 rfl ?_
            refine v_iload_n dX10_deed_89 rfl ?_
            refine v_if (fun h13 => ?_)
            refine v_iaload h13 dX10_deed_90 ?_
            exact v_ireturn dX10_deed_91 rfl rfl
          · refine v_ite (fun h14 => ?_) (fun h14 => ?_)
            · refine v_tabIn (off := 37) (tgt := 92) dX10_deed_55 h14 (by decide) ?_
              refine v_aload dX10_deed_92 rfl ?_
              refine v_get (v := pA (M.1 r2 2)) 1 2 rfl inX1 (by decide) tw157 dX10_deed_94 h10 rfl ?_
              refine v_iload_n dX10_deed_97 rfl ?_
              refine v_if (fun h15 => ?_)
              refine v_iaload h15 dX10_deed_98 ?_
              exact v_ireturn dX10_deed_99 rfl rfl
            · refine v_ite (fun h16 => ?_) (fun h16 => ?_)
              · refine v_tabIn (off := 45) (tgt := 100) dX10_deed_55 h16 (by decide) ?_
                refine v_aload dX10_deed_100 rfl ?_
                refine v_get (v := pA (M.1 r2 3)) 1 3 rfl inX1 (by decide) tw160 dX10_deed_102 h10 rfl ?_
                refine v_iload_n dX10_deed_105 rfl ?_
                refine v_if (fun h17 => ?_)
                refine v_iaload h17 dX10_deed_106 ?_
                exact v_ireturn dX10_deed_107 rfl rfl
              · refine v_ite (fun h18 => ?_) (fun h18 => ?_)
                · refine v_tabIn (off := 53) (tgt := 108) dX10_deed_55 h18 (by decide) ?_
                  refine v_aload dX10_deed_108 rfl ?_
                  refine v_get (v := pA (M.1 r2 4)) 1 4 rfl inX1 (by decide) tw163 dX10_deed_110 h10 rfl ?_
                  refine v_iload_n dX10_deed_113 rfl ?_
                  refine v_if (fun h19 => ?_)
                  refine v_iaload h19 dX10_deed_114 ?_
                  exact v_ireturn dX10_deed_115 rfl rfl
                · refine v_tabOut (tgt := 116) dX10_deed_55 (by omega) (by decide) ?_
                  refine v_bipush dX10_deed_116 (by decide) ?_
                  exact v_ireturn dX10_deed_118 rfl rfl
        · refine v_bipush dX10_deed_51 (by decide) ?_
          exact v_ireturn dX10_deed_53 rfl rfl
theorem dX10_walkTo_0 : decode cX10_walkTo 0 = .ok (.aload_n 0, 1) := by decide +kernel
theorem dX10_walkTo_1 : decode cX10_walkTo 1 = .ok (.getfield 12, 3) := by decide +kernel
theorem dX10_walkTo_4 : decode cX10_walkTo 4 = .ok (.iload_n 1, 1) := by decide +kernel
theorem dX10_walkTo_5 : decode cX10_walkTo 5 = .ok (.invokevirtual 92, 3) := by decide +kernel
theorem dX10_walkTo_8 : decode cX10_walkTo 8 = .ok (.astore 5, 2) := by decide +kernel
theorem dX10_walkTo_10 : decode cX10_walkTo 10 = .ok (.aload_n 0, 1) := by decide +kernel
theorem dX10_walkTo_11 : decode cX10_walkTo 11 = .ok (.getfield 12, 3) := by decide +kernel
theorem dX10_walkTo_14 : decode cX10_walkTo 14 = .ok (.iload_n 2, 1) := by decide +kernel
theorem dX10_walkTo_15 : decode cX10_walkTo 15 = .ok (.invokevirtual 148, 3) := by decide +kernel
theorem dX10_walkTo_18 : decode cX10_walkTo 18 = .ok (.astore 6, 2) := by decide +kernel
theorem dX10_walkTo_20 : decode cX10_walkTo 20 = .ok (.aload_n 0, 1) := by decide +kernel
theorem dX10_walkTo_21 : decode cX10_walkTo 21 = .ok (.getfield 12, 3) := by decide +kernel
theorem dX10_walkTo_24 : decode cX10_walkTo 24 = .ok (.iload_n 3, 1) := by decide +kernel
theorem dX10_walkTo_25 : decode cX10_walkTo 25 = .ok (.invokevirtual 164, 3) := by decide +kernel
theorem dX10_walkTo_28 : decode cX10_walkTo 28 = .ok (.astore 7, 2) := by decide +kernel
theorem dX10_walkTo_30 : decode cX10_walkTo 30 = .ok (.aload 5, 2) := by decide +kernel
theorem dX10_walkTo_32 : decode cX10_walkTo 32 = .ok (.ifnull 13, 3) := by decide +kernel
theorem dX10_walkTo_35 : decode cX10_walkTo 35 = .ok (.aload 6, 2) := by decide +kernel
theorem dX10_walkTo_37 : decode cX10_walkTo 37 = .ok (.ifnull 8, 3) := by decide +kernel
theorem dX10_walkTo_40 : decode cX10_walkTo 40 = .ok (.aload 7, 2) := by decide +kernel
theorem dX10_walkTo_42 : decode cX10_walkTo 42 = .ok (.ifnonnull 5, 3) := by decide +kernel
theorem dX10_walkTo_45 : decode cX10_walkTo 45 = .ok (.iconst 0, 1) := by decide +kernel
theorem dX10_walkTo_46 : decode cX10_walkTo 46 = .ok (.ireturn, 1) := by decide +kernel
theorem dX10_walkTo_47 : decode cX10_walkTo 47 = .ok (.aload_n 0, 1) := by decide +kernel
theorem dX10_walkTo_48 : decode cX10_walkTo 48 = .ok (.getfield 40, 3) := by decide +kernel
theorem dX10_walkTo_51 : decode cX10_walkTo 51 = .ok (.aload 5, 2) := by decide +kernel
theorem dX10_walkTo_53 : decode cX10_walkTo 53 = .ok (.aload 6, 2) := by decide +kernel
theorem dX10_walkTo_55 : decode cX10_walkTo 55 = .ok (.invokevirtual 301, 3) := by decide +kernel
theorem dX10_walkTo_58 : decode cX10_walkTo 58 = .ok (.aload_n 0, 1) := by decide +kernel
theorem dX10_walkTo_59 : decode cX10_walkTo 59 = .ok (.getfield 40, 3) := by decide +kernel
theorem dX10_walkTo_62 : decode cX10_walkTo 62 = .ok (.aload 7, 2) := by decide +kernel
theorem dX10_walkTo_64 : decode cX10_walkTo 64 = .ok (.iload 4, 2) := by decide +kernel
theorem dX10_walkTo_66 : decode cX10_walkTo 66 = .ok (.invokevirtual 338, 3) := by decide +kernel
theorem dX10_walkTo_69 : decode cX10_walkTo 69 = .ok (.iconst 1, 1) := by decide +kernel
theorem dX10_walkTo_70 : decode cX10_walkTo 70 = .ok (.ireturn, 1) := by decide +kernel
abbrev mX10_walkTo : MI := (yX10_walkTo, cX10_walkTo, 8, (some .boolean), noE)
theorem okX10_walkTo : cok mX10_walkTo 4 := ⟨tw737, tw1, by decide, by decide, by decide, by decide +kernel⟩
def fX10_walkTo (M : Mem) (a0 a1 a2 a3 a4 : Int) : Option (Int × Mem) :=
  if M.2.1 a0 = 9 then if M.2.1 (M.1 a0 0) = 6 then (fX6_townAt M (M.1 a0 0) a1).bind fun r2 => (fX6_lawAt M (M.1 a0 0) a2).bind fun r5 => (fX6_nightsAt M (M.1 a0 0) a3).bind fun r7 => if r2 = -1 then (some (0, M)) else (if r5 = -1 then (some (0, M)) else (if r7 = -1 then (some (0, M)) else (if M.2.1 (M.1 a0 3) = 8 then (fX9_begin M (M.1 a0 3) r2 r5).bind fun r12 => if r12.2.1 a0 = 9 then if r12.2.1 (r12.1 a0 3) = 8 then (fX9_follow r12 (r12.1 a0 3) r7 a4).bind fun r16 => some (1, r16) else none else none else none))) else none else none
set_option maxRecDepth 100000 in
set_option maxHeartbeats 4000000 in
theorem kX10_walkTo (d : Nat) (hd : 5 ≤ d) (M : Mem) (a0 a1 a2 a3 a4 : Int) : Ct mX10_walkTo d 0 0 [pA a0, pI a1, pI a2, pI a3, pI a4] M dIM (fX10_walkTo M a0 a1 a2 a3 a4) := by
  obtain ⟨d, rfl⟩ : ∃ k, d = k + 1 := ⟨d - 1, by omega⟩
  refine Ct.of 3 (fun _ _ _ => trivial) (by decide +kernel) rfl ?_
  unfold fX10_walkTo
  refine v_aload_n dX10_walkTo_0 rfl ?_
  refine v_if (fun h1 => ?_)
  refine v_get (v := pA (M.1 a0 0)) 9 0 rfl inX10 (by decide) tw421 dX10_walkTo_1 h1 rfl ?_
  refine v_iload_n dX10_walkTo_4 rfl ?_
  refine v_if (fun h4 => ?_)
  refine v_cV (mi := mX10_walkTo) (c0 := 0) (c1 := 0) (As := [pI a1]) (st := []) (kX6_townAt d (by omega) _ _ _) rfl h4 rfl okX6_townAt (Or.inl tw680) tw681 tw682 rfl (Nat.le_of_ble_eq_true rfl) dX10_walkTo_5 (fun r2 => [pA r2]) (fun r2 => M) (fun _ => rfl) (fun _ => rfl) (fun r2 h3 => ?_) rfl
  refine v_astore (ls' := [some (pA a0), some (pI a1), some (pI a2), some (pI a3), some (pI a4), some (pA r2), none, none]) dX10_walkTo_8 (by decide) rfl ?_
  refine v_aload_n dX10_walkTo_10 rfl ?_
  refine v_get (v := pA (M.1 a0 0)) 9 0 rfl inX10 (by decide) tw421 dX10_walkTo_11 h1 rfl ?_
  refine v_iload_n dX10_walkTo_14 rfl ?_
  refine v_cV (mi := mX10_walkTo) (c0 := 0) (c1 := 0) (As := [pI a2]) (st := []) (kX6_lawAt d (by omega) _ _ _) rfl h4 rfl okX6_lawAt (Or.inl tw714) tw715 tw716 rfl (Nat.le_of_ble_eq_true rfl) dX10_walkTo_15 (fun r5 => [pA r5]) (fun r5 => M) (fun _ => rfl) (fun _ => rfl) (fun r5 h6 => ?_) rfl
  refine v_astore (ls' := [some (pA a0), some (pI a1), some (pI a2), some (pI a3), some (pI a4), some (pA r2), some (pA r5), none]) dX10_walkTo_18 (by decide) rfl ?_
  refine v_aload_n dX10_walkTo_20 rfl ?_
  refine v_get (v := pA (M.1 a0 0)) 9 0 rfl inX10 (by decide) tw421 dX10_walkTo_21 h1 rfl ?_
  refine v_iload_n dX10_walkTo_24 rfl ?_
  refine v_cV (mi := mX10_walkTo) (c0 := 0) (c1 := 0) (As := [pI a3]) (st := []) (kX6_nightsAt d (by omega) _ _ _) rfl h4 rfl okX6_nightsAt (Or.inl tw726) tw727 tw728 rfl (Nat.le_of_ble_eq_true rfl) dX10_walkTo_25 (fun r7 => [pA r7]) (fun r7 => M) (fun _ => rfl) (fun _ => rfl) (fun r7 h8 => ?_) rfl
  refine v_astore (ls' := [some (pA a0), some (pI a1), some (pI a2), some (pI a3), some (pI a4), some (pA r2), some (pA r5), some (pA r7)]) dX10_walkTo_28 (by decide) rfl ?_
  refine v_aload dX10_walkTo_30 rfl ?_
  refine v_ifnull (tgt := 45) dX10_walkTo_32 (by decide) (fun c9 => ?_) (fun c9 => ?_)
  · refine v_iconst dX10_walkTo_45 (by decide) ?_
    exact v_breturn dX10_walkTo_46 rfl (by decide) rfl
  · refine v_aload dX10_walkTo_35 rfl ?_
    refine v_ifnull (tgt := 45) dX10_walkTo_37 (by decide) (fun c10 => ?_) (fun c10 => ?_)
    · refine v_iconst dX10_walkTo_45 (by decide) ?_
      exact v_breturn dX10_walkTo_46 rfl (by decide) rfl
    · refine v_aload dX10_walkTo_40 rfl ?_
      refine v_ifnonnull (tgt := 47) dX10_walkTo_42 (by decide) (fun c11 => ?_) (fun c11 => ?_)
      · refine v_iconst dX10_walkTo_45 (by decide) ?_
        exact v_breturn dX10_walkTo_46 rfl (by decide) rfl
      · refine v_aload_n dX10_walkTo_47 rfl ?_
        refine v_get (v := pA (M.1 a0 3)) 9 3 rfl inX10 (by decide) tw424 dX10_walkTo_48 h1 rfl ?_
        refine v_aload dX10_walkTo_51 rfl ?_
        refine v_aload dX10_walkTo_53 rfl ?_
        refine v_if (fun h14 => ?_)
        refine v_cV (mi := mX10_walkTo) (c0 := 0) (c1 := 0) (As := [pA r2, pA r5]) (st := []) (kX9_begin d (by omega) _ _ _ _) rfl h14 rfl okX9_begin (Or.inl tw738) tw739 tw740 rfl (Nat.le_of_ble_eq_true rfl) dX10_walkTo_55 (fun r12 => []) (fun r12 => r12) (fun _ => rfl) (fun _ => rfl) (fun r12 h13 => ?_) rfl
        refine v_aload_n dX10_walkTo_58 rfl ?_
        refine v_if (fun h15 => ?_)
        refine v_get (v := pA (r12.1 a0 3)) 9 3 rfl inX10 (by decide) tw424 dX10_walkTo_59 h15 rfl ?_
        refine v_aload dX10_walkTo_62 rfl ?_
        refine v_iload dX10_walkTo_64 rfl ?_
        refine v_if (fun h18 => ?_)
        refine v_cV (mi := mX10_walkTo) (c0 := 0) (c1 := 0) (As := [pA r7, pI a4]) (st := []) (kX9_follow d (by omega) _ _ _ _) rfl h18 rfl okX9_follow (Or.inl tw744) tw745 tw746 rfl (Nat.le_of_ble_eq_true rfl) dX10_walkTo_66 (fun r16 => []) (fun r16 => r16) (fun _ => rfl) (fun _ => rfl) (fun r16 h17 => ?_) rfl
        refine v_iconst dX10_walkTo_69 (by decide) ?_
        exact v_breturn dX10_walkTo_70 rfl (by decide) rfl
theorem dX10_stop_0 : decode cX10_stop 0 = .ok (.aload_n 0, 1) := by decide +kernel
theorem dX10_stop_1 : decode cX10_stop 1 = .ok (.iload_n 1, 1) := by decide +kernel
theorem dX10_stop_2 : decode cX10_stop 2 = .ok (.iload_n 2, 1) := by decide +kernel
theorem dX10_stop_3 : decode cX10_stop 3 = .ok (.iload_n 3, 1) := by decide +kernel
theorem dX10_stop_4 : decode cX10_stop 4 = .ok (.bipush 40, 2) := by decide +kernel
theorem dX10_stop_6 : decode cX10_stop 6 = .ok (.invokevirtual 185, 3) := by decide +kernel
theorem dX10_stop_9 : decode cX10_stop 9 = .ok (.ifCond .eq 13, 3) := by decide +kernel
theorem dX10_stop_12 : decode cX10_stop 12 = .ok (.aload_n 0, 1) := by decide +kernel
theorem dX10_stop_13 : decode cX10_stop 13 = .ok (.getfield 40, 3) := by decide +kernel
theorem dX10_stop_16 : decode cX10_stop 16 = .ok (.getfield 189, 3) := by decide +kernel
theorem dX10_stop_19 : decode cX10_stop 19 = .ok (.goto 4, 3) := by decide +kernel
theorem dX10_stop_22 : decode cX10_stop 22 = .ok (.iconst (-1), 1) := by decide +kernel
theorem dX10_stop_23 : decode cX10_stop 23 = .ok (.ireturn, 1) := by decide +kernel
abbrev mX10_stop : MI := (yX10_stop, cX10_stop, 4, (some .int), noE)
theorem okX10_stop : cok mX10_stop 3 := ⟨tw733, tw1, by decide, by decide, by decide, by decide +kernel⟩
def fX10_stop (M : Mem) (a0 a1 a2 a3 : Int) : Option (Int × Mem) :=
  if M.2.1 a0 = 9 then (fX10_walkTo M a0 a1 a2 a3 40).bind fun r1 => if r1.1 = 0 then (some ((-1), r1.2)) else (if r1.2.2.1 a0 = 9 then if r1.2.2.1 (r1.2.1 a0 3) = 8 then some (r1.2.1 (r1.2.1 a0 3) 15, r1.2) else none else none) else none
set_option maxRecDepth 100000 in
set_option maxHeartbeats 4000000 in
theorem kX10_stop (d : Nat) (hd : 6 ≤ d) (M : Mem) (a0 a1 a2 a3 : Int) : Ct mX10_stop d 0 0 [pA a0, pI a1, pI a2, pI a3] M dIM (fX10_stop M a0 a1 a2 a3) := by
  obtain ⟨d, rfl⟩ : ∃ k, d = k + 1 := ⟨d - 1, by omega⟩
  refine Ct.of 0 (fun _ _ _ => trivial) (by decide +kernel) rfl ?_
  unfold fX10_stop
  refine v_aload_n dX10_stop_0 rfl ?_
  refine v_iload_n dX10_stop_1 rfl ?_
  refine v_iload_n dX10_stop_2 rfl ?_
  refine v_iload_n dX10_stop_3 rfl ?_
  refine v_bipush dX10_stop_4 (by decide) ?_
  refine v_if (fun h3 => ?_)
  refine v_cV (mi := mX10_stop) (c0 := 0) (c1 := 0) (As := [pI a1, pI a2, pI a3, pI 40]) (st := []) (kX10_walkTo d (by omega) _ _ _ _ _ _) rfl h3 rfl okX10_walkTo (Or.inl tw734) tw736 tp14 rfl (Nat.le_of_ble_eq_true rfl) dX10_stop_6 (fun r1 => [pI r1.1]) (fun r1 => r1.2) (fun _ => rfl) (fun _ => rfl) (fun r1 h2 => ?_) rfl
  refine v_if_eq (tgt := 22) dX10_stop_9 (by decide) (fun c4 => ?_) (fun c4 => ?_)
  · refine v_iconst dX10_stop_22 (by decide) ?_
    exact v_ireturn dX10_stop_23 rfl rfl
  · refine v_aload_n dX10_stop_12 rfl ?_
    refine v_if (fun h5 => ?_)
    refine v_get (v := pA (r1.2.1 a0 3)) 9 3 rfl inX10 (by decide) tw424 dX10_stop_13 h5 rfl ?_
    refine v_if (fun h6 => ?_)
    refine v_get (v := pI (r1.2.1 (r1.2.1 a0 3) 15)) 8 15 rfl inX9 (by decide) tw347 dX10_stop_16 h6 rfl ?_
    refine v_goto (tgt := 23) dX10_stop_19 (by decide) ?_
    exact v_ireturn dX10_stop_23 rfl rfl
theorem dX10_walkJust_0 : decode cX10_walkJust 0 = .ok (.iload 4, 2) := by decide +kernel
theorem dX10_walkJust_2 : decode cX10_walkJust 2 = .ok (.ifCond .lt 38, 3) := by decide +kernel
theorem dX10_walkJust_5 : decode cX10_walkJust 5 = .ok (.iload 4, 2) := by decide +kernel
theorem dX10_walkJust_7 : decode cX10_walkJust 7 = .ok (.bipush 40, 2) := by decide +kernel
theorem dX10_walkJust_9 : decode cX10_walkJust 9 = .ok (.if_icmp .gt 31, 3) := by decide +kernel
theorem dX10_walkJust_12 : decode cX10_walkJust 12 = .ok (.aload_n 0, 1) := by decide +kernel
theorem dX10_walkJust_13 : decode cX10_walkJust 13 = .ok (.iload_n 1, 1) := by decide +kernel
theorem dX10_walkJust_14 : decode cX10_walkJust 14 = .ok (.iload_n 2, 1) := by decide +kernel
theorem dX10_walkJust_15 : decode cX10_walkJust 15 = .ok (.iload_n 3, 1) := by decide +kernel
theorem dX10_walkJust_16 : decode cX10_walkJust 16 = .ok (.iload 4, 2) := by decide +kernel
theorem dX10_walkJust_18 : decode cX10_walkJust 18 = .ok (.invokevirtual 185, 3) := by decide +kernel
theorem dX10_walkJust_21 : decode cX10_walkJust 21 = .ok (.ifCond .eq 19, 3) := by decide +kernel
theorem dX10_walkJust_24 : decode cX10_walkJust 24 = .ok (.aload_n 0, 1) := by decide +kernel
theorem dX10_walkJust_25 : decode cX10_walkJust 25 = .ok (.getfield 40, 3) := by decide +kernel
theorem dX10_walkJust_28 : decode cX10_walkJust 28 = .ok (.getfield 189, 3) := by decide +kernel
theorem dX10_walkJust_31 : decode cX10_walkJust 31 = .ok (.iload 4, 2) := by decide +kernel
theorem dX10_walkJust_33 : decode cX10_walkJust 33 = .ok (.if_icmp .ne 7, 3) := by decide +kernel
theorem dX10_walkJust_36 : decode cX10_walkJust 36 = .ok (.iconst 1, 1) := by decide +kernel
theorem dX10_walkJust_37 : decode cX10_walkJust 37 = .ok (.goto 4, 3) := by decide +kernel
theorem dX10_walkJust_40 : decode cX10_walkJust 40 = .ok (.iconst 0, 1) := by decide +kernel
theorem dX10_walkJust_41 : decode cX10_walkJust 41 = .ok (.ireturn, 1) := by decide +kernel
abbrev mX10_walkJust : MI := (yX10_walkJust, cX10_walkJust, 5, (some .boolean), noE)
theorem okX10_walkJust : cok mX10_walkJust 4 := ⟨tw804, tw1, by decide, by decide, by decide, by decide +kernel⟩
def fX10_walkJust (M : Mem) (a0 a1 a2 a3 a4 : Int) : Option (Int × Mem) :=
  if a4 < 0 then (some (0, M)) else (if 40 < a4 then (some (0, M)) else (if M.2.1 a0 = 9 then (fX10_walkTo M a0 a1 a2 a3 a4).bind fun r3 => if r3.1 = 0 then (some (0, r3.2)) else (if r3.2.2.1 a0 = 9 then if r3.2.2.1 (r3.2.1 a0 3) = 8 then if r3.2.1 (r3.2.1 a0 3) 15 = a4 then (some (1, r3.2)) else (some (0, r3.2)) else none else none) else none))
set_option maxRecDepth 100000 in
set_option maxHeartbeats 4000000 in
theorem kX10_walkJust (d : Nat) (hd : 6 ≤ d) (M : Mem) (a0 a1 a2 a3 a4 : Int) : Ct mX10_walkJust d 0 0 [pA a0, pI a1, pI a2, pI a3, pI a4] M dIM (fX10_walkJust M a0 a1 a2 a3 a4) := by
  obtain ⟨d, rfl⟩ : ∃ k, d = k + 1 := ⟨d - 1, by omega⟩
  refine Ct.of 0 (fun _ _ _ => trivial) (by decide +kernel) rfl ?_
  unfold fX10_walkJust
  refine v_iload dX10_walkJust_0 rfl ?_
  refine v_if_lt (tgt := 40) dX10_walkJust_2 (by decide) (fun c1 => ?_) (fun c1 => ?_)
  · refine v_iconst dX10_walkJust_40 (by decide) ?_
    exact v_breturn dX10_walkJust_41 rfl (by decide) rfl
  · refine v_iload dX10_walkJust_5 rfl ?_
    refine v_bipush dX10_walkJust_7 (by decide) ?_
    refine v_icmp_gt (tgt := 40) dX10_walkJust_9 (by decide) (fun c2 => ?_) (fun c2 => ?_)
    · refine v_iconst dX10_walkJust_40 (by decide) ?_
      exact v_breturn dX10_walkJust_41 rfl (by decide) rfl
    · refine v_aload_n dX10_walkJust_12 rfl ?_
      refine v_iload_n dX10_walkJust_13 rfl ?_
      refine v_iload_n dX10_walkJust_14 rfl ?_
      refine v_iload_n dX10_walkJust_15 rfl ?_
      refine v_iload dX10_walkJust_16 rfl ?_
      refine v_if (fun h5 => ?_)
      refine v_cV (mi := mX10_walkJust) (c0 := 0) (c1 := 0) (As := [pI a1, pI a2, pI a3, pI a4]) (st := []) (kX10_walkTo d (by omega) _ _ _ _ _ _) rfl h5 rfl okX10_walkTo (Or.inl tw734) tw736 tp14 rfl (Nat.le_of_ble_eq_true rfl) dX10_walkJust_18 (fun r3 => [pI r3.1]) (fun r3 => r3.2) (fun _ => rfl) (fun _ => rfl) (fun r3 h4 => ?_) rfl
      refine v_if_eq (tgt := 40) dX10_walkJust_21 (by decide) (fun c6 => ?_) (fun c6 => ?_)
      · refine v_iconst dX10_walkJust_40 (by decide) ?_
        exact v_breturn dX10_walkJust_41 rfl (by decide) rfl
      · refine v_aload_n dX10_walkJust_24 rfl ?_
        refine v_if (fun h7 => ?_)
        refine v_get (v := pA (r3.2.1 a0 3)) 9 3 rfl inX10 (by decide) tw424 dX10_walkJust_25 h7 rfl ?_
        refine v_if (fun h8 => ?_)
        refine v_get (v := pI (r3.2.1 (r3.2.1 a0 3) 15)) 8 15 rfl inX9 (by decide) tw347 dX10_walkJust_28 h8 rfl ?_
        refine v_iload dX10_walkJust_31 rfl ?_
        refine v_icmp_ne (tgt := 40) dX10_walkJust_33 (by decide) (fun c9 => ?_) (fun c9 => ?_)
        · refine v_iconst dX10_walkJust_36 (by decide) ?_
          refine v_goto (tgt := 41) dX10_walkJust_37 (by decide) ?_
          exact v_breturn dX10_walkJust_41 rfl (by decide) rfl
        · refine v_iconst dX10_walkJust_40 (by decide) ?_
          exact v_breturn dX10_walkJust_41 rfl (by decide) rfl
theorem dX10_state_0 : decode cX10_state 0 = .ok (.aload_n 0, 1) := by decide +kernel
theorem dX10_state_1 : decode cX10_state 1 = .ok (.iload_n 1, 1) := by decide +kernel
theorem dX10_state_2 : decode cX10_state 2 = .ok (.iload_n 2, 1) := by decide +kernel
theorem dX10_state_3 : decode cX10_state 3 = .ok (.iload_n 3, 1) := by decide +kernel
theorem dX10_state_4 : decode cX10_state 4 = .ok (.iload 4, 2) := by decide +kernel
theorem dX10_state_6 : decode cX10_state 6 = .ok (.invokevirtual 192, 3) := by decide +kernel
theorem dX10_state_9 : decode cX10_state 9 = .ok (.ifCond .ne 7, 3) := by decide +kernel
theorem dX10_state_12 : decode cX10_state 12 = .ok (.sipush (-1000), 3) := by decide +kernel
theorem dX10_state_15 : decode cX10_state 15 = .ok (.ireturn, 1) := by decide +kernel
theorem dX10_state_16 : decode cX10_state 16 = .ok (.iload 5, 2) := by decide +kernel
theorem dX10_state_18 : decode cX10_state 18 = .ok (.ifCond .ne 11, 3) := by decide +kernel
theorem dX10_state_21 : decode cX10_state 21 = .ok (.aload_n 0, 1) := by decide +kernel
theorem dX10_state_22 : decode cX10_state 22 = .ok (.getfield 40, 3) := by decide +kernel
theorem dX10_state_25 : decode cX10_state 25 = .ok (.getfield 195, 3) := by decide +kernel
theorem dX10_state_28 : decode cX10_state 28 = .ok (.ireturn, 1) := by decide +kernel
theorem dX10_state_29 : decode cX10_state 29 = .ok (.iload 5, 2) := by decide +kernel
theorem dX10_state_31 : decode cX10_state 31 = .ok (.bipush 10, 2) := by decide +kernel
theorem dX10_state_33 : decode cX10_state 33 = .ok (.if_icmp .lt 23, 3) := by decide +kernel
theorem dX10_state_36 : decode cX10_state 36 = .ok (.iload 5, 2) := by decide +kernel
theorem dX10_state_38 : decode cX10_state 38 = .ok (.bipush 20, 2) := by decide +kernel
theorem dX10_state_40 : decode cX10_state 40 = .ok (.if_icmp .ge 16, 3) := by decide +kernel
theorem dX10_state_43 : decode cX10_state 43 = .ok (.aload_n 0, 1) := by decide +kernel
theorem dX10_state_44 : decode cX10_state 44 = .ok (.getfield 40, 3) := by decide +kernel
theorem dX10_state_47 : decode cX10_state 47 = .ok (.iload 5, 2) := by decide +kernel
theorem dX10_state_49 : decode cX10_state 49 = .ok (.bipush 10, 2) := by decide +kernel
theorem dX10_state_51 : decode cX10_state 51 = .ok (.isub, 1) := by decide +kernel
theorem dX10_state_52 : decode cX10_state 52 = .ok (.invokestatic 198, 3) := by decide +kernel
theorem dX10_state_55 : decode cX10_state 55 = .ok (.ireturn, 1) := by decide +kernel
theorem dX10_state_56 : decode cX10_state 56 = .ok (.aload_n 0, 1) := by decide +kernel
theorem dX10_state_57 : decode cX10_state 57 = .ok (.getfield 40, 3) := by decide +kernel
theorem dX10_state_60 : decode cX10_state 60 = .ok (.iload 5, 2) := by decide +kernel
theorem dX10_state_62 : decode cX10_state 62 = .ok (.invokestatic 204, 3) := by decide +kernel
theorem dX10_state_65 : decode cX10_state 65 = .ok (.ireturn, 1) := by decide +kernel
abbrev mX10_state : MI := (yX10_state, cX10_state, 6, (some .int), noE)
theorem okX10_state : cok mX10_state 5 := ⟨tw800, tw1, by decide, by decide, by decide, by decide +kernel⟩
def fX10_state (M : Mem) (a0 a1 a2 a3 a4 a5 : Int) : Option (Int × Mem) :=
  if M.2.1 a0 = 9 then (fX10_walkJust M a0 a1 a2 a3 a4).bind fun r1 => if r1.1 = 0 then (some ((-1000), r1.2)) else (if a5 = 0 then (if r1.2.2.1 a0 = 9 then if r1.2.2.1 (r1.2.1 a0 3) = 8 then some (r1.2.1 (r1.2.1 a0 3) 14, r1.2) else none else none) else (jn (fun (t9 : Unit) => if r1.2.2.1 a0 = 9 then (fX8_seen r1.2 (r1.2.1 a0 3) a5).bind fun r11 => some (r11, r1.2) else none) (fun (j8 : Unit → Option (Int × Mem)) => if a5 < 10 then (j8 ()) else (if a5 < 20 then (if r1.2.2.1 a0 = 9 then (fX8_queued r1.2 (r1.2.1 a0 3) (w32 (a5 - 10))).bind fun r16 => some (r16, r1.2) else none) else (j8 ()))))) else none
set_option maxRecDepth 100000 in
set_option maxHeartbeats 4000000 in
theorem kX10_state (d : Nat) (hd : 7 ≤ d) (M : Mem) (a0 a1 a2 a3 a4 a5 : Int) : Ct mX10_state d 0 0 [pA a0, pI a1, pI a2, pI a3, pI a4, pI a5] M dIM (fX10_state M a0 a1 a2 a3 a4 a5) := by
  obtain ⟨d, rfl⟩ : ∃ k, d = k + 1 := ⟨d - 1, by omega⟩
  refine Ct.of 0 (fun _ _ _ => trivial) (by decide +kernel) rfl ?_
  unfold fX10_state
  refine v_aload_n dX10_state_0 rfl ?_
  refine v_iload_n dX10_state_1 rfl ?_
  refine v_iload_n dX10_state_2 rfl ?_
  refine v_iload_n dX10_state_3 rfl ?_
  refine v_iload dX10_state_4 rfl ?_
  refine v_if (fun h3 => ?_)
  refine v_cV (mi := mX10_state) (c0 := 0) (c1 := 0) (As := [pI a1, pI a2, pI a3, pI a4]) (st := []) (kX10_walkJust d (by omega) _ _ _ _ _ _) rfl h3 rfl okX10_walkJust (Or.inl tw801) tw803 tp16 rfl (Nat.le_of_ble_eq_true rfl) dX10_state_6 (fun r1 => [pI r1.1]) (fun r1 => r1.2) (fun _ => rfl) (fun _ => rfl) (fun r1 h2 => ?_) rfl
  refine v_if_ne (tgt := 16) dX10_state_9 (by decide) (fun c4 => ?_) (fun c4 => ?_)
  · refine v_sipush dX10_state_12 (by decide) ?_
    exact v_ireturn dX10_state_15 rfl rfl
  · refine v_iload dX10_state_16 rfl ?_
    refine v_if_ne (tgt := 29) dX10_state_18 (by decide) (fun c5 => ?_) (fun c5 => ?_)
    · refine v_aload_n dX10_state_21 rfl ?_
      refine v_if (fun h6 => ?_)
      refine v_get (v := pA (r1.2.1 a0 3)) 9 3 rfl inX10 (by decide) tw424 dX10_state_22 h6 rfl ?_
      refine v_if (fun h7 => ?_)
      refine v_get (v := pI (r1.2.1 (r1.2.1 a0 3) 14)) 8 14 rfl inX9 (by decide) tw345 dX10_state_25 h7 rfl ?_
      exact v_ireturn dX10_state_28 rfl rfl
    · refine v_iload dX10_state_29 rfl ?_
      refine v_bipush dX10_state_31 (by decide) ?_
      refine v_join (fun (t9 : Unit) => [some (pA a0), none, none, none, none, some (pI a5)]) (fun (t9 : Unit) => []) (fun (t9 : Unit) => r1.2) 56 (fun t9 => ?_) (fun j8 hj8 => ?_)
      · refine v_aload_n dX10_state_56 rfl ?_
        refine v_if (fun h10 => ?_)
        refine v_get (v := pA (r1.2.1 a0 3)) 9 3 rfl inX10 (by decide) tw424 dX10_state_57 h10 rfl ?_
        refine v_iload dX10_state_60 rfl ?_
        refine v_cS (mi := mX10_state) (c0 := 0) (c1 := 0) (As := [pA (r1.2.1 a0 3), pI a5]) (st := []) (kX8_seen d (by omega) _ _ _) okX8_seen (Or.inl tw818) tw819 rfl (Nat.le_of_ble_eq_true rfl) dX10_state_62 (fun r11 => [pI r11]) (fun r11 => r1.2) (fun _ => rfl) (fun _ => rfl) (fun r11 h12 => ?_) rfl
        exact v_ireturn dX10_state_65 rfl rfl
      · refine v_icmp_lt (tgt := 56) dX10_state_33 (by decide) (fun c13 => ?_) (fun c13 => ?_)
        · exact v_drop [some (pA a0), none, none, none, none, some (pI a5)] (ls_s (ls_n (ls_n (ls_n (ls_n (ls_s ls_e)))))) (hj8 ())
        · refine v_iload dX10_state_36 rfl ?_
          refine v_bipush dX10_state_38 (by decide) ?_
          refine v_icmp_ge (tgt := 56) dX10_state_40 (by decide) (fun c14 => ?_) (fun c14 => ?_)
          · refine v_aload_n dX10_state_43 rfl ?_
            refine v_if (fun h15 => ?_)
            refine v_get (v := pA (r1.2.1 a0 3)) 9 3 rfl inX10 (by decide) tw424 dX10_state_44 h15 rfl ?_
            refine v_iload dX10_state_47 rfl ?_
            refine v_bipush dX10_state_49 (by decide) ?_
            refine v_isub dX10_state_51 ?_
            refine v_cS (mi := mX10_state) (c0 := 0) (c1 := 0) (As := [pA (r1.2.1 a0 3), pI (w32 (a5 - 10))]) (st := []) (kX8_queued d (by omega) _ _ _) okX8_queued (Or.inl tw805) tw806 rfl (Nat.le_of_ble_eq_true rfl) dX10_state_52 (fun r16 => [pI r16]) (fun r16 => r1.2) (fun _ => rfl) (fun _ => rfl) (fun r16 h17 => ?_) rfl
            exact v_ireturn dX10_state_55 rfl rfl
          · exact v_drop [some (pA a0), none, none, none, none, some (pI a5)] (ls_s (ls_n (ls_n (ls_n (ls_n (ls_s ls_e)))))) (hj8 ())
theorem dX10_goods_0 : decode cX10_goods 0 = .ok (.iload 7, 2) := by decide +kernel
theorem dX10_goods_2 : decode cX10_goods 2 = .ok (.invokestatic 115, 3) := by decide +kernel
theorem dX10_goods_5 : decode cX10_goods 5 = .ok (.ifCond .eq 15, 3) := by decide +kernel
theorem dX10_goods_8 : decode cX10_goods 8 = .ok (.aload_n 0, 1) := by decide +kernel
theorem dX10_goods_9 : decode cX10_goods 9 = .ok (.iload_n 1, 1) := by decide +kernel
theorem dX10_goods_10 : decode cX10_goods 10 = .ok (.iload_n 2, 1) := by decide +kernel
theorem dX10_goods_11 : decode cX10_goods 11 = .ok (.iload_n 3, 1) := by decide +kernel
theorem dX10_goods_12 : decode cX10_goods 12 = .ok (.iload 4, 2) := by decide +kernel
theorem dX10_goods_14 : decode cX10_goods 14 = .ok (.invokevirtual 192, 3) := by decide +kernel
theorem dX10_goods_17 : decode cX10_goods 17 = .ok (.ifCond .ne 5, 3) := by decide +kernel
theorem dX10_goods_20 : decode cX10_goods 20 = .ok (.iconst (-1), 1) := by decide +kernel
theorem dX10_goods_21 : decode cX10_goods 21 = .ok (.ireturn, 1) := by decide +kernel
theorem dX10_goods_22 : decode cX10_goods 22 = .ok (.aload_n 0, 1) := by decide +kernel
theorem dX10_goods_23 : decode cX10_goods 23 = .ok (.getfield 40, 3) := by decide +kernel
theorem dX10_goods_26 : decode cX10_goods 26 = .ok (.getfield 207, 3) := by decide +kernel
theorem dX10_goods_29 : decode cX10_goods 29 = .ok (.iload 5, 2) := by decide +kernel
theorem dX10_goods_31 : decode cX10_goods 31 = .ok (.invokevirtual 124, 3) := by decide +kernel
theorem dX10_goods_34 : decode cX10_goods 34 = .ok (.istore 8, 2) := by decide +kernel
theorem dX10_goods_36 : decode cX10_goods 36 = .ok (.aload_n 0, 1) := by decide +kernel
theorem dX10_goods_37 : decode cX10_goods 37 = .ok (.getfield 40, 3) := by decide +kernel
theorem dX10_goods_40 : decode cX10_goods 40 = .ok (.getfield 207, 3) := by decide +kernel
theorem dX10_goods_43 : decode cX10_goods 43 = .ok (.iload 6, 2) := by decide +kernel
theorem dX10_goods_45 : decode cX10_goods 45 = .ok (.invokevirtual 104, 3) := by decide +kernel
theorem dX10_goods_48 : decode cX10_goods 48 = .ok (.istore 9, 2) := by decide +kernel
theorem dX10_goods_50 : decode cX10_goods 50 = .ok (.iload 5, 2) := by decide +kernel
theorem dX10_goods_52 : decode cX10_goods 52 = .ok (.iconst (-1), 1) := by decide +kernel
theorem dX10_goods_53 : decode cX10_goods 53 = .ok (.if_icmp .ne 28, 3) := by decide +kernel
theorem dX10_goods_56 : decode cX10_goods 56 = .ok (.iload 9, 2) := by decide +kernel
theorem dX10_goods_58 : decode cX10_goods 58 = .ok (.ifCond .eq 21, 3) := by decide +kernel
theorem dX10_goods_61 : decode cX10_goods 61 = .ok (.aload_n 0, 1) := by decide +kernel
theorem dX10_goods_62 : decode cX10_goods 62 = .ok (.getfield 40, 3) := by decide +kernel
theorem dX10_goods_65 : decode cX10_goods 65 = .ok (.getfield 211, 3) := by decide +kernel
theorem dX10_goods_68 : decode cX10_goods 68 = .ok (.iload 6, 2) := by decide +kernel
theorem dX10_goods_70 : decode cX10_goods 70 = .ok (.iload 7, 2) := by decide +kernel
theorem dX10_goods_72 : decode cX10_goods 72 = .ok (.invokestatic 136, 3) := by decide +kernel
theorem dX10_goods_75 : decode cX10_goods 75 = .ok (.iaload, 1) := by decide +kernel
theorem dX10_goods_76 : decode cX10_goods 76 = .ok (.goto 4, 3) := by decide +kernel
theorem dX10_goods_79 : decode cX10_goods 79 = .ok (.iconst (-1), 1) := by decide +kernel
theorem dX10_goods_80 : decode cX10_goods 80 = .ok (.ireturn, 1) := by decide +kernel
theorem dX10_goods_81 : decode cX10_goods 81 = .ok (.iload 6, 2) := by decide +kernel
theorem dX10_goods_83 : decode cX10_goods 83 = .ok (.iconst (-1), 1) := by decide +kernel
theorem dX10_goods_84 : decode cX10_goods 84 = .ok (.if_icmp .ne 28, 3) := by decide +kernel
theorem dX10_goods_87 : decode cX10_goods 87 = .ok (.iload 8, 2) := by decide +kernel
theorem dX10_goods_89 : decode cX10_goods 89 = .ok (.ifCond .eq 21, 3) := by decide +kernel
theorem dX10_goods_92 : decode cX10_goods 92 = .ok (.aload_n 0, 1) := by decide +kernel
theorem dX10_goods_93 : decode cX10_goods 93 = .ok (.getfield 40, 3) := by decide +kernel
theorem dX10_goods_96 : decode cX10_goods 96 = .ok (.getfield 212, 3) := by decide +kernel
theorem dX10_goods_99 : decode cX10_goods 99 = .ok (.iconst 5, 1) := by decide +kernel
theorem dX10_goods_100 : decode cX10_goods 100 = .ok (.iload 5, 2) := by decide +kernel
theorem dX10_goods_102 : decode cX10_goods 102 = .ok (.imul, 1) := by decide +kernel
theorem dX10_goods_103 : decode cX10_goods 103 = .ok (.iload 7, 2) := by decide +kernel
theorem dX10_goods_105 : decode cX10_goods 105 = .ok (.iadd, 1) := by decide +kernel
theorem dX10_goods_106 : decode cX10_goods 106 = .ok (.iaload, 1) := by decide +kernel
theorem dX10_goods_107 : decode cX10_goods 107 = .ok (.goto 4, 3) := by decide +kernel
theorem dX10_goods_110 : decode cX10_goods 110 = .ok (.iconst (-1), 1) := by decide +kernel
theorem dX10_goods_111 : decode cX10_goods 111 = .ok (.ireturn, 1) := by decide +kernel
theorem dX10_goods_112 : decode cX10_goods 112 = .ok (.iload 8, 2) := by decide +kernel
theorem dX10_goods_114 : decode cX10_goods 114 = .ok (.ifCond .eq 28, 3) := by decide +kernel
theorem dX10_goods_117 : decode cX10_goods 117 = .ok (.iload 9, 2) := by decide +kernel
theorem dX10_goods_119 : decode cX10_goods 119 = .ok (.ifCond .eq 23, 3) := by decide +kernel
theorem dX10_goods_122 : decode cX10_goods 122 = .ok (.aload_n 0, 1) := by decide +kernel
theorem dX10_goods_123 : decode cX10_goods 123 = .ok (.getfield 40, 3) := by decide +kernel
theorem dX10_goods_126 : decode cX10_goods 126 = .ok (.getfield 215, 3) := by decide +kernel
theorem dX10_goods_129 : decode cX10_goods 129 = .ok (.iload 5, 2) := by decide +kernel
theorem dX10_goods_131 : decode cX10_goods 131 = .ok (.iload 6, 2) := by decide +kernel
theorem dX10_goods_133 : decode cX10_goods 133 = .ok (.iload 7, 2) := by decide +kernel
theorem dX10_goods_135 : decode cX10_goods 135 = .ok (.invokestatic 218, 3) := by decide +kernel
theorem dX10_goods_138 : decode cX10_goods 138 = .ok (.iaload, 1) := by decide +kernel
theorem dX10_goods_139 : decode cX10_goods 139 = .ok (.goto 4, 3) := by decide +kernel
theorem dX10_goods_142 : decode cX10_goods 142 = .ok (.iconst (-1), 1) := by decide +kernel
theorem dX10_goods_143 : decode cX10_goods 143 = .ok (.ireturn, 1) := by decide +kernel
abbrev mX10_goods : MI := (yX10_goods, cX10_goods, 10, (some .int), noE)
theorem okX10_goods : cok mX10_goods 7 := ⟨tw848, tw1, by decide, by decide, by decide, by decide +kernel⟩
def fX10_goods (M : Mem) (a0 a1 a2 a3 a4 a5 a6 a7 : Int) : Option (Int × Mem) :=
  (fX10_isGood M a7).bind fun r1 => if r1 = 0 then (some ((-1), M)) else (if M.2.1 a0 = 9 then (fX10_walkJust M a0 a1 a2 a3 a4).bind fun r4 => if r4.1 = 0 then (some ((-1), r4.2)) else (if r4.2.2.1 a0 = 9 then if r4.2.2.1 (r4.2.1 a0 3) = 8 then if r4.2.2.1 (r4.2.1 (r4.2.1 a0 3) 0) = 7 then (fX7_isThief r4.2 (r4.2.1 (r4.2.1 a0 3) 0) a5).bind fun r10 => (fX7_isHouse r4.2 (r4.2.1 (r4.2.1 a0 3) 0) a6).bind fun r13 => if a5 = (-1) then (if r13 = 0 then (some ((-1), r4.2)) else ((fX10_cell r4.2 a6 a7).bind fun r17 => if r4.2.2.1 (r4.2.1 (r4.2.1 a0 3) 2) = 12 ∧ (0 : Int) ≤ r17 ∧ r17 < r4.2.2.2.1 (r4.2.1 (r4.2.1 a0 3) 2) then some (r4.2.1 (r4.2.1 (r4.2.1 a0 3) 2) r17, r4.2) else none)) else (if a6 = (-1) then (if r10 = 0 then (some ((-1), r4.2)) else (if r4.2.2.1 (r4.2.1 (r4.2.1 a0 3) 3) = 12 ∧ (0 : Int) ≤ (w32 ((w32 (5 * a5)) + a7)) ∧ (w32 ((w32 (5 * a5)) + a7)) < r4.2.2.2.1 (r4.2.1 (r4.2.1 a0 3) 3) then some (r4.2.1 (r4.2.1 (r4.2.1 a0 3) 3) (w32 ((w32 (5 * a5)) + a7)), r4.2) else none)) else (if r10 = 0 then (some ((-1), r4.2)) else (if r13 = 0 then (some ((-1), r4.2)) else ((fX10_cell_ r4.2 a5 a6 a7).bind fun r25 => if r4.2.2.1 (r4.2.1 (r4.2.1 a0 3) 4) = 12 ∧ (0 : Int) ≤ r25 ∧ r25 < r4.2.2.2.1 (r4.2.1 (r4.2.1 a0 3) 4) then some (r4.2.1 (r4.2.1 (r4.2.1 a0 3) 4) r25, r4.2) else none)))) else none else none else none) else none)
set_option maxRecDepth 100000 in
set_option maxHeartbeats 4000000 in
theorem kX10_goods (d : Nat) (hd : 7 ≤ d) (M : Mem) (a0 a1 a2 a3 a4 a5 a6 a7 : Int) : Ct mX10_goods d 0 0 [pA a0, pI a1, pI a2, pI a3, pI a4, pI a5, pI a6, pI a7] M dIM (fX10_goods M a0 a1 a2 a3 a4 a5 a6 a7) := by
  obtain ⟨d, rfl⟩ : ∃ k, d = k + 1 := ⟨d - 1, by omega⟩
  refine Ct.of 2 (fun _ _ _ => trivial) (by decide +kernel) rfl ?_
  unfold fX10_goods
  refine v_iload dX10_goods_0 rfl ?_
  refine v_cS (mi := mX10_goods) (c0 := 0) (c1 := 0) (As := [pI a7]) (st := []) (kX10_isGood d (by omega) _ _) okX10_isGood (Or.inl tw688) tw689 rfl (Nat.le_of_ble_eq_true rfl) dX10_goods_2 (fun r1 => [pI r1]) (fun r1 => M) (fun _ => rfl) (fun _ => rfl) (fun r1 h2 => ?_) rfl
  refine v_if_eq (tgt := 20) dX10_goods_5 (by decide) (fun c3 => ?_) (fun c3 => ?_)
  · refine v_iconst dX10_goods_20 (by decide) ?_
    exact v_ireturn dX10_goods_21 rfl rfl
  · refine v_aload_n dX10_goods_8 rfl ?_
    refine v_iload_n dX10_goods_9 rfl ?_
    refine v_iload_n dX10_goods_10 rfl ?_
    refine v_iload_n dX10_goods_11 rfl ?_
    refine v_iload dX10_goods_12 rfl ?_
    refine v_if (fun h6 => ?_)
    refine v_cV (mi := mX10_goods) (c0 := 0) (c1 := 0) (As := [pI a1, pI a2, pI a3, pI a4]) (st := []) (kX10_walkJust d (by omega) _ _ _ _ _ _) rfl h6 rfl okX10_walkJust (Or.inl tw801) tw803 tp16 rfl (Nat.le_of_ble_eq_true rfl) dX10_goods_14 (fun r4 => [pI r4.1]) (fun r4 => r4.2) (fun _ => rfl) (fun _ => rfl) (fun r4 h5 => ?_) rfl
    refine v_if_ne (tgt := 22) dX10_goods_17 (by decide) (fun c7 => ?_) (fun c7 => ?_)
    · refine v_iconst dX10_goods_20 (by decide) ?_
      exact v_ireturn dX10_goods_21 rfl rfl
    · refine v_aload_n dX10_goods_22 rfl ?_
      refine v_if (fun h8 => ?_)
      refine v_get (v := pA (r4.2.1 a0 3)) 9 3 rfl inX10 (by decide) tw424 dX10_goods_23 h8 rfl ?_
      refine v_if (fun h9 => ?_)
      refine v_get (v := pA (r4.2.1 (r4.2.1 a0 3) 0)) 8 0 rfl inX9 (by decide) tw317 dX10_goods_26 h9 rfl ?_
      refine v_iload dX10_goods_29 rfl ?_
      refine v_if (fun h12 => ?_)
      refine v_cV (mi := mX10_goods) (c0 := 0) (c1 := 0) (As := [pI a5]) (st := []) (kX7_isThief d (by omega) _ _ _) rfl h12 rfl okX7_isThief (Or.inl tw691) tw692 tw693 rfl (Nat.le_of_ble_eq_true rfl) dX10_goods_31 (fun r10 => [pI r10]) (fun r10 => r4.2) (fun _ => rfl) (fun _ => rfl) (fun r10 h11 => ?_) rfl
      refine v_istore (ls' := [some (pA a0), some (pI a1), some (pI a2), some (pI a3), some (pI a4), some (pI a5), some (pI a6), some (pI a7), some (pI r10), none]) dX10_goods_34 (by decide) rfl ?_
      refine v_aload_n dX10_goods_36 rfl ?_
      refine v_get (v := pA (r4.2.1 a0 3)) 9 3 rfl inX10 (by decide) tw424 dX10_goods_37 h8 rfl ?_
      refine v_get (v := pA (r4.2.1 (r4.2.1 a0 3) 0)) 8 0 rfl inX9 (by decide) tw317 dX10_goods_40 h9 rfl ?_
      refine v_iload dX10_goods_43 rfl ?_
      refine v_cV (mi := mX10_goods) (c0 := 0) (c1 := 0) (As := [pI a6]) (st := []) (kX7_isHouse d (by omega) _ _ _) rfl h12 rfl okX7_isHouse (Or.inl tw684) tw685 tw686 rfl (Nat.le_of_ble_eq_true rfl) dX10_goods_45 (fun r13 => [pI r13]) (fun r13 => r4.2) (fun _ => rfl) (fun _ => rfl) (fun r13 h14 => ?_) rfl
      refine v_istore (ls' := [some (pA a0), some (pI a1), some (pI a2), some (pI a3), some (pI a4), some (pI a5), some (pI a6), some (pI a7), some (pI r10), some (pI r13)]) dX10_goods_48 (by decide) rfl ?_
      refine v_iload dX10_goods_50 rfl ?_
      refine v_iconst dX10_goods_52 (by decide) ?_
      refine v_icmp_ne (tgt := 81) dX10_goods_53 (by decide) (fun c15 => ?_) (fun c15 => ?_)
      · refine v_iload dX10_goods_56 rfl ?_
        refine v_if_eq (tgt := 79) dX10_goods_58 (by decide) (fun c16 => ?_) (fun c16 => ?_)
        · refine v_iconst dX10_goods_79 (by decide) ?_
          exact v_ireturn dX10_goods_80 rfl rfl
        · refine v_aload_n dX10_goods_61 rfl ?_
          refine v_get (v := pA (r4.2.1 a0 3)) 9 3 rfl inX10 (by decide) tw424 dX10_goods_62 h8 rfl ?_
          refine v_get (v := pA (r4.2.1 (r4.2.1 a0 3) 2)) 8 2 rfl inX9 (by decide) tw321 dX10_goods_65 h9 rfl ?_
          refine v_iload dX10_goods_68 rfl ?_
          refine v_iload dX10_goods_70 rfl ?_
          refine v_cS (mi := mX10_goods) (c0 := 0) (c1 := 0) (As := [pI a6, pI a7]) (st := [pA (r4.2.1 (r4.2.1 a0 3) 2)]) (kX10_cell d (by omega) _ _ _) okX10_cell (Or.inl tw699) tw621 rfl (Nat.le_of_ble_eq_true rfl) dX10_goods_72 (fun r17 => [pI r17, pA (r4.2.1 (r4.2.1 a0 3) 2)]) (fun r17 => r4.2) (fun _ => rfl) (fun _ => rfl) (fun r17 h18 => ?_) rfl
          refine v_if (fun h19 => ?_)
          refine v_iaload h19 dX10_goods_75 ?_
          refine v_goto (tgt := 80) dX10_goods_76 (by decide) ?_
          exact v_ireturn dX10_goods_80 rfl rfl
      · refine v_iload dX10_goods_81 rfl ?_
        refine v_iconst dX10_goods_83 (by decide) ?_
        refine v_icmp_ne (tgt := 112) dX10_goods_84 (by decide) (fun c20 => ?_) (fun c20 => ?_)
        · refine v_iload dX10_goods_87 rfl ?_
          refine v_if_eq (tgt := 110) dX10_goods_89 (by decide) (fun c21 => ?_) (fun c21 => ?_)
          · refine v_iconst dX10_goods_110 (by decide) ?_
            exact v_ireturn dX10_goods_111 rfl rfl
          · refine v_aload_n dX10_goods_92 rfl ?_
            refine v_get (v := pA (r4.2.1 a0 3)) 9 3 rfl inX10 (by decide) tw424 dX10_goods_93 h8 rfl ?_
            refine v_get (v := pA (r4.2.1 (r4.2.1 a0 3) 3)) 8 3 rfl inX9 (by decide) tw324 dX10_goods_96 h9 rfl ?_
            refine v_iconst dX10_goods_99 (by decide) ?_
            refine v_iload dX10_goods_100 rfl ?_
            refine v_imul dX10_goods_102 ?_
            refine v_iload dX10_goods_103 rfl ?_
            refine v_iadd dX10_goods_105 ?_
            refine v_if (fun h22 => ?_)
            refine v_iaload h22 dX10_goods_106 ?_
            refine v_goto (tgt := 111) dX10_goods_107 (by decide) ?_
            exact v_ireturn dX10_goods_111 rfl rfl
        · refine v_iload dX10_goods_112 rfl ?_
          refine v_if_eq (tgt := 142) dX10_goods_114 (by decide) (fun c23 => ?_) (fun c23 => ?_)
          · refine v_iconst dX10_goods_142 (by decide) ?_
            exact v_ireturn dX10_goods_143 rfl rfl
          · refine v_iload dX10_goods_117 rfl ?_
            refine v_if_eq (tgt := 142) dX10_goods_119 (by decide) (fun c24 => ?_) (fun c24 => ?_)
            · refine v_iconst dX10_goods_142 (by decide) ?_
              exact v_ireturn dX10_goods_143 rfl rfl
            · refine v_aload_n dX10_goods_122 rfl ?_
              refine v_get (v := pA (r4.2.1 a0 3)) 9 3 rfl inX10 (by decide) tw424 dX10_goods_123 h8 rfl ?_
              refine v_get (v := pA (r4.2.1 (r4.2.1 a0 3) 4)) 8 4 rfl inX9 (by decide) tw328 dX10_goods_126 h9 rfl ?_
              refine v_iload dX10_goods_129 rfl ?_
              refine v_iload dX10_goods_131 rfl ?_
              refine v_iload dX10_goods_133 rfl ?_
              refine v_cS (mi := mX10_goods) (c0 := 0) (c1 := 0) (As := [pI a5, pI a6, pI a7]) (st := [pA (r4.2.1 (r4.2.1 a0 3) 4)]) (kX10_cell_ d (by omega) _ _ _ _) okX10_cell_ (Or.inl tw849) tw766 rfl (Nat.le_of_ble_eq_true rfl) dX10_goods_135 (fun r25 => [pI r25, pA (r4.2.1 (r4.2.1 a0 3) 4)]) (fun r25 => r4.2) (fun _ => rfl) (fun _ => rfl) (fun r25 h26 => ?_) rfl
              refine v_if (fun h27 => ?_)
              refine v_iaload h27 dX10_goods_138 ?_
              refine v_goto (tgt := 143) dX10_goods_139 (by decide) ?_
              exact v_ireturn dX10_goods_143 rfl rfl
