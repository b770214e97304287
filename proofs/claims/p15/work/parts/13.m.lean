theorem chX7_crewFor_0 : (cX7_crewFor.data.toList.drop 0).take 16 = [2, 61, 4, 62, 29, 4, 42, 180, 0, 43, 120, 162, 0, 48, 28, 2] := by decide +kernel
theorem chX7_crewFor_1 : (cX7_crewFor.data.toList.drop 16).take 16 = [159, 0, 14, 29, 184, 0, 72, 28, 184, 0, 72, 162, 0, 7, 4, 167] := by decide +kernel
theorem chX7_crewFor_2 : (cX7_crewFor.data.toList.drop 32).take 16 = [0, 4, 3, 54, 4, 21, 4, 153, 0, 14, 42, 29, 182, 0, 78, 27] := by decide +kernel
theorem chX7_crewFor_3 : (cX7_crewFor.data.toList.drop 48).take 16 = [161, 0, 5, 29, 61, 132, 3, 1, 167, 255, 204, 28, 172] := by decide +kernel
theorem dX7_crewFor_0 : decode cX7_crewFor 0 = .ok (.iconst (-1), 1) := oq_2 (byt chX7_crewFor_0 0 rfl)
theorem dX7_crewFor_1 : decode cX7_crewFor 1 = .ok (.istore_n 2, 1) := oq_61 (byt chX7_crewFor_0 1 rfl)
theorem dX7_crewFor_2 : decode cX7_crewFor 2 = .ok (.iconst 1, 1) := oq_4 (byt chX7_crewFor_0 2 rfl)
theorem dX7_crewFor_3 : decode cX7_crewFor 3 = .ok (.istore_n 3, 1) := oq_62 (byt chX7_crewFor_0 3 rfl)
theorem dX7_crewFor_4 : decode cX7_crewFor 4 = .ok (.iload_n 3, 1) := oq_29 (byt chX7_crewFor_0 4 rfl)
theorem dX7_crewFor_5 : decode cX7_crewFor 5 = .ok (.iconst 1, 1) := oq_4 (byt chX7_crewFor_0 5 rfl)
theorem dX7_crewFor_6 : decode cX7_crewFor 6 = .ok (.aload_n 0, 1) := oq_42 (byt chX7_crewFor_0 6 rfl)
theorem dX7_crewFor_7 : decode cX7_crewFor 7 = .ok (.getfield 43, 3) := oq_180 (byt chX7_crewFor_0 7 rfl) (byt chX7_crewFor_0 8 rfl) (byt chX7_crewFor_0 9 rfl) rfl
theorem dX7_crewFor_10 : decode cX7_crewFor 10 = .ok (.ishl, 1) := oq_120 (byt chX7_crewFor_0 10 rfl)
theorem dX7_crewFor_11 : decode cX7_crewFor 11 = .ok (.if_icmp .ge 48, 3) := oq_162 (byt chX7_crewFor_0 11 rfl) (byt chX7_crewFor_0 12 rfl) (byt chX7_crewFor_0 13 rfl) (by decide +kernel)
theorem dX7_crewFor_14 : decode cX7_crewFor 14 = .ok (.iload_n 2, 1) := oq_28 (byt chX7_crewFor_0 14 rfl)
theorem dX7_crewFor_15 : decode cX7_crewFor 15 = .ok (.iconst (-1), 1) := oq_2 (byt chX7_crewFor_0 15 rfl)
theorem dX7_crewFor_16 : decode cX7_crewFor 16 = .ok (.if_icmp .eq 14, 3) := oq_159 (byt chX7_crewFor_1 0 rfl) (byt chX7_crewFor_1 1 rfl) (byt chX7_crewFor_1 2 rfl) (by decide +kernel)
theorem dX7_crewFor_19 : decode cX7_crewFor 19 = .ok (.iload_n 3, 1) := oq_29 (byt chX7_crewFor_1 3 rfl)
theorem dX7_crewFor_20 : decode cX7_crewFor 20 = .ok (.invokestatic 72, 3) := oq_184 (byt chX7_crewFor_1 4 rfl) (byt chX7_crewFor_1 5 rfl) (byt chX7_crewFor_1 6 rfl) rfl
theorem dX7_crewFor_23 : decode cX7_crewFor 23 = .ok (.iload_n 2, 1) := oq_28 (byt chX7_crewFor_1 7 rfl)
theorem dX7_crewFor_24 : decode cX7_crewFor 24 = .ok (.invokestatic 72, 3) := oq_184 (byt chX7_crewFor_1 8 rfl) (byt chX7_crewFor_1 9 rfl) (byt chX7_crewFor_1 10 rfl) rfl
theorem dX7_crewFor_27 : decode cX7_crewFor 27 = .ok (.if_icmp .ge 7, 3) := oq_162 (byt chX7_crewFor_1 11 rfl) (byt chX7_crewFor_1 12 rfl) (byt chX7_crewFor_1 13 rfl) (by decide +kernel)
theorem dX7_crewFor_30 : decode cX7_crewFor 30 = .ok (.iconst 1, 1) := oq_4 (byt chX7_crewFor_1 14 rfl)
theorem dX7_crewFor_31 : decode cX7_crewFor 31 = .ok (.goto 4, 3) := oq_167 (byt chX7_crewFor_1 15 rfl) (byt chX7_crewFor_2 0 rfl) (byt chX7_crewFor_2 1 rfl) (by decide +kernel)
theorem dX7_crewFor_34 : decode cX7_crewFor 34 = .ok (.iconst 0, 1) := oq_3 (byt chX7_crewFor_2 2 rfl)
theorem dX7_crewFor_35 : decode cX7_crewFor 35 = .ok (.istore 4, 2) := oq_54 (byt chX7_crewFor_2 3 rfl) (byt chX7_crewFor_2 4 rfl) rfl
theorem dX7_crewFor_37 : decode cX7_crewFor 37 = .ok (.iload 4, 2) := oq_21 (byt chX7_crewFor_2 5 rfl) (byt chX7_crewFor_2 6 rfl) rfl
theorem dX7_crewFor_39 : decode cX7_crewFor 39 = .ok (.ifCond .eq 14, 3) := oq_153 (byt chX7_crewFor_2 7 rfl) (byt chX7_crewFor_2 8 rfl) (byt chX7_crewFor_2 9 rfl) (by decide +kernel)
theorem dX7_crewFor_42 : decode cX7_crewFor 42 = .ok (.aload_n 0, 1) := oq_42 (byt chX7_crewFor_2 10 rfl)
theorem dX7_crewFor_43 : decode cX7_crewFor 43 = .ok (.iload_n 3, 1) := oq_29 (byt chX7_crewFor_2 11 rfl)
theorem dX7_crewFor_44 : decode cX7_crewFor 44 = .ok (.invokevirtual 78, 3) := oq_182 (byt chX7_crewFor_2 12 rfl) (byt chX7_crewFor_2 13 rfl) (byt chX7_crewFor_2 14 rfl) rfl
theorem dX7_crewFor_47 : decode cX7_crewFor 47 = .ok (.iload_n 1, 1) := oq_27 (byt chX7_crewFor_2 15 rfl)
theorem dX7_crewFor_48 : decode cX7_crewFor 48 = .ok (.if_icmp .lt 5, 3) := oq_161 (byt chX7_crewFor_3 0 rfl) (byt chX7_crewFor_3 1 rfl) (byt chX7_crewFor_3 2 rfl) (by decide +kernel)
theorem dX7_crewFor_51 : decode cX7_crewFor 51 = .ok (.iload_n 3, 1) := oq_29 (byt chX7_crewFor_3 3 rfl)
theorem dX7_crewFor_52 : decode cX7_crewFor 52 = .ok (.istore_n 2, 1) := oq_61 (byt chX7_crewFor_3 4 rfl)
theorem dX7_crewFor_53 : decode cX7_crewFor 53 = .ok (.iinc 3 1, 3) := oq_132 (byt chX7_crewFor_3 5 rfl) (byt chX7_crewFor_3 6 rfl) (byt chX7_crewFor_3 7 rfl) rfl
theorem dX7_crewFor_56 : decode cX7_crewFor 56 = .ok (.goto (-52), 3) := oq_167 (byt chX7_crewFor_3 8 rfl) (byt chX7_crewFor_3 9 rfl) (byt chX7_crewFor_3 10 rfl) (by decide +kernel)
theorem dX7_crewFor_59 : decode cX7_crewFor 59 = .ok (.iload_n 2, 1) := oq_28 (byt chX7_crewFor_3 11 rfl)
theorem dX7_crewFor_60 : decode cX7_crewFor 60 = .ok (.ireturn, 1) := oq_172 (byt chX7_crewFor_3 12 rfl)
abbrev mX7_crewFor : MI := (yX7_crewFor, cX7_crewFor, 5, (some .int), noE)
theorem okX7_crewFor : cok mX7_crewFor 1 := ⟨tw1145, tw3, by decide, by decide, by decide, by decide +kernel⟩
def fX7_crewFor (M : Mem) (a0 a1 : Int) : Option Int :=
  iterC (fun (rec1 : (Int × Int) → Option Int) (s2 : Int × Int) => if M.2.1 a0 = 7 then if s2.2 < bShl 1 (M.1 a0 1) then (jn (fun (t6 : Int) => if t6 = 0 then (rec1 (s2.1, w32 (s2.2 + 1))) else ((fX7_limitOf M a0 s2.2).bind fun r8 => if r8 < a1 then (rec1 (s2.1, w32 (s2.2 + 1))) else (rec1 (s2.2, w32 (s2.2 + 1))))) (fun (j5 : Int → Option Int) => jn (fun (t12 : Unit) => j5 1) (fun (j11 : Unit → Option Int) => if s2.1 = (-1) then (j11 ()) else ((fJ6_bitCount_0f7a4 M s2.2).bind fun r14 => (fJ6_bitCount_0f7a4 M s2.1).bind fun r16 => if r14 < r16 then (j11 ()) else (j5 0))))) else (some s2.1) else none) BIG ((-1), 1)
set_option maxRecDepth 100000 in
set_option maxHeartbeats 4000000 in
theorem kX7_crewFor (d : Nat) (hd : 1 ≤ d) (M : Mem) (a0 a1 : Int) : Ct mX7_crewFor d 0 0 [pA a0, pI a1] M (dI M) (fX7_crewFor M a0 a1) := by
  obtain ⟨d, rfl⟩ : ∃ k, d = k + 1 := ⟨d - 1, by omega⟩
  refine Ct.of 3 (fun _ _ _ => trivial) (by decide +kernel) rfl ?_
  unfold fX7_crewFor
  refine v_iconst dX7_crewFor_0 (by decide) ?_
  refine v_istore_n (ls' := [some (pA a0), some (pI a1), some (pI (-1)), none, none]) dX7_crewFor_1 (by decide) rfl ?_
  refine v_iconst dX7_crewFor_2 (by decide) ?_
  refine v_istore_n (ls' := [some (pA a0), some (pI a1), some (pI (-1)), some (pI 1), none]) dX7_crewFor_3 (by decide) rfl ?_
  refine v_loop (fun (s2 : Int × Int) => [some (pA a0), some (pI a1), some (pI s2.1), some (pI s2.2), none]) (fun (s2 : Int × Int) => M) (s0 := ((-1), 1)) ?_
  intro rec1 hrec1 s2
  refine v_iload_n dX7_crewFor_4 rfl ?_
  refine v_iconst dX7_crewFor_5 (by decide) ?_
  refine v_aload_n dX7_crewFor_6 rfl ?_
  refine v_if (fun h3 => ?_)
  refine v_get (v := pI (M.1 a0 1)) 7 1 rfl inX7 (by decide) tw61 dX7_crewFor_7 h3 rfl ?_
  refine v_ishl dX7_crewFor_10 ?_
  refine v_icmp_ge (tgt := 59) dX7_crewFor_11 (by decide) (fun c4 => ?_) (fun c4 => ?_)
  · refine v_iload_n dX7_crewFor_14 rfl ?_
    refine v_iconst dX7_crewFor_15 (by decide) ?_
    refine v_join (fun (t6 : Int) => [some (pA a0), some (pI a1), some (pI s2.1), some (pI s2.2), none]) (fun (t6 : Int) => [pI t6]) (fun (t6 : Int) => M) 35 (fun t6 => ?_) (fun j5 hj5 => ?_)
    · refine v_istore (ls' := [some (pA a0), some (pI a1), some (pI s2.1), some (pI s2.2), some (pI t6)]) dX7_crewFor_35 (by decide) rfl ?_
      refine v_iload dX7_crewFor_37 rfl ?_
      refine v_if_eq (tgt := 53) dX7_crewFor_39 (by decide) (fun c7 => ?_) (fun c7 => ?_)
      · refine v_iinc (ls' := [some (pA a0), some (pI a1), some (pI s2.1), some (pI (w32 (s2.2 + 1))), some (pI t6)]) dX7_crewFor_53 (by decide) rfl rfl ?_
        refine v_goto (tgt := 4) dX7_crewFor_56 (by decide) ?_
        exact v_drop [some (pA a0), some (pI a1), some (pI s2.1), some (pI (w32 (s2.2 + 1))), none] (ls_s (ls_s (ls_s (ls_s (ls_n ls_e))))) (hrec1 (s2.1, w32 (s2.2 + 1)))
      · refine v_aload_n dX7_crewFor_42 rfl ?_
        refine v_iload_n dX7_crewFor_43 rfl ?_
        refine v_cV (mi := mX7_crewFor) (c0 := 0) (c1 := 0) (As := [pI s2.2]) (st := []) (kX7_limitOf d (by omega) _ _ _) rfl h3 rfl okX7_limitOf (Or.inl tw1152) tw1153 tw1154 rfl (Nat.le_of_ble_eq_true rfl) dX7_crewFor_44 (fun r8 => [pI r8]) (fun r8 => M) (fun _ => rfl) (fun _ => rfl) (fun r8 h9 => ?_) rfl
        refine v_iload_n dX7_crewFor_47 rfl ?_
        refine v_icmp_lt (tgt := 53) dX7_crewFor_48 (by decide) (fun c10 => ?_) (fun c10 => ?_)
        · refine v_iinc (ls' := [some (pA a0), some (pI a1), some (pI s2.1), some (pI (w32 (s2.2 + 1))), some (pI t6)]) dX7_crewFor_53 (by decide) rfl rfl ?_
          refine v_goto (tgt := 4) dX7_crewFor_56 (by decide) ?_
          exact v_drop [some (pA a0), some (pI a1), some (pI s2.1), some (pI (w32 (s2.2 + 1))), none] (ls_s (ls_s (ls_s (ls_s (ls_n ls_e))))) (hrec1 (s2.1, w32 (s2.2 + 1)))
        · refine v_iload_n dX7_crewFor_51 rfl ?_
          refine v_istore_n (ls' := [some (pA a0), some (pI a1), some (pI s2.2), some (pI s2.2), some (pI t6)]) dX7_crewFor_52 (by decide) rfl ?_
          refine v_iinc (ls' := [some (pA a0), some (pI a1), some (pI s2.2), some (pI (w32 (s2.2 + 1))), some (pI t6)]) dX7_crewFor_53 (by decide) rfl rfl ?_
          refine v_goto (tgt := 4) dX7_crewFor_56 (by decide) ?_
          exact v_drop [some (pA a0), some (pI a1), some (pI s2.2), some (pI (w32 (s2.2 + 1))), none] (ls_s (ls_s (ls_s (ls_s (ls_n ls_e))))) (hrec1 (s2.2, w32 (s2.2 + 1)))
    · refine v_join (fun (t12 : Unit) => [some (pA a0), some (pI a1), some (pI s2.1), some (pI s2.2), none]) (fun (t12 : Unit) => []) (fun (t12 : Unit) => M) 30 (fun t12 => ?_) (fun j11 hj11 => ?_)
      · refine v_iconst dX7_crewFor_30 (by decide) ?_
        refine v_goto (tgt := 35) dX7_crewFor_31 (by decide) ?_
        exact hj5 1
      · refine v_icmp_eq (tgt := 30) dX7_crewFor_16 (by decide) (fun c13 => ?_) (fun c13 => ?_)
        · exact hj11 ()
        · refine v_iload_n dX7_crewFor_19 rfl ?_
          refine v_cS (mi := mX7_crewFor) (c0 := 0) (c1 := 0) (As := [pI s2.2]) (st := []) (kJ6_bitCount_0f7a4 d (by omega) _ _) okJ6_bitCount_0f7a4 (Or.inl tw1146) tw1147 rfl (Nat.le_of_ble_eq_true rfl) dX7_crewFor_20 (fun r14 => [pI r14]) (fun r14 => M) (fun _ => rfl) (fun _ => rfl) (fun r14 h15 => ?_) rfl
          refine v_iload_n dX7_crewFor_23 rfl ?_
          refine v_cS (mi := mX7_crewFor) (c0 := 0) (c1 := 0) (As := [pI s2.1]) (st := [pI r14]) (kJ6_bitCount_0f7a4 d (by omega) _ _) okJ6_bitCount_0f7a4 (Or.inl tw1146) tw1147 rfl (Nat.le_of_ble_eq_true rfl) dX7_crewFor_24 (fun r16 => [pI r16, pI r14]) (fun r16 => M) (fun _ => rfl) (fun _ => rfl) (fun r16 h17 => ?_) rfl
          refine v_icmp_ge (tgt := 34) dX7_crewFor_27 (by decide) (fun c18 => ?_) (fun c18 => ?_)
          · exact hj11 ()
          · refine v_iconst dX7_crewFor_34 (by decide) ?_
            exact hj5 0
  · refine v_iload_n dX7_crewFor_59 rfl ?_
    exact v_ireturn dX7_crewFor_60 rfl rfl
theorem chX7_helps_0 : (cX7_helps.data.toList.drop 0).take 16 = [3, 62, 29, 8, 162, 0, 29, 42, 27, 29, 182, 0, 63, 158, 0, 14] := by decide +kernel
theorem chX7_helps_1 : (cX7_helps.data.toList.drop 16).take 16 = [42, 28, 29, 182, 0, 66, 158, 0, 5, 4, 172, 132, 3, 1, 167, 255] := by decide +kernel
theorem chX7_helps_2 : (cX7_helps.data.toList.drop 32).take 16 = [228, 3, 172] := by decide +kernel
theorem dX7_helps_0 : decode cX7_helps 0 = .ok (.iconst 0, 1) := oq_3 (byt chX7_helps_0 0 rfl)
theorem dX7_helps_1 : decode cX7_helps 1 = .ok (.istore_n 3, 1) := oq_62 (byt chX7_helps_0 1 rfl)
theorem dX7_helps_2 : decode cX7_helps 2 = .ok (.iload_n 3, 1) := oq_29 (byt chX7_helps_0 2 rfl)
theorem dX7_helps_3 : decode cX7_helps 3 = .ok (.iconst 5, 1) := oq_8 (byt chX7_helps_0 3 rfl)
theorem dX7_helps_4 : decode cX7_helps 4 = .ok (.if_icmp .ge 29, 3) := oq_162 (byt chX7_helps_0 4 rfl) (byt chX7_helps_0 5 rfl) (byt chX7_helps_0 6 rfl) (by decide +kernel)
theorem dX7_helps_7 : decode cX7_helps 7 = .ok (.aload_n 0, 1) := oq_42 (byt chX7_helps_0 7 rfl)
theorem dX7_helps_8 : decode cX7_helps 8 = .ok (.iload_n 1, 1) := oq_27 (byt chX7_helps_0 8 rfl)
theorem dX7_helps_9 : decode cX7_helps 9 = .ok (.iload_n 3, 1) := oq_29 (byt chX7_helps_0 9 rfl)
theorem dX7_helps_10 : decode cX7_helps 10 = .ok (.invokevirtual 63, 3) := oq_182 (byt chX7_helps_0 10 rfl) (byt chX7_helps_0 11 rfl) (byt chX7_helps_0 12 rfl) rfl
theorem dX7_helps_13 : decode cX7_helps 13 = .ok (.ifCond .le 14, 3) := oq_158 (byt chX7_helps_0 13 rfl) (byt chX7_helps_0 14 rfl) (byt chX7_helps_0 15 rfl) (by decide +kernel)
theorem dX7_helps_16 : decode cX7_helps 16 = .ok (.aload_n 0, 1) := oq_42 (byt chX7_helps_1 0 rfl)
theorem dX7_helps_17 : decode cX7_helps 17 = .ok (.iload_n 2, 1) := oq_28 (byt chX7_helps_1 1 rfl)
theorem dX7_helps_18 : decode cX7_helps 18 = .ok (.iload_n 3, 1) := oq_29 (byt chX7_helps_1 2 rfl)
theorem dX7_helps_19 : decode cX7_helps 19 = .ok (.invokevirtual 66, 3) := oq_182 (byt chX7_helps_1 3 rfl) (byt chX7_helps_1 4 rfl) (byt chX7_helps_1 5 rfl) rfl
theorem dX7_helps_22 : decode cX7_helps 22 = .ok (.ifCond .le 5, 3) := oq_158 (byt chX7_helps_1 6 rfl) (byt chX7_helps_1 7 rfl) (byt chX7_helps_1 8 rfl) (by decide +kernel)
theorem dX7_helps_25 : decode cX7_helps 25 = .ok (.iconst 1, 1) := oq_4 (byt chX7_helps_1 9 rfl)
theorem dX7_helps_26 : decode cX7_helps 26 = .ok (.ireturn, 1) := oq_172 (byt chX7_helps_1 10 rfl)
theorem dX7_helps_27 : decode cX7_helps 27 = .ok (.iinc 3 1, 3) := oq_132 (byt chX7_helps_1 11 rfl) (byt chX7_helps_1 12 rfl) (byt chX7_helps_1 13 rfl) rfl
theorem dX7_helps_30 : decode cX7_helps 30 = .ok (.goto (-28), 3) := oq_167 (byt chX7_helps_1 14 rfl) (byt chX7_helps_1 15 rfl) (byt chX7_helps_2 0 rfl) (by decide +kernel)
theorem dX7_helps_33 : decode cX7_helps 33 = .ok (.iconst 0, 1) := oq_3 (byt chX7_helps_2 1 rfl)
theorem dX7_helps_34 : decode cX7_helps 34 = .ok (.ireturn, 1) := oq_172 (byt chX7_helps_2 2 rfl)
abbrev mX7_helps : MI := (yX7_helps, cX7_helps, 4, (some .boolean), noE)
theorem okX7_helps : cok mX7_helps 2 := ⟨tw1168, tw3, by decide, by decide, by decide, by decide +kernel⟩
def fX7_helps (M : Mem) (a0 a1 a2 : Int) : Option Int :=
  iterC (fun (rec1 : Int → Option Int) (s2 : Int) => if s2 < 5 then (if M.2.1 a0 = 7 then (fX7_spareOf M a0 a1 s2).bind fun r4 => if 0 < r4 then ((fX7_lackOf M a0 a2 s2).bind fun r8 => if 0 < r8 then (some 1) else (rec1 (w32 (s2 + 1)))) else (rec1 (w32 (s2 + 1))) else none) else (some 0)) BIG 0
set_option maxRecDepth 100000 in
set_option maxHeartbeats 4000000 in
theorem kX7_helps (d : Nat) (hd : 2 ≤ d) (M : Mem) (a0 a1 a2 : Int) : Ct mX7_helps d 0 0 [pA a0, pI a1, pI a2] M (dI M) (fX7_helps M a0 a1 a2) := by
  obtain ⟨d, rfl⟩ : ∃ k, d = k + 1 := ⟨d - 1, by omega⟩
  refine Ct.of 1 (fun _ _ _ => trivial) (by decide +kernel) rfl ?_
  unfold fX7_helps
  refine v_iconst dX7_helps_0 (by decide) ?_
  refine v_istore_n (ls' := [some (pA a0), some (pI a1), some (pI a2), some (pI 0)]) dX7_helps_1 (by decide) rfl ?_
  refine v_loop (fun (s2 : Int) => [some (pA a0), some (pI a1), some (pI a2), some (pI s2)]) (fun (s2 : Int) => M) (s0 := 0) ?_
  intro rec1 hrec1 s2
  refine v_iload_n dX7_helps_2 rfl ?_
  refine v_iconst dX7_helps_3 (by decide) ?_
  refine v_icmp_ge (tgt := 33) dX7_helps_4 (by decide) (fun c3 => ?_) (fun c3 => ?_)
  · refine v_aload_n dX7_helps_7 rfl ?_
    refine v_iload_n dX7_helps_8 rfl ?_
    refine v_iload_n dX7_helps_9 rfl ?_
    refine v_if (fun h6 => ?_)
    refine v_cV (mi := mX7_helps) (c0 := 0) (c1 := 0) (As := [pI a1, pI s2]) (st := []) (kX7_spareOf d (by omega) _ _ _ _) rfl h6 rfl okX7_spareOf (Or.inl tw864) tw701 tw702 rfl (Nat.le_of_ble_eq_true rfl) dX7_helps_10 (fun r4 => [pI r4]) (fun r4 => M) (fun _ => rfl) (fun _ => rfl) (fun r4 h5 => ?_) rfl
    refine v_if_le (tgt := 27) dX7_helps_13 (by decide) (fun c7 => ?_) (fun c7 => ?_)
    · refine v_aload_n dX7_helps_16 rfl ?_
      refine v_iload_n dX7_helps_17 rfl ?_
      refine v_iload_n dX7_helps_18 rfl ?_
      refine v_cV (mi := mX7_helps) (c0 := 0) (c1 := 0) (As := [pI a2, pI s2]) (st := []) (kX7_lackOf d (by omega) _ _ _ _) rfl h6 rfl okX7_lackOf (Or.inl tw869) tw707 tw708 rfl (Nat.le_of_ble_eq_true rfl) dX7_helps_19 (fun r8 => [pI r8]) (fun r8 => M) (fun _ => rfl) (fun _ => rfl) (fun r8 h9 => ?_) rfl
      refine v_if_le (tgt := 27) dX7_helps_22 (by decide) (fun c10 => ?_) (fun c10 => ?_)
      · refine v_iconst dX7_helps_25 (by decide) ?_
        exact v_breturn dX7_helps_26 rfl (by decide) rfl
      · refine v_iinc (ls' := [some (pA a0), some (pI a1), some (pI a2), some (pI (w32 (s2 + 1)))]) dX7_helps_27 (by decide) rfl rfl ?_
        refine v_goto (tgt := 2) dX7_helps_30 (by decide) ?_
        exact hrec1 (w32 (s2 + 1))
    · refine v_iinc (ls' := [some (pA a0), some (pI a1), some (pI a2), some (pI (w32 (s2 + 1)))]) dX7_helps_27 (by decide) rfl rfl ?_
      refine v_goto (tgt := 2) dX7_helps_30 (by decide) ?_
      exact hrec1 (w32 (s2 + 1))
  · refine v_iconst dX7_helps_33 (by decide) ?_
    exact v_breturn dX7_helps_34 rfl (by decide) rfl
theorem chX7_pairAt_0 : (cX7_pairAt.data.toList.drop 0).take 16 = [3, 61, 3, 62, 29, 42, 180, 0, 39, 162, 0, 65, 29, 4, 96, 54] := by decide +kernel
theorem chX7_pairAt_1 : (cX7_pairAt.data.toList.drop 16).take 16 = [4, 21, 4, 42, 180, 0, 39, 162, 0, 45, 42, 29, 21, 4, 182, 0] := by decide +kernel
theorem chX7_pairAt_2 : (cX7_pairAt.data.toList.drop 32).take 16 = [81, 153, 0, 29, 42, 21, 4, 29, 182, 0, 81, 153, 0, 19, 28, 27] := by decide +kernel
theorem chX7_pairAt_3 : (cX7_pairAt.data.toList.drop 48).take 16 = [160, 0, 11, 16, 6, 29, 104, 21, 4, 96, 172, 132, 2, 1, 132, 4] := by decide +kernel
theorem chX7_pairAt_4 : (cX7_pairAt.data.toList.drop 64).take 16 = [1, 167, 255, 208, 132, 3, 1, 167, 255, 189, 27, 2, 160, 0, 7, 28] := by decide +kernel
theorem chX7_pairAt_5 : (cX7_pairAt.data.toList.drop 80).take 16 = [167, 0, 4, 2, 172] := by decide +kernel
theorem dX7_pairAt_0 : decode cX7_pairAt 0 = .ok (.iconst 0, 1) := oq_3 (byt chX7_pairAt_0 0 rfl)
theorem dX7_pairAt_1 : decode cX7_pairAt 1 = .ok (.istore_n 2, 1) := oq_61 (byt chX7_pairAt_0 1 rfl)
theorem dX7_pairAt_2 : decode cX7_pairAt 2 = .ok (.iconst 0, 1) := oq_3 (byt chX7_pairAt_0 2 rfl)
theorem dX7_pairAt_3 : decode cX7_pairAt 3 = .ok (.istore_n 3, 1) := oq_62 (byt chX7_pairAt_0 3 rfl)
theorem dX7_pairAt_4 : decode cX7_pairAt 4 = .ok (.iload_n 3, 1) := oq_29 (byt chX7_pairAt_0 4 rfl)
theorem dX7_pairAt_5 : decode cX7_pairAt 5 = .ok (.aload_n 0, 1) := oq_42 (byt chX7_pairAt_0 5 rfl)
theorem dX7_pairAt_6 : decode cX7_pairAt 6 = .ok (.getfield 39, 3) := oq_180 (byt chX7_pairAt_0 6 rfl) (byt chX7_pairAt_0 7 rfl) (byt chX7_pairAt_0 8 rfl) rfl
theorem dX7_pairAt_9 : decode cX7_pairAt 9 = .ok (.if_icmp .ge 65, 3) := oq_162 (byt chX7_pairAt_0 9 rfl) (byt chX7_pairAt_0 10 rfl) (byt chX7_pairAt_0 11 rfl) (by decide +kernel)
theorem dX7_pairAt_12 : decode cX7_pairAt 12 = .ok (.iload_n 3, 1) := oq_29 (byt chX7_pairAt_0 12 rfl)
theorem dX7_pairAt_13 : decode cX7_pairAt 13 = .ok (.iconst 1, 1) := oq_4 (byt chX7_pairAt_0 13 rfl)
theorem dX7_pairAt_14 : decode cX7_pairAt 14 = .ok (.iadd, 1) := oq_96 (byt chX7_pairAt_0 14 rfl)
theorem dX7_pairAt_15 : decode cX7_pairAt 15 = .ok (.istore 4, 2) := oq_54 (byt chX7_pairAt_0 15 rfl) (byt chX7_pairAt_1 0 rfl) rfl
theorem dX7_pairAt_17 : decode cX7_pairAt 17 = .ok (.iload 4, 2) := oq_21 (byt chX7_pairAt_1 1 rfl) (byt chX7_pairAt_1 2 rfl) rfl
theorem dX7_pairAt_19 : decode cX7_pairAt 19 = .ok (.aload_n 0, 1) := oq_42 (byt chX7_pairAt_1 3 rfl)
theorem dX7_pairAt_20 : decode cX7_pairAt 20 = .ok (.getfield 39, 3) := oq_180 (byt chX7_pairAt_1 4 rfl) (byt chX7_pairAt_1 5 rfl) (byt chX7_pairAt_1 6 rfl) rfl
theorem dX7_pairAt_23 : decode cX7_pairAt 23 = .ok (.if_icmp .ge 45, 3) := oq_162 (byt chX7_pairAt_1 7 rfl) (byt chX7_pairAt_1 8 rfl) (byt chX7_pairAt_1 9 rfl) (by decide +kernel)
theorem dX7_pairAt_26 : decode cX7_pairAt 26 = .ok (.aload_n 0, 1) := oq_42 (byt chX7_pairAt_1 10 rfl)
theorem dX7_pairAt_27 : decode cX7_pairAt 27 = .ok (.iload_n 3, 1) := oq_29 (byt chX7_pairAt_1 11 rfl)
theorem dX7_pairAt_28 : decode cX7_pairAt 28 = .ok (.iload 4, 2) := oq_21 (byt chX7_pairAt_1 12 rfl) (byt chX7_pairAt_1 13 rfl) rfl
theorem dX7_pairAt_30 : decode cX7_pairAt 30 = .ok (.invokevirtual 81, 3) := oq_182 (byt chX7_pairAt_1 14 rfl) (byt chX7_pairAt_1 15 rfl) (byt chX7_pairAt_2 0 rfl) rfl
theorem dX7_pairAt_33 : decode cX7_pairAt 33 = .ok (.ifCond .eq 29, 3) := oq_153 (byt chX7_pairAt_2 1 rfl) (byt chX7_pairAt_2 2 rfl) (byt chX7_pairAt_2 3 rfl) (by decide +kernel)
theorem dX7_pairAt_36 : decode cX7_pairAt 36 = .ok (.aload_n 0, 1) := oq_42 (byt chX7_pairAt_2 4 rfl)
theorem dX7_pairAt_37 : decode cX7_pairAt 37 = .ok (.iload 4, 2) := oq_21 (byt chX7_pairAt_2 5 rfl) (byt chX7_pairAt_2 6 rfl) rfl
theorem dX7_pairAt_39 : decode cX7_pairAt 39 = .ok (.iload_n 3, 1) := oq_29 (byt chX7_pairAt_2 7 rfl)
theorem dX7_pairAt_40 : decode cX7_pairAt 40 = .ok (.invokevirtual 81, 3) := oq_182 (byt chX7_pairAt_2 8 rfl) (byt chX7_pairAt_2 9 rfl) (byt chX7_pairAt_2 10 rfl) rfl
theorem dX7_pairAt_43 : decode cX7_pairAt 43 = .ok (.ifCond .eq 19, 3) := oq_153 (byt chX7_pairAt_2 11 rfl) (byt chX7_pairAt_2 12 rfl) (byt chX7_pairAt_2 13 rfl) (by decide +kernel)
theorem dX7_pairAt_46 : decode cX7_pairAt 46 = .ok (.iload_n 2, 1) := oq_28 (byt chX7_pairAt_2 14 rfl)
theorem dX7_pairAt_47 : decode cX7_pairAt 47 = .ok (.iload_n 1, 1) := oq_27 (byt chX7_pairAt_2 15 rfl)
theorem dX7_pairAt_48 : decode cX7_pairAt 48 = .ok (.if_icmp .ne 11, 3) := oq_160 (byt chX7_pairAt_3 0 rfl) (byt chX7_pairAt_3 1 rfl) (byt chX7_pairAt_3 2 rfl) (by decide +kernel)
theorem dX7_pairAt_51 : decode cX7_pairAt 51 = .ok (.bipush 6, 2) := oq_16 (byt chX7_pairAt_3 3 rfl) (byt chX7_pairAt_3 4 rfl) rfl
theorem dX7_pairAt_53 : decode cX7_pairAt 53 = .ok (.iload_n 3, 1) := oq_29 (byt chX7_pairAt_3 5 rfl)
theorem dX7_pairAt_54 : decode cX7_pairAt 54 = .ok (.imul, 1) := oq_104 (byt chX7_pairAt_3 6 rfl)
theorem dX7_pairAt_55 : decode cX7_pairAt 55 = .ok (.iload 4, 2) := oq_21 (byt chX7_pairAt_3 7 rfl) (byt chX7_pairAt_3 8 rfl) rfl
theorem dX7_pairAt_57 : decode cX7_pairAt 57 = .ok (.iadd, 1) := oq_96 (byt chX7_pairAt_3 9 rfl)
theorem dX7_pairAt_58 : decode cX7_pairAt 58 = .ok (.ireturn, 1) := oq_172 (byt chX7_pairAt_3 10 rfl)
theorem dX7_pairAt_59 : decode cX7_pairAt 59 = .ok (.iinc 2 1, 3) := oq_132 (byt chX7_pairAt_3 11 rfl) (byt chX7_pairAt_3 12 rfl) (byt chX7_pairAt_3 13 rfl) rfl
theorem dX7_pairAt_62 : decode cX7_pairAt 62 = .ok (.iinc 4 1, 3) := oq_132 (byt chX7_pairAt_3 14 rfl) (byt chX7_pairAt_3 15 rfl) (byt chX7_pairAt_4 0 rfl) rfl
theorem dX7_pairAt_65 : decode cX7_pairAt 65 = .ok (.goto (-48), 3) := oq_167 (byt chX7_pairAt_4 1 rfl) (byt chX7_pairAt_4 2 rfl) (byt chX7_pairAt_4 3 rfl) (by decide +kernel)
theorem dX7_pairAt_68 : decode cX7_pairAt 68 = .ok (.iinc 3 1, 3) := oq_132 (byt chX7_pairAt_4 4 rfl) (byt chX7_pairAt_4 5 rfl) (byt chX7_pairAt_4 6 rfl) rfl
theorem dX7_pairAt_71 : decode cX7_pairAt 71 = .ok (.goto (-67), 3) := oq_167 (byt chX7_pairAt_4 7 rfl) (byt chX7_pairAt_4 8 rfl) (byt chX7_pairAt_4 9 rfl) (by decide +kernel)
theorem dX7_pairAt_74 : decode cX7_pairAt 74 = .ok (.iload_n 1, 1) := oq_27 (byt chX7_pairAt_4 10 rfl)
theorem dX7_pairAt_75 : decode cX7_pairAt 75 = .ok (.iconst (-1), 1) := oq_2 (byt chX7_pairAt_4 11 rfl)
theorem dX7_pairAt_76 : decode cX7_pairAt 76 = .ok (.if_icmp .ne 7, 3) := oq_160 (byt chX7_pairAt_4 12 rfl) (byt chX7_pairAt_4 13 rfl) (byt chX7_pairAt_4 14 rfl) (by decide +kernel)
theorem dX7_pairAt_79 : decode cX7_pairAt 79 = .ok (.iload_n 2, 1) := oq_28 (byt chX7_pairAt_4 15 rfl)
theorem dX7_pairAt_80 : decode cX7_pairAt 80 = .ok (.goto 4, 3) := oq_167 (byt chX7_pairAt_5 0 rfl) (byt chX7_pairAt_5 1 rfl) (byt chX7_pairAt_5 2 rfl) (by decide +kernel)
theorem dX7_pairAt_83 : decode cX7_pairAt 83 = .ok (.iconst (-1), 1) := oq_2 (byt chX7_pairAt_5 3 rfl)
theorem dX7_pairAt_84 : decode cX7_pairAt 84 = .ok (.ireturn, 1) := oq_172 (byt chX7_pairAt_5 4 rfl)
abbrev mX7_pairAt : MI := (yX7_pairAt, cX7_pairAt, 5, (some .int), noE)
theorem okX7_pairAt : cok mX7_pairAt 1 := ⟨tw1164, tw3, by decide, by decide, by decide, by decide +kernel⟩
def fX7_pairAt (M : Mem) (a0 a1 : Int) : Option Int :=
  iterC (fun (rec1 : (Int × Int) → Option Int) (s2 : Int × Int) => if M.2.1 a0 = 7 then if s2.2 < M.1 a0 0 then (iterC (fun (rec5 : (Int × Int) → Option Int) (s6 : Int × Int) => if s6.2 < M.1 a0 0 then ((fX7_helps M a0 s2.2 s6.2).bind fun r8 => if r8 = 0 then (rec5 (s6.1, w32 (s6.2 + 1))) else ((fX7_helps M a0 s6.2 s2.2).bind fun r11 => if r11 = 0 then (rec5 (s6.1, w32 (s6.2 + 1))) else (if s6.1 = a1 then (some (w32 ((w32 (6 * s2.2)) + s6.2))) else (rec5 (w32 (s6.1 + 1), w32 (s6.2 + 1)))))) else (rec1 (s6.1, w32 (s2.2 + 1)))) BIG (s2.1, w32 (s2.2 + 1))) else (if a1 = (-1) then (some s2.1) else (some (-1))) else none) BIG (0, 0)
set_option maxRecDepth 100000 in
set_option maxHeartbeats 4000000 in
theorem kX7_pairAt (d : Nat) (hd : 3 ≤ d) (M : Mem) (a0 a1 : Int) : Ct mX7_pairAt d 0 0 [pA a0, pI a1] M (dI M) (fX7_pairAt M a0 a1) := by
  obtain ⟨d, rfl⟩ : ∃ k, d = k + 1 := ⟨d - 1, by omega⟩
  refine Ct.of 3 (fun _ _ _ => trivial) (by decide +kernel) rfl ?_
  unfold fX7_pairAt
  refine v_iconst dX7_pairAt_0 (by decide) ?_
  refine v_istore_n (ls' := [some (pA a0), some (pI a1), some (pI 0), none, none]) dX7_pairAt_1 (by decide) rfl ?_
  refine v_iconst dX7_pairAt_2 (by decide) ?_
  refine v_istore_n (ls' := [some (pA a0), some (pI a1), some (pI 0), some (pI 0), none]) dX7_pairAt_3 (by decide) rfl ?_
  refine v_loop (fun (s2 : Int × Int) => [some (pA a0), some (pI a1), some (pI s2.1), some (pI s2.2), none]) (fun (s2 : Int × Int) => M) (s0 := (0, 0)) ?_
  intro rec1 hrec1 s2
  refine v_iload_n dX7_pairAt_4 rfl ?_
  refine v_aload_n dX7_pairAt_5 rfl ?_
  refine v_if (fun h3 => ?_)
  refine v_get (v := pI (M.1 a0 0)) 7 0 rfl inX7 (by decide) tw54 dX7_pairAt_6 h3 rfl ?_
  refine v_icmp_ge (tgt := 74) dX7_pairAt_9 (by decide) (fun c4 => ?_) (fun c4 => ?_)
  · refine v_iload_n dX7_pairAt_12 rfl ?_
    refine v_iconst dX7_pairAt_13 (by decide) ?_
    refine v_iadd dX7_pairAt_14 ?_
    refine v_istore (ls' := [some (pA a0), some (pI a1), some (pI s2.1), some (pI s2.2), some (pI (w32 (s2.2 + 1)))]) dX7_pairAt_15 (by decide) rfl ?_
    refine v_loop (fun (s6 : Int × Int) => [some (pA a0), some (pI a1), some (pI s6.1), some (pI s2.2), some (pI s6.2)]) (fun (s6 : Int × Int) => M) (s0 := (s2.1, w32 (s2.2 + 1))) ?_
    intro rec5 hrec5 s6
    refine v_iload dX7_pairAt_17 rfl ?_
    refine v_aload_n dX7_pairAt_19 rfl ?_
    refine v_get (v := pI (M.1 a0 0)) 7 0 rfl inX7 (by decide) tw54 dX7_pairAt_20 h3 rfl ?_
    refine v_icmp_ge (tgt := 68) dX7_pairAt_23 (by decide) (fun c7 => ?_) (fun c7 => ?_)
    · refine v_aload_n dX7_pairAt_26 rfl ?_
      refine v_iload_n dX7_pairAt_27 rfl ?_
      refine v_iload dX7_pairAt_28 rfl ?_
      refine v_cV (mi := mX7_pairAt) (c0 := 0) (c1 := 0) (As := [pI s2.2, pI s6.2]) (st := []) (kX7_helps d (by omega) _ _ _ _) rfl h3 rfl okX7_helps (Or.inl tw1165) tw1166 tw1167 rfl (Nat.le_of_ble_eq_true rfl) dX7_pairAt_30 (fun r8 => [pI r8]) (fun r8 => M) (fun _ => rfl) (fun _ => rfl) (fun r8 h9 => ?_) rfl
      refine v_if_eq (tgt := 62) dX7_pairAt_33 (by decide) (fun c10 => ?_) (fun c10 => ?_)
      · refine v_iinc (ls' := [some (pA a0), some (pI a1), some (pI s6.1), some (pI s2.2), some (pI (w32 (s6.2 + 1)))]) dX7_pairAt_62 (by decide) rfl rfl ?_
        refine v_goto (tgt := 17) dX7_pairAt_65 (by decide) ?_
        exact hrec5 (s6.1, w32 (s6.2 + 1))
      · refine v_aload_n dX7_pairAt_36 rfl ?_
        refine v_iload dX7_pairAt_37 rfl ?_
        refine v_iload_n dX7_pairAt_39 rfl ?_
        refine v_cV (mi := mX7_pairAt) (c0 := 0) (c1 := 0) (As := [pI s6.2, pI s2.2]) (st := []) (kX7_helps d (by omega) _ _ _ _) rfl h3 rfl okX7_helps (Or.inl tw1165) tw1166 tw1167 rfl (Nat.le_of_ble_eq_true rfl) dX7_pairAt_40 (fun r11 => [pI r11]) (fun r11 => M) (fun _ => rfl) (fun _ => rfl) (fun r11 h12 => ?_) rfl
        refine v_if_eq (tgt := 62) dX7_pairAt_43 (by decide) (fun c13 => ?_) (fun c13 => ?_)
        · refine v_iinc (ls' := [some (pA a0), some (pI a1), some (pI s6.1), some (pI s2.2), some (pI (w32 (s6.2 + 1)))]) dX7_pairAt_62 (by decide) rfl rfl ?_
          refine v_goto (tgt := 17) dX7_pairAt_65 (by decide) ?_
          exact hrec5 (s6.1, w32 (s6.2 + 1))
        · refine v_iload_n dX7_pairAt_46 rfl ?_
          refine v_iload_n dX7_pairAt_47 rfl ?_
          refine v_icmp_ne (tgt := 59) dX7_pairAt_48 (by decide) (fun c14 => ?_) (fun c14 => ?_)
          · refine v_bipush dX7_pairAt_51 (by decide) ?_
            refine v_iload_n dX7_pairAt_53 rfl ?_
            refine v_imul dX7_pairAt_54 ?_
            refine v_iload dX7_pairAt_55 rfl ?_
            refine v_iadd dX7_pairAt_57 ?_
            exact v_ireturn dX7_pairAt_58 rfl rfl
          · refine v_iinc (ls' := [some (pA a0), some (pI a1), some (pI (w32 (s6.1 + 1))), some (pI s2.2), some (pI s6.2)]) dX7_pairAt_59 (by decide) rfl rfl ?_
            refine v_iinc (ls' := [some (pA a0), some (pI a1), some (pI (w32 (s6.1 + 1))), some (pI s2.2), some (pI (w32 (s6.2 + 1)))]) dX7_pairAt_62 (by decide) rfl rfl ?_
            refine v_goto (tgt := 17) dX7_pairAt_65 (by decide) ?_
            exact hrec5 (w32 (s6.1 + 1), w32 (s6.2 + 1))
    · refine v_iinc (ls' := [some (pA a0), some (pI a1), some (pI s6.1), some (pI (w32 (s2.2 + 1))), some (pI s6.2)]) dX7_pairAt_68 (by decide) rfl rfl ?_
      refine v_goto (tgt := 4) dX7_pairAt_71 (by decide) ?_
      exact v_drop [some (pA a0), some (pI a1), some (pI s6.1), some (pI (w32 (s2.2 + 1))), none] (ls_s (ls_s (ls_s (ls_s (ls_n ls_e))))) (hrec1 (s6.1, w32 (s2.2 + 1)))
  · refine v_iload_n dX7_pairAt_74 rfl ?_
    refine v_iconst dX7_pairAt_75 (by decide) ?_
    refine v_icmp_ne (tgt := 83) dX7_pairAt_76 (by decide) (fun c15 => ?_) (fun c15 => ?_)
    · refine v_iload_n dX7_pairAt_79 rfl ?_
      refine v_goto (tgt := 84) dX7_pairAt_80 (by decide) ?_
      exact v_ireturn dX7_pairAt_84 rfl rfl
    · refine v_iconst dX7_pairAt_83 (by decide) ?_
      exact v_ireturn dX7_pairAt_84 rfl rfl
theorem chX7_homeAgain_0 : (cX7_homeAgain.data.toList.drop 0).take 16 = [27, 61, 4, 62, 29, 16, 6, 163, 0, 23, 42, 180, 0, 21, 28, 46] := by decide +kernel
theorem chX7_homeAgain_1 : (cX7_homeAgain.data.toList.drop 16).take 16 = [61, 28, 27, 160, 0, 5, 29, 172, 132, 3, 1, 167, 255, 233, 2, 172] := by decide +kernel
theorem dX7_homeAgain_0 : decode cX7_homeAgain 0 = .ok (.iload_n 1, 1) := oq_27 (byt chX7_homeAgain_0 0 rfl)
theorem dX7_homeAgain_1 : decode cX7_homeAgain 1 = .ok (.istore_n 2, 1) := oq_61 (byt chX7_homeAgain_0 1 rfl)
theorem dX7_homeAgain_2 : decode cX7_homeAgain 2 = .ok (.iconst 1, 1) := oq_4 (byt chX7_homeAgain_0 2 rfl)
theorem dX7_homeAgain_3 : decode cX7_homeAgain 3 = .ok (.istore_n 3, 1) := oq_62 (byt chX7_homeAgain_0 3 rfl)
theorem dX7_homeAgain_4 : decode cX7_homeAgain 4 = .ok (.iload_n 3, 1) := oq_29 (byt chX7_homeAgain_0 4 rfl)
theorem dX7_homeAgain_5 : decode cX7_homeAgain 5 = .ok (.bipush 6, 2) := oq_16 (byt chX7_homeAgain_0 5 rfl) (byt chX7_homeAgain_0 6 rfl) rfl
theorem dX7_homeAgain_7 : decode cX7_homeAgain 7 = .ok (.if_icmp .gt 23, 3) := oq_163 (byt chX7_homeAgain_0 7 rfl) (byt chX7_homeAgain_0 8 rfl) (byt chX7_homeAgain_0 9 rfl) (by decide +kernel)
theorem dX7_homeAgain_10 : decode cX7_homeAgain 10 = .ok (.aload_n 0, 1) := oq_42 (byt chX7_homeAgain_0 10 rfl)
theorem dX7_homeAgain_11 : decode cX7_homeAgain 11 = .ok (.getfield 21, 3) := oq_180 (byt chX7_homeAgain_0 11 rfl) (byt chX7_homeAgain_0 12 rfl) (byt chX7_homeAgain_0 13 rfl) rfl
theorem dX7_homeAgain_14 : decode cX7_homeAgain 14 = .ok (.iload_n 2, 1) := oq_28 (byt chX7_homeAgain_0 14 rfl)
theorem dX7_homeAgain_15 : decode cX7_homeAgain 15 = .ok (.iaload, 1) := oq_46 (byt chX7_homeAgain_0 15 rfl)
theorem dX7_homeAgain_16 : decode cX7_homeAgain 16 = .ok (.istore_n 2, 1) := oq_61 (byt chX7_homeAgain_1 0 rfl)
theorem dX7_homeAgain_17 : decode cX7_homeAgain 17 = .ok (.iload_n 2, 1) := oq_28 (byt chX7_homeAgain_1 1 rfl)
theorem dX7_homeAgain_18 : decode cX7_homeAgain 18 = .ok (.iload_n 1, 1) := oq_27 (byt chX7_homeAgain_1 2 rfl)
theorem dX7_homeAgain_19 : decode cX7_homeAgain 19 = .ok (.if_icmp .ne 5, 3) := oq_160 (byt chX7_homeAgain_1 3 rfl) (byt chX7_homeAgain_1 4 rfl) (byt chX7_homeAgain_1 5 rfl) (by decide +kernel)
theorem dX7_homeAgain_22 : decode cX7_homeAgain 22 = .ok (.iload_n 3, 1) := oq_29 (byt chX7_homeAgain_1 6 rfl)
theorem dX7_homeAgain_23 : decode cX7_homeAgain 23 = .ok (.ireturn, 1) := oq_172 (byt chX7_homeAgain_1 7 rfl)
theorem dX7_homeAgain_24 : decode cX7_homeAgain 24 = .ok (.iinc 3 1, 3) := oq_132 (byt chX7_homeAgain_1 8 rfl) (byt chX7_homeAgain_1 9 rfl) (byt chX7_homeAgain_1 10 rfl) rfl
theorem dX7_homeAgain_27 : decode cX7_homeAgain 27 = .ok (.goto (-23), 3) := oq_167 (byt chX7_homeAgain_1 11 rfl) (byt chX7_homeAgain_1 12 rfl) (byt chX7_homeAgain_1 13 rfl) (by decide +kernel)
theorem dX7_homeAgain_30 : decode cX7_homeAgain 30 = .ok (.iconst (-1), 1) := oq_2 (byt chX7_homeAgain_1 14 rfl)
theorem dX7_homeAgain_31 : decode cX7_homeAgain 31 = .ok (.ireturn, 1) := oq_172 (byt chX7_homeAgain_1 15 rfl)
abbrev mX7_homeAgain : MI := (yX7_homeAgain, cX7_homeAgain, 4, (some .int), noE)
theorem okX7_homeAgain : cok mX7_homeAgain 1 := ⟨tw920, tw3, by decide, by decide, by decide, by decide +kernel⟩
def fX7_homeAgain (M : Mem) (a0 a1 : Int) : Option Int :=
  iterC (fun (rec1 : (Int × Int) → Option Int) (s2 : Int × Int) => if 6 < s2.2 then (some (-1)) else (if M.2.1 a0 = 7 then if M.2.1 (M.1 a0 5) = 12 ∧ (0 : Int) ≤ s2.1 ∧ s2.1 < M.2.2.1 (M.1 a0 5) then if M.1 (M.1 a0 5) s2.1 = a1 then (some s2.2) else (rec1 (M.1 (M.1 a0 5) s2.1, w32 (s2.2 + 1))) else none else none)) BIG (a1, 1)
set_option maxRecDepth 100000 in
set_option maxHeartbeats 4000000 in
theorem kX7_homeAgain (d : Nat) (hd : 0 ≤ d) (M : Mem) (a0 a1 : Int) : Ct mX7_homeAgain d 0 0 [pA a0, pI a1] M (dI M) (fX7_homeAgain M a0 a1) := by
  refine Ct.of 2 (fun _ _ _ => trivial) (by decide +kernel) rfl ?_
  unfold fX7_homeAgain
  refine v_iload_n dX7_homeAgain_0 rfl ?_
  refine v_istore_n (ls' := [some (pA a0), some (pI a1), some (pI a1), none]) dX7_homeAgain_1 (by decide) rfl ?_
  refine v_iconst dX7_homeAgain_2 (by decide) ?_
  refine v_istore_n (ls' := [some (pA a0), some (pI a1), some (pI a1), some (pI 1)]) dX7_homeAgain_3 (by decide) rfl ?_
  refine v_loop (fun (s2 : Int × Int) => [some (pA a0), some (pI a1), some (pI s2.1), some (pI s2.2)]) (fun (s2 : Int × Int) => M) (s0 := (a1, 1)) ?_
  intro rec1 hrec1 s2
  refine v_iload_n dX7_homeAgain_4 rfl ?_
  refine v_bipush dX7_homeAgain_5 (by decide) ?_
  refine v_icmp_gt (tgt := 30) dX7_homeAgain_7 (by decide) (fun c3 => ?_) (fun c3 => ?_)
  · refine v_iconst dX7_homeAgain_30 (by decide) ?_
    exact v_ireturn dX7_homeAgain_31 rfl rfl
  · refine v_aload_n dX7_homeAgain_10 rfl ?_
    refine v_if (fun h4 => ?_)
    refine v_get (v := pA (M.1 a0 5)) 7 5 rfl inX7 (by decide) tw81 dX7_homeAgain_11 h4 rfl ?_
    refine v_iload_n dX7_homeAgain_14 rfl ?_
    refine v_if (fun h5 => ?_)
    refine v_iaload h5 dX7_homeAgain_15 ?_
    refine v_istore_n (ls' := [some (pA a0), some (pI a1), some (pI (M.1 (M.1 a0 5) s2.1)), some (pI s2.2)]) dX7_homeAgain_16 (by decide) rfl ?_
    refine v_iload_n dX7_homeAgain_17 rfl ?_
    refine v_iload_n dX7_homeAgain_18 rfl ?_
    refine v_icmp_ne (tgt := 24) dX7_homeAgain_19 (by decide) (fun c6 => ?_) (fun c6 => ?_)
    · refine v_iload_n dX7_homeAgain_22 rfl ?_
      exact v_ireturn dX7_homeAgain_23 rfl rfl
    · refine v_iinc (ls' := [some (pA a0), some (pI a1), some (pI (M.1 (M.1 a0 5) s2.1)), some (pI (w32 (s2.2 + 1)))]) dX7_homeAgain_24 (by decide) rfl rfl ?_
      refine v_goto (tgt := 4) dX7_homeAgain_27 (by decide) ?_
      exact hrec1 (M.1 (M.1 a0 5) s2.1, w32 (s2.2 + 1))
theorem chX10_commonDivisor_0 : (cX10_commonDivisor.data.toList.drop 0).take 16 = [26, 61, 27, 62, 3, 54, 4, 21, 4, 16, 64, 162, 0, 23, 29, 158] := by decide +kernel
theorem chX10_commonDivisor_1 : (cX10_commonDivisor.data.toList.drop 16).take 16 = [0, 19, 28, 29, 112, 54, 5, 29, 61, 21, 5, 62, 132, 4, 1, 167] := by decide +kernel
theorem chX10_commonDivisor_2 : (cX10_commonDivisor.data.toList.drop 32).take 16 = [255, 232, 28, 172] := by decide +kernel
theorem dX10_commonDivisor_0 : decode cX10_commonDivisor 0 = .ok (.iload_n 0, 1) := oq_26 (byt chX10_commonDivisor_0 0 rfl)
theorem dX10_commonDivisor_1 : decode cX10_commonDivisor 1 = .ok (.istore_n 2, 1) := oq_61 (byt chX10_commonDivisor_0 1 rfl)
theorem dX10_commonDivisor_2 : decode cX10_commonDivisor 2 = .ok (.iload_n 1, 1) := oq_27 (byt chX10_commonDivisor_0 2 rfl)
theorem dX10_commonDivisor_3 : decode cX10_commonDivisor 3 = .ok (.istore_n 3, 1) := oq_62 (byt chX10_commonDivisor_0 3 rfl)
theorem dX10_commonDivisor_4 : decode cX10_commonDivisor 4 = .ok (.iconst 0, 1) := oq_3 (byt chX10_commonDivisor_0 4 rfl)
theorem dX10_commonDivisor_5 : decode cX10_commonDivisor 5 = .ok (.istore 4, 2) := oq_54 (byt chX10_commonDivisor_0 5 rfl) (byt chX10_commonDivisor_0 6 rfl) rfl
theorem dX10_commonDivisor_7 : decode cX10_commonDivisor 7 = .ok (.iload 4, 2) := oq_21 (byt chX10_commonDivisor_0 7 rfl) (byt chX10_commonDivisor_0 8 rfl) rfl
theorem dX10_commonDivisor_9 : decode cX10_commonDivisor 9 = .ok (.bipush 64, 2) := oq_16 (byt chX10_commonDivisor_0 9 rfl) (byt chX10_commonDivisor_0 10 rfl) rfl
theorem dX10_commonDivisor_11 : decode cX10_commonDivisor 11 = .ok (.if_icmp .ge 23, 3) := oq_162 (byt chX10_commonDivisor_0 11 rfl) (byt chX10_commonDivisor_0 12 rfl) (byt chX10_commonDivisor_0 13 rfl) (by decide +kernel)
theorem dX10_commonDivisor_14 : decode cX10_commonDivisor 14 = .ok (.iload_n 3, 1) := oq_29 (byt chX10_commonDivisor_0 14 rfl)
theorem dX10_commonDivisor_15 : decode cX10_commonDivisor 15 = .ok (.ifCond .le 19, 3) := oq_158 (byt chX10_commonDivisor_0 15 rfl) (byt chX10_commonDivisor_1 0 rfl) (byt chX10_commonDivisor_1 1 rfl) (by decide +kernel)
theorem dX10_commonDivisor_18 : decode cX10_commonDivisor 18 = .ok (.iload_n 2, 1) := oq_28 (byt chX10_commonDivisor_1 2 rfl)
theorem dX10_commonDivisor_19 : decode cX10_commonDivisor 19 = .ok (.iload_n 3, 1) := oq_29 (byt chX10_commonDivisor_1 3 rfl)
theorem dX10_commonDivisor_20 : decode cX10_commonDivisor 20 = .ok (.irem, 1) := oq_112 (byt chX10_commonDivisor_1 4 rfl)
theorem dX10_commonDivisor_21 : decode cX10_commonDivisor 21 = .ok (.istore 5, 2) := oq_54 (byt chX10_commonDivisor_1 5 rfl) (byt chX10_commonDivisor_1 6 rfl) rfl
theorem dX10_commonDivisor_23 : decode cX10_commonDivisor 23 = .ok (.iload_n 3, 1) := oq_29 (byt chX10_commonDivisor_1 7 rfl)
theorem dX10_commonDivisor_24 : decode cX10_commonDivisor 24 = .ok (.istore_n 2, 1) := oq_61 (byt chX10_commonDivisor_1 8 rfl)
theorem dX10_commonDivisor_25 : decode cX10_commonDivisor 25 = .ok (.iload 5, 2) := oq_21 (byt chX10_commonDivisor_1 9 rfl) (byt chX10_commonDivisor_1 10 rfl) rfl
theorem dX10_commonDivisor_27 : decode cX10_commonDivisor 27 = .ok (.istore_n 3, 1) := oq_62 (byt chX10_commonDivisor_1 11 rfl)
theorem dX10_commonDivisor_28 : decode cX10_commonDivisor 28 = .ok (.iinc 4 1, 3) := oq_132 (byt chX10_commonDivisor_1 12 rfl) (byt chX10_commonDivisor_1 13 rfl) (byt chX10_commonDivisor_1 14 rfl) rfl
theorem dX10_commonDivisor_31 : decode cX10_commonDivisor 31 = .ok (.goto (-24), 3) := oq_167 (byt chX10_commonDivisor_1 15 rfl) (byt chX10_commonDivisor_2 0 rfl) (byt chX10_commonDivisor_2 1 rfl) (by decide +kernel)
theorem dX10_commonDivisor_34 : decode cX10_commonDivisor 34 = .ok (.iload_n 2, 1) := oq_28 (byt chX10_commonDivisor_2 2 rfl)
theorem dX10_commonDivisor_35 : decode cX10_commonDivisor 35 = .ok (.ireturn, 1) := oq_172 (byt chX10_commonDivisor_2 3 rfl)
abbrev mX10_commonDivisor : MI := (yX10_commonDivisor, cX10_commonDivisor, 6, (some .int), noE)
theorem okX10_commonDivisor : cok mX10_commonDivisor 2 := ⟨tw923, tw1, by decide, by decide, by decide, by decide +kernel⟩
def fX10_commonDivisor (M : Mem) (a0 a1 : Int) : Option Int :=
  iterC (fun (rec1 : (Int × Int × Int) → Option Int) (s2 : Int × Int × Int) => if s2.2.2 < 64 then (if 0 < s2.2.1 then (if s2.2.1 ≠ 0 then rec1 (s2.2.1, s2.1.tmod s2.2.1, w32 (s2.2.2 + 1)) else none) else (some s2.1)) else (some s2.1)) BIG (a0, a1, 0)
set_option maxRecDepth 100000 in
set_option maxHeartbeats 4000000 in
theorem kX10_commonDivisor (d : Nat) (hd : 0 ≤ d) (M : Mem) (a0 a1 : Int) : Ct mX10_commonDivisor d 0 0 [pI a0, pI a1] M (dI M) (fX10_commonDivisor M a0 a1) := by
  refine Ct.of 4 (fun _ _ _ => trivial) (by decide +kernel) rfl ?_
  unfold fX10_commonDivisor
  refine v_iload_n dX10_commonDivisor_0 rfl ?_
  refine v_istore_n (ls' := [some (pI a0), some (pI a1), some (pI a0), none, none, none]) dX10_commonDivisor_1 (by decide) rfl ?_
  refine v_iload_n dX10_commonDivisor_2 rfl ?_
  refine v_istore_n (ls' := [some (pI a0), some (pI a1), some (pI a0), some (pI a1), none, none]) dX10_commonDivisor_3 (by decide) rfl ?_
  refine v_iconst dX10_commonDivisor_4 (by decide) ?_
  refine v_istore (ls' := [some (pI a0), some (pI a1), some (pI a0), some (pI a1), some (pI 0), none]) dX10_commonDivisor_5 (by decide) rfl ?_
  refine v_drop [none, none, some (pI a0), some (pI a1), some (pI 0), none] (ls_n (ls_n (ls_s (ls_s (ls_s (ls_n ls_e)))))) ?_
  refine v_loop (fun (s2 : Int × Int × Int) => [none, none, some (pI s2.1), some (pI s2.2.1), some (pI s2.2.2), none]) (fun (s2 : Int × Int × Int) => M) (s0 := (a0, a1, 0)) ?_
  intro rec1 hrec1 s2
  refine v_iload dX10_commonDivisor_7 rfl ?_
  refine v_bipush dX10_commonDivisor_9 (by decide) ?_
  refine v_icmp_ge (tgt := 34) dX10_commonDivisor_11 (by decide) (fun c3 => ?_) (fun c3 => ?_)
  · refine v_iload_n dX10_commonDivisor_14 rfl ?_
    refine v_if_le (tgt := 34) dX10_commonDivisor_15 (by decide) (fun c4 => ?_) (fun c4 => ?_)
    · refine v_iload_n dX10_commonDivisor_18 rfl ?_
      refine v_iload_n dX10_commonDivisor_19 rfl ?_
      refine v_if (fun h5 => ?_)
      refine v_irem h5 dX10_commonDivisor_20 ?_
      refine v_istore (ls' := [none, none, some (pI s2.1), some (pI s2.2.1), some (pI s2.2.2), some (pI (s2.1.tmod s2.2.1))]) dX10_commonDivisor_21 (by decide) rfl ?_
      refine v_iload_n dX10_commonDivisor_23 rfl ?_
      refine v_istore_n (ls' := [none, none, some (pI s2.2.1), some (pI s2.2.1), some (pI s2.2.2), some (pI (s2.1.tmod s2.2.1))]) dX10_commonDivisor_24 (by decide) rfl ?_
      refine v_iload dX10_commonDivisor_25 rfl ?_
      refine v_istore_n (ls' := [none, none, some (pI s2.2.1), some (pI (s2.1.tmod s2.2.1)), some (pI s2.2.2), some (pI (s2.1.tmod s2.2.1))]) dX10_commonDivisor_27 (by decide) rfl ?_
      refine v_iinc (ls' := [none, none, some (pI s2.2.1), some (pI (s2.1.tmod s2.2.1)), some (pI (w32 (s2.2.2 + 1))), some (pI (s2.1.tmod s2.2.1))]) dX10_commonDivisor_28 (by decide) rfl rfl ?_
      refine v_goto (tgt := 7) dX10_commonDivisor_31 (by decide) ?_
      exact v_drop [none, none, some (pI s2.2.1), some (pI (s2.1.tmod s2.2.1)), some (pI (w32 (s2.2.2 + 1))), none] (ls_n (ls_n (ls_s (ls_s (ls_s (ls_n ls_e)))))) (hrec1 (s2.2.1, s2.1.tmod s2.2.1, w32 (s2.2.2 + 1)))
    · refine v_iload_n dX10_commonDivisor_34 rfl ?_
      exact v_ireturn dX10_commonDivisor_35 rfl rfl
  · refine v_iload_n dX10_commonDivisor_34 rfl ?_
    exact v_ireturn dX10_commonDivisor_35 rfl rfl
theorem chX7_allHome_0 : (cX7_allHome.data.toList.drop 0).take 16 = [4, 60, 3, 61, 28, 42, 180, 0, 39, 162, 0, 42, 42, 28, 182, 0] := by decide +kernel
theorem chX7_allHome_1 : (cX7_allHome.data.toList.drop 16).take 16 = [85, 62, 27, 29, 184, 0, 88, 54, 4, 29, 2, 159, 0, 9, 21, 4] := by decide +kernel
theorem chX7_allHome_2 : (cX7_allHome.data.toList.drop 32).take 16 = [4, 162, 0, 5, 2, 172, 27, 21, 4, 108, 29, 104, 60, 132, 2, 1] := by decide +kernel
theorem chX7_allHome_3 : (cX7_allHome.data.toList.drop 48).take 16 = [167, 255, 212, 27, 172] := by decide +kernel
theorem dX7_allHome_0 : decode cX7_allHome 0 = .ok (.iconst 1, 1) := oq_4 (byt chX7_allHome_0 0 rfl)
theorem dX7_allHome_1 : decode cX7_allHome 1 = .ok (.istore_n 1, 1) := oq_60 (byt chX7_allHome_0 1 rfl)
theorem dX7_allHome_2 : decode cX7_allHome 2 = .ok (.iconst 0, 1) := oq_3 (byt chX7_allHome_0 2 rfl)
theorem dX7_allHome_3 : decode cX7_allHome 3 = .ok (.istore_n 2, 1) := oq_61 (byt chX7_allHome_0 3 rfl)
theorem dX7_allHome_4 : decode cX7_allHome 4 = .ok (.iload_n 2, 1) := oq_28 (byt chX7_allHome_0 4 rfl)
theorem dX7_allHome_5 : decode cX7_allHome 5 = .ok (.aload_n 0, 1) := oq_42 (byt chX7_allHome_0 5 rfl)
theorem dX7_allHome_6 : decode cX7_allHome 6 = .ok (.getfield 39, 3) := oq_180 (byt chX7_allHome_0 6 rfl) (byt chX7_allHome_0 7 rfl) (byt chX7_allHome_0 8 rfl) rfl
theorem dX7_allHome_9 : decode cX7_allHome 9 = .ok (.if_icmp .ge 42, 3) := oq_162 (byt chX7_allHome_0 9 rfl) (byt chX7_allHome_0 10 rfl) (byt chX7_allHome_0 11 rfl) (by decide +kernel)
theorem dX7_allHome_12 : decode cX7_allHome 12 = .ok (.aload_n 0, 1) := oq_42 (byt chX7_allHome_0 12 rfl)
theorem dX7_allHome_13 : decode cX7_allHome 13 = .ok (.iload_n 2, 1) := oq_28 (byt chX7_allHome_0 13 rfl)
theorem dX7_allHome_14 : decode cX7_allHome 14 = .ok (.invokevirtual 85, 3) := oq_182 (byt chX7_allHome_0 14 rfl) (byt chX7_allHome_0 15 rfl) (byt chX7_allHome_1 0 rfl) rfl
theorem dX7_allHome_17 : decode cX7_allHome 17 = .ok (.istore_n 3, 1) := oq_62 (byt chX7_allHome_1 1 rfl)
theorem dX7_allHome_18 : decode cX7_allHome 18 = .ok (.iload_n 1, 1) := oq_27 (byt chX7_allHome_1 2 rfl)
theorem dX7_allHome_19 : decode cX7_allHome 19 = .ok (.iload_n 3, 1) := oq_29 (byt chX7_allHome_1 3 rfl)
theorem dX7_allHome_20 : decode cX7_allHome 20 = .ok (.invokestatic 88, 3) := oq_184 (byt chX7_allHome_1 4 rfl) (byt chX7_allHome_1 5 rfl) (byt chX7_allHome_1 6 rfl) rfl
theorem dX7_allHome_23 : decode cX7_allHome 23 = .ok (.istore 4, 2) := oq_54 (byt chX7_allHome_1 7 rfl) (byt chX7_allHome_1 8 rfl) rfl
theorem dX7_allHome_25 : decode cX7_allHome 25 = .ok (.iload_n 3, 1) := oq_29 (byt chX7_allHome_1 9 rfl)
theorem dX7_allHome_26 : decode cX7_allHome 26 = .ok (.iconst (-1), 1) := oq_2 (byt chX7_allHome_1 10 rfl)
theorem dX7_allHome_27 : decode cX7_allHome 27 = .ok (.if_icmp .eq 9, 3) := oq_159 (byt chX7_allHome_1 11 rfl) (byt chX7_allHome_1 12 rfl) (byt chX7_allHome_1 13 rfl) (by decide +kernel)
theorem dX7_allHome_30 : decode cX7_allHome 30 = .ok (.iload 4, 2) := oq_21 (byt chX7_allHome_1 14 rfl) (byt chX7_allHome_1 15 rfl) rfl
theorem dX7_allHome_32 : decode cX7_allHome 32 = .ok (.iconst 1, 1) := oq_4 (byt chX7_allHome_2 0 rfl)
theorem dX7_allHome_33 : decode cX7_allHome 33 = .ok (.if_icmp .ge 5, 3) := oq_162 (byt chX7_allHome_2 1 rfl) (byt chX7_allHome_2 2 rfl) (byt chX7_allHome_2 3 rfl) (by decide +kernel)
theorem dX7_allHome_36 : decode cX7_allHome 36 = .ok (.iconst (-1), 1) := oq_2 (byt chX7_allHome_2 4 rfl)
theorem dX7_allHome_37 : decode cX7_allHome 37 = .ok (.ireturn, 1) := oq_172 (byt chX7_allHome_2 5 rfl)
theorem dX7_allHome_38 : decode cX7_allHome 38 = .ok (.iload_n 1, 1) := oq_27 (byt chX7_allHome_2 6 rfl)
theorem dX7_allHome_39 : decode cX7_allHome 39 = .ok (.iload 4, 2) := oq_21 (byt chX7_allHome_2 7 rfl) (byt chX7_allHome_2 8 rfl) rfl
theorem dX7_allHome_41 : decode cX7_allHome 41 = .ok (.idiv, 1) := oq_108 (byt chX7_allHome_2 9 rfl)
theorem dX7_allHome_42 : decode cX7_allHome 42 = .ok (.iload_n 3, 1) := oq_29 (byt chX7_allHome_2 10 rfl)
theorem dX7_allHome_43 : decode cX7_allHome 43 = .ok (.imul, 1) := oq_104 (byt chX7_allHome_2 11 rfl)
theorem dX7_allHome_44 : decode cX7_allHome 44 = .ok (.istore_n 1, 1) := oq_60 (byt chX7_allHome_2 12 rfl)
theorem dX7_allHome_45 : decode cX7_allHome 45 = .ok (.iinc 2 1, 3) := oq_132 (byt chX7_allHome_2 13 rfl) (byt chX7_allHome_2 14 rfl) (byt chX7_allHome_2 15 rfl) rfl
theorem dX7_allHome_48 : decode cX7_allHome 48 = .ok (.goto (-44), 3) := oq_167 (byt chX7_allHome_3 0 rfl) (byt chX7_allHome_3 1 rfl) (byt chX7_allHome_3 2 rfl) (by decide +kernel)
theorem dX7_allHome_51 : decode cX7_allHome 51 = .ok (.iload_n 1, 1) := oq_27 (byt chX7_allHome_3 3 rfl)
theorem dX7_allHome_52 : decode cX7_allHome 52 = .ok (.ireturn, 1) := oq_172 (byt chX7_allHome_3 4 rfl)
abbrev mX7_allHome : MI := (yX7_allHome, cX7_allHome, 5, (some .int), noE)
theorem okX7_allHome : cok mX7_allHome 0 := ⟨tw916, tw3, by decide, by decide, by decide, by decide +kernel⟩
def fX7_allHome (M : Mem) (a0 : Int) : Option Int :=
  iterC (fun (rec1 : (Int × Int) → Option Int) (s2 : Int × Int) => if M.2.1 a0 = 7 then if s2.2 < M.1 a0 0 then ((fX7_homeAgain M a0 s2.2).bind fun r5 => (fX10_commonDivisor M s2.1 r5).bind fun r7 => if r5 = (-1) then (some (-1)) else (if r7 < 1 then (some (-1)) else (if r7 ≠ 0 then rec1 (w32 ((w32 (s2.1.tdiv r7)) * r5), w32 (s2.2 + 1)) else none))) else (some s2.1) else none) BIG (1, 0)
set_option maxRecDepth 100000 in
set_option maxHeartbeats 4000000 in
theorem kX7_allHome (d : Nat) (hd : 1 ≤ d) (M : Mem) (a0 : Int) : Ct mX7_allHome d 0 0 [pA a0] M (dI M) (fX7_allHome M a0) := by
  obtain ⟨d, rfl⟩ : ∃ k, d = k + 1 := ⟨d - 1, by omega⟩
  refine Ct.of 4 (fun _ _ _ => trivial) (by decide +kernel) rfl ?_
  unfold fX7_allHome
  refine v_iconst dX7_allHome_0 (by decide) ?_
  refine v_istore_n (ls' := [some (pA a0), some (pI 1), none, none, none]) dX7_allHome_1 (by decide) rfl ?_
  refine v_iconst dX7_allHome_2 (by decide) ?_
  refine v_istore_n (ls' := [some (pA a0), some (pI 1), some (pI 0), none, none]) dX7_allHome_3 (by decide) rfl ?_
  refine v_loop (fun (s2 : Int × Int) => [some (pA a0), some (pI s2.1), some (pI s2.2), none, none]) (fun (s2 : Int × Int) => M) (s0 := (1, 0)) ?_
  intro rec1 hrec1 s2
  refine v_iload_n dX7_allHome_4 rfl ?_
  refine v_aload_n dX7_allHome_5 rfl ?_
  refine v_if (fun h3 => ?_)
  refine v_get (v := pI (M.1 a0 0)) 7 0 rfl inX7 (by decide) tw54 dX7_allHome_6 h3 rfl ?_
  refine v_icmp_ge (tgt := 51) dX7_allHome_9 (by decide) (fun c4 => ?_) (fun c4 => ?_)
  · refine v_aload_n dX7_allHome_12 rfl ?_
    refine v_iload_n dX7_allHome_13 rfl ?_
    refine v_cV (mi := mX7_allHome) (c0 := 0) (c1 := 0) (As := [pI s2.2]) (st := []) (kX7_homeAgain d (by omega) _ _ _) rfl h3 rfl okX7_homeAgain (Or.inl tw917) tw918 tw919 rfl (Nat.le_of_ble_eq_true rfl) dX7_allHome_14 (fun r5 => [pI r5]) (fun r5 => M) (fun _ => rfl) (fun _ => rfl) (fun r5 h6 => ?_) rfl
    refine v_istore_n (ls' := [some (pA a0), some (pI s2.1), some (pI s2.2), some (pI r5), none]) dX7_allHome_17 (by decide) rfl ?_
    refine v_iload_n dX7_allHome_18 rfl ?_
    refine v_iload_n dX7_allHome_19 rfl ?_
    refine v_cS (mi := mX7_allHome) (c0 := 0) (c1 := 0) (As := [pI s2.1, pI r5]) (st := []) (kX10_commonDivisor d (by omega) _ _ _) okX10_commonDivisor (Or.inr nw20) tw922 rfl (Nat.le_of_ble_eq_true rfl) dX7_allHome_20 (fun r7 => [pI r7]) (fun r7 => M) (fun _ => rfl) (fun _ => rfl) (fun r7 h8 => ?_) rfl
    refine v_istore (ls' := [some (pA a0), some (pI s2.1), some (pI s2.2), some (pI r5), some (pI r7)]) dX7_allHome_23 (by decide) rfl ?_
    refine v_iload_n dX7_allHome_25 rfl ?_
    refine v_iconst dX7_allHome_26 (by decide) ?_
    refine v_icmp_eq (tgt := 36) dX7_allHome_27 (by decide) (fun c9 => ?_) (fun c9 => ?_)
    · refine v_iconst dX7_allHome_36 (by decide) ?_
      exact v_ireturn dX7_allHome_37 rfl rfl
    · refine v_iload dX7_allHome_30 rfl ?_
      refine v_iconst dX7_allHome_32 (by decide) ?_
      refine v_icmp_ge (tgt := 38) dX7_allHome_33 (by decide) (fun c10 => ?_) (fun c10 => ?_)
      · refine v_iconst dX7_allHome_36 (by decide) ?_
        exact v_ireturn dX7_allHome_37 rfl rfl
      · refine v_iload_n dX7_allHome_38 rfl ?_
        refine v_iload dX7_allHome_39 rfl ?_
        refine v_if (fun h11 => ?_)
        refine v_idiv h11 dX7_allHome_41 ?_
        refine v_iload_n dX7_allHome_42 rfl ?_
        refine v_imul dX7_allHome_43 ?_
        refine v_istore_n (ls' := [some (pA a0), some (pI (w32 ((w32 (s2.1.tdiv r7)) * r5))), some (pI s2.2), some (pI r5), some (pI r7)]) dX7_allHome_44 (by decide) rfl ?_
        refine v_iinc (ls' := [some (pA a0), some (pI (w32 ((w32 (s2.1.tdiv r7)) * r5))), some (pI (w32 (s2.2 + 1))), some (pI r5), some (pI r7)]) dX7_allHome_45 (by decide) rfl rfl ?_
        refine v_goto (tgt := 4) dX7_allHome_48 (by decide) ?_
        exact v_drop [some (pA a0), some (pI (w32 ((w32 (s2.1.tdiv r7)) * r5))), some (pI (w32 (s2.2 + 1))), none, none] (ls_s (ls_s (ls_s (ls_n (ls_n ls_e))))) (hrec1 (w32 ((w32 (s2.1.tdiv r7)) * r5), w32 (s2.2 + 1)))
  · refine v_iload_n dX7_allHome_51 rfl ?_
    exact v_ireturn dX7_allHome_52 rfl rfl
theorem chX7_meeting_0 : (cX7_meeting.data.toList.drop 0).take 16 = [27, 62, 28, 54, 4, 3, 54, 5, 21, 5, 16, 40, 163, 0, 34, 29] := by decide +kernel
theorem chX7_meeting_1 : (cX7_meeting.data.toList.drop 16).take 16 = [21, 4, 160, 0, 6, 21, 5, 172, 42, 180, 0, 21, 29, 46, 62, 42] := by decide +kernel
theorem chX7_meeting_2 : (cX7_meeting.data.toList.drop 32).take 16 = [180, 0, 21, 21, 4, 46, 54, 4, 132, 5, 1, 167, 255, 221, 2, 172] := by decide +kernel
theorem dX7_meeting_0 : decode cX7_meeting 0 = .ok (.iload_n 1, 1) := oq_27 (byt chX7_meeting_0 0 rfl)
theorem dX7_meeting_1 : decode cX7_meeting 1 = .ok (.istore_n 3, 1) := oq_62 (byt chX7_meeting_0 1 rfl)
theorem dX7_meeting_2 : decode cX7_meeting 2 = .ok (.iload_n 2, 1) := oq_28 (byt chX7_meeting_0 2 rfl)
theorem dX7_meeting_3 : decode cX7_meeting 3 = .ok (.istore 4, 2) := oq_54 (byt chX7_meeting_0 3 rfl) (byt chX7_meeting_0 4 rfl) rfl
theorem dX7_meeting_5 : decode cX7_meeting 5 = .ok (.iconst 0, 1) := oq_3 (byt chX7_meeting_0 5 rfl)
theorem dX7_meeting_6 : decode cX7_meeting 6 = .ok (.istore 5, 2) := oq_54 (byt chX7_meeting_0 6 rfl) (byt chX7_meeting_0 7 rfl) rfl
theorem dX7_meeting_8 : decode cX7_meeting 8 = .ok (.iload 5, 2) := oq_21 (byt chX7_meeting_0 8 rfl) (byt chX7_meeting_0 9 rfl) rfl
theorem dX7_meeting_10 : decode cX7_meeting 10 = .ok (.bipush 40, 2) := oq_16 (byt chX7_meeting_0 10 rfl) (byt chX7_meeting_0 11 rfl) rfl
theorem dX7_meeting_12 : decode cX7_meeting 12 = .ok (.if_icmp .gt 34, 3) := oq_163 (byt chX7_meeting_0 12 rfl) (byt chX7_meeting_0 13 rfl) (byt chX7_meeting_0 14 rfl) (by decide +kernel)
theorem dX7_meeting_15 : decode cX7_meeting 15 = .ok (.iload_n 3, 1) := oq_29 (byt chX7_meeting_0 15 rfl)
theorem dX7_meeting_16 : decode cX7_meeting 16 = .ok (.iload 4, 2) := oq_21 (byt chX7_meeting_1 0 rfl) (byt chX7_meeting_1 1 rfl) rfl
theorem dX7_meeting_18 : decode cX7_meeting 18 = .ok (.if_icmp .ne 6, 3) := oq_160 (byt chX7_meeting_1 2 rfl) (byt chX7_meeting_1 3 rfl) (byt chX7_meeting_1 4 rfl) (by decide +kernel)
theorem dX7_meeting_21 : decode cX7_meeting 21 = .ok (.iload 5, 2) := oq_21 (byt chX7_meeting_1 5 rfl) (byt chX7_meeting_1 6 rfl) rfl
theorem dX7_meeting_23 : decode cX7_meeting 23 = .ok (.ireturn, 1) := oq_172 (byt chX7_meeting_1 7 rfl)
theorem dX7_meeting_24 : decode cX7_meeting 24 = .ok (.aload_n 0, 1) := oq_42 (byt chX7_meeting_1 8 rfl)
theorem dX7_meeting_25 : decode cX7_meeting 25 = .ok (.getfield 21, 3) := oq_180 (byt chX7_meeting_1 9 rfl) (byt chX7_meeting_1 10 rfl) (byt chX7_meeting_1 11 rfl) rfl
theorem dX7_meeting_28 : decode cX7_meeting 28 = .ok (.iload_n 3, 1) := oq_29 (byt chX7_meeting_1 12 rfl)
theorem dX7_meeting_29 : decode cX7_meeting 29 = .ok (.iaload, 1) := oq_46 (byt chX7_meeting_1 13 rfl)
theorem dX7_meeting_30 : decode cX7_meeting 30 = .ok (.istore_n 3, 1) := oq_62 (byt chX7_meeting_1 14 rfl)
theorem dX7_meeting_31 : decode cX7_meeting 31 = .ok (.aload_n 0, 1) := oq_42 (byt chX7_meeting_1 15 rfl)
theorem dX7_meeting_32 : decode cX7_meeting 32 = .ok (.getfield 21, 3) := oq_180 (byt chX7_meeting_2 0 rfl) (byt chX7_meeting_2 1 rfl) (byt chX7_meeting_2 2 rfl) rfl
theorem dX7_meeting_35 : decode cX7_meeting 35 = .ok (.iload 4, 2) := oq_21 (byt chX7_meeting_2 3 rfl) (byt chX7_meeting_2 4 rfl) rfl
theorem dX7_meeting_37 : decode cX7_meeting 37 = .ok (.iaload, 1) := oq_46 (byt chX7_meeting_2 5 rfl)
theorem dX7_meeting_38 : decode cX7_meeting 38 = .ok (.istore 4, 2) := oq_54 (byt chX7_meeting_2 6 rfl) (byt chX7_meeting_2 7 rfl) rfl
theorem dX7_meeting_40 : decode cX7_meeting 40 = .ok (.iinc 5 1, 3) := oq_132 (byt chX7_meeting_2 8 rfl) (byt chX7_meeting_2 9 rfl) (byt chX7_meeting_2 10 rfl) rfl
theorem dX7_meeting_43 : decode cX7_meeting 43 = .ok (.goto (-35), 3) := oq_167 (byt chX7_meeting_2 11 rfl) (byt chX7_meeting_2 12 rfl) (byt chX7_meeting_2 13 rfl) (by decide +kernel)
theorem dX7_meeting_46 : decode cX7_meeting 46 = .ok (.iconst (-1), 1) := oq_2 (byt chX7_meeting_2 14 rfl)
theorem dX7_meeting_47 : decode cX7_meeting 47 = .ok (.ireturn, 1) := oq_172 (byt chX7_meeting_2 15 rfl)
abbrev mX7_meeting : MI := (yX7_meeting, cX7_meeting, 6, (some .int), noE)
theorem okX7_meeting : cok mX7_meeting 2 := ⟨tw932, tw3, by decide, by decide, by decide, by decide +kernel⟩
def fX7_meeting (M : Mem) (a0 a1 a2 : Int) : Option Int :=
  iterC (fun (rec1 : (Int × Int × Int) → Option Int) (s2 : Int × Int × Int) => if 40 < s2.2.2 then (some (-1)) else (if s2.1 = s2.2.1 then (some s2.2.2) else (if M.2.1 a0 = 7 then if M.2.1 (M.1 a0 5) = 12 ∧ (0 : Int) ≤ s2.1 ∧ s2.1 < M.2.2.1 (M.1 a0 5) then if M.2.1 (M.1 a0 5) = 12 ∧ (0 : Int) ≤ s2.2.1 ∧ s2.2.1 < M.2.2.1 (M.1 a0 5) then rec1 (M.1 (M.1 a0 5) s2.1, M.1 (M.1 a0 5) s2.2.1, w32 (s2.2.2 + 1)) else none else none else none))) BIG (a1, a2, 0)
set_option maxRecDepth 100000 in
set_option maxHeartbeats 4000000 in
theorem kX7_meeting (d : Nat) (hd : 0 ≤ d) (M : Mem) (a0 a1 a2 : Int) : Ct mX7_meeting d 0 0 [pA a0, pI a1, pI a2] M (dI M) (fX7_meeting M a0 a1 a2) := by
  refine Ct.of 3 (fun _ _ _ => trivial) (by decide +kernel) rfl ?_
  unfold fX7_meeting
  refine v_iload_n dX7_meeting_0 rfl ?_
  refine v_istore_n (ls' := [some (pA a0), some (pI a1), some (pI a2), some (pI a1), none, none]) dX7_meeting_1 (by decide) rfl ?_
  refine v_iload_n dX7_meeting_2 rfl ?_
  refine v_istore (ls' := [some (pA a0), some (pI a1), some (pI a2), some (pI a1), some (pI a2), none]) dX7_meeting_3 (by decide) rfl ?_
  refine v_iconst dX7_meeting_5 (by decide) ?_
  refine v_istore (ls' := [some (pA a0), some (pI a1), some (pI a2), some (pI a1), some (pI a2), some (pI 0)]) dX7_meeting_6 (by decide) rfl ?_
  refine v_drop [some (pA a0), none, none, some (pI a1), some (pI a2), some (pI 0)] (ls_s (ls_n (ls_n (ls_s (ls_s (ls_s ls_e)))))) ?_
  refine v_loop (fun (s2 : Int × Int × Int) => [some (pA a0), none, none, some (pI s2.1), some (pI s2.2.1), some (pI s2.2.2)]) (fun (s2 : Int × Int × Int) => M) (s0 := (a1, a2, 0)) ?_
  intro rec1 hrec1 s2
  refine v_iload dX7_meeting_8 rfl ?_
  refine v_bipush dX7_meeting_10 (by decide) ?_
  refine v_icmp_gt (tgt := 46) dX7_meeting_12 (by decide) (fun c3 => ?_) (fun c3 => ?_)
  · refine v_iconst dX7_meeting_46 (by decide) ?_
    exact v_ireturn dX7_meeting_47 rfl rfl
  · refine v_iload_n dX7_meeting_15 rfl ?_
    refine v_iload dX7_meeting_16 rfl ?_
    refine v_icmp_ne (tgt := 24) dX7_meeting_18 (by decide) (fun c4 => ?_) (fun c4 => ?_)
    · refine v_iload dX7_meeting_21 rfl ?_
      exact v_ireturn dX7_meeting_23 rfl rfl
    · refine v_aload_n dX7_meeting_24 rfl ?_
      refine v_if (fun h5 => ?_)
      refine v_get (v := pA (M.1 a0 5)) 7 5 rfl inX7 (by decide) tw81 dX7_meeting_25 h5 rfl ?_
      refine v_iload_n dX7_meeting_28 rfl ?_
      refine v_if (fun h6 => ?_)
      refine v_iaload h6 dX7_meeting_29 ?_
      refine v_istore_n (ls' := [some (pA a0), none, none, some (pI (M.1 (M.1 a0 5) s2.1)), some (pI s2.2.1), some (pI s2.2.2)]) dX7_meeting_30 (by decide) rfl ?_
      refine v_aload_n dX7_meeting_31 rfl ?_
      refine v_get (v := pA (M.1 a0 5)) 7 5 rfl inX7 (by decide) tw81 dX7_meeting_32 h5 rfl ?_
      refine v_iload dX7_meeting_35 rfl ?_
      refine v_if (fun h7 => ?_)
      refine v_iaload h7 dX7_meeting_37 ?_
      refine v_istore (ls' := [some (pA a0), none, none, some (pI (M.1 (M.1 a0 5) s2.1)), some (pI (M.1 (M.1 a0 5) s2.2.1)), some (pI s2.2.2)]) dX7_meeting_38 (by decide) rfl ?_
      refine v_iinc (ls' := [some (pA a0), none, none, some (pI (M.1 (M.1 a0 5) s2.1)), some (pI (M.1 (M.1 a0 5) s2.2.1)), some (pI (w32 (s2.2.2 + 1)))]) dX7_meeting_40 (by decide) rfl rfl ?_
      refine v_goto (tgt := 8) dX7_meeting_43 (by decide) ?_
      exact hrec1 (M.1 (M.1 a0 5) s2.1, M.1 (M.1 a0 5) s2.2.1, w32 (s2.2.2 + 1))
theorem chX7_prizeOf_0 : (cX7_prizeOf.data.toList.drop 0).take 16 = [42, 42, 180, 0, 9, 27, 182, 0, 91, 62, 27, 28, 160, 0, 18, 29] := by decide +kernel
theorem chX7_prizeOf_1 : (cX7_prizeOf.data.toList.drop 16).take 16 = [5, 108, 6, 42, 180, 0, 18, 27, 46, 104, 100, 167, 0, 13, 29, 5] := by decide +kernel
theorem chX7_prizeOf_2 : (cX7_prizeOf.data.toList.drop 32).take 16 = [42, 180, 0, 18, 27, 46, 104, 100, 172] := by decide +kernel
theorem dX7_prizeOf_0 : decode cX7_prizeOf 0 = .ok (.aload_n 0, 1) := oq_42 (byt chX7_prizeOf_0 0 rfl)
theorem dX7_prizeOf_1 : decode cX7_prizeOf 1 = .ok (.aload_n 0, 1) := oq_42 (byt chX7_prizeOf_0 1 rfl)
theorem dX7_prizeOf_2 : decode cX7_prizeOf 2 = .ok (.getfield 9, 3) := oq_180 (byt chX7_prizeOf_0 2 rfl) (byt chX7_prizeOf_0 3 rfl) (byt chX7_prizeOf_0 4 rfl) rfl
theorem dX7_prizeOf_5 : decode cX7_prizeOf 5 = .ok (.iload_n 1, 1) := oq_27 (byt chX7_prizeOf_0 5 rfl)
theorem dX7_prizeOf_6 : decode cX7_prizeOf 6 = .ok (.invokevirtual 91, 3) := oq_182 (byt chX7_prizeOf_0 6 rfl) (byt chX7_prizeOf_0 7 rfl) (byt chX7_prizeOf_0 8 rfl) rfl
theorem dX7_prizeOf_9 : decode cX7_prizeOf 9 = .ok (.istore_n 3, 1) := oq_62 (byt chX7_prizeOf_0 9 rfl)
theorem dX7_prizeOf_10 : decode cX7_prizeOf 10 = .ok (.iload_n 1, 1) := oq_27 (byt chX7_prizeOf_0 10 rfl)
theorem dX7_prizeOf_11 : decode cX7_prizeOf 11 = .ok (.iload_n 2, 1) := oq_28 (byt chX7_prizeOf_0 11 rfl)
theorem dX7_prizeOf_12 : decode cX7_prizeOf 12 = .ok (.if_icmp .ne 18, 3) := oq_160 (byt chX7_prizeOf_0 12 rfl) (byt chX7_prizeOf_0 13 rfl) (byt chX7_prizeOf_0 14 rfl) (by decide +kernel)
theorem dX7_prizeOf_15 : decode cX7_prizeOf 15 = .ok (.iload_n 3, 1) := oq_29 (byt chX7_prizeOf_0 15 rfl)
theorem dX7_prizeOf_16 : decode cX7_prizeOf 16 = .ok (.iconst 2, 1) := oq_5 (byt chX7_prizeOf_1 0 rfl)
theorem dX7_prizeOf_17 : decode cX7_prizeOf 17 = .ok (.idiv, 1) := oq_108 (byt chX7_prizeOf_1 1 rfl)
theorem dX7_prizeOf_18 : decode cX7_prizeOf 18 = .ok (.iconst 3, 1) := oq_6 (byt chX7_prizeOf_1 2 rfl)
theorem dX7_prizeOf_19 : decode cX7_prizeOf 19 = .ok (.aload_n 0, 1) := oq_42 (byt chX7_prizeOf_1 3 rfl)
theorem dX7_prizeOf_20 : decode cX7_prizeOf 20 = .ok (.getfield 18, 3) := oq_180 (byt chX7_prizeOf_1 4 rfl) (byt chX7_prizeOf_1 5 rfl) (byt chX7_prizeOf_1 6 rfl) rfl
theorem dX7_prizeOf_23 : decode cX7_prizeOf 23 = .ok (.iload_n 1, 1) := oq_27 (byt chX7_prizeOf_1 7 rfl)
theorem dX7_prizeOf_24 : decode cX7_prizeOf 24 = .ok (.iaload, 1) := oq_46 (byt chX7_prizeOf_1 8 rfl)
theorem dX7_prizeOf_25 : decode cX7_prizeOf 25 = .ok (.imul, 1) := oq_104 (byt chX7_prizeOf_1 9 rfl)
theorem dX7_prizeOf_26 : decode cX7_prizeOf 26 = .ok (.isub, 1) := oq_100 (byt chX7_prizeOf_1 10 rfl)
theorem dX7_prizeOf_27 : decode cX7_prizeOf 27 = .ok (.goto 13, 3) := oq_167 (byt chX7_prizeOf_1 11 rfl) (byt chX7_prizeOf_1 12 rfl) (byt chX7_prizeOf_1 13 rfl) (by decide +kernel)
theorem dX7_prizeOf_30 : decode cX7_prizeOf 30 = .ok (.iload_n 3, 1) := oq_29 (byt chX7_prizeOf_1 14 rfl)
theorem dX7_prizeOf_31 : decode cX7_prizeOf 31 = .ok (.iconst 2, 1) := oq_5 (byt chX7_prizeOf_1 15 rfl)
theorem dX7_prizeOf_32 : decode cX7_prizeOf 32 = .ok (.aload_n 0, 1) := oq_42 (byt chX7_prizeOf_2 0 rfl)
theorem dX7_prizeOf_33 : decode cX7_prizeOf 33 = .ok (.getfield 18, 3) := oq_180 (byt chX7_prizeOf_2 1 rfl) (byt chX7_prizeOf_2 2 rfl) (byt chX7_prizeOf_2 3 rfl) rfl
theorem dX7_prizeOf_36 : decode cX7_prizeOf 36 = .ok (.iload_n 1, 1) := oq_27 (byt chX7_prizeOf_2 4 rfl)
theorem dX7_prizeOf_37 : decode cX7_prizeOf 37 = .ok (.iaload, 1) := oq_46 (byt chX7_prizeOf_2 5 rfl)
theorem dX7_prizeOf_38 : decode cX7_prizeOf 38 = .ok (.imul, 1) := oq_104 (byt chX7_prizeOf_2 6 rfl)
theorem dX7_prizeOf_39 : decode cX7_prizeOf 39 = .ok (.isub, 1) := oq_100 (byt chX7_prizeOf_2 7 rfl)
theorem dX7_prizeOf_40 : decode cX7_prizeOf 40 = .ok (.ireturn, 1) := oq_172 (byt chX7_prizeOf_2 8 rfl)
abbrev mX7_prizeOf : MI := (yX7_prizeOf, cX7_prizeOf, 4, (some .int), noE)
theorem okX7_prizeOf : cok mX7_prizeOf 2 := ⟨tw1014, tw3, by decide, by decide, by decide, by decide +kernel⟩
def fX7_prizeOf (M : Mem) (a0 a1 a2 : Int) : Option Int :=
  if M.2.1 a0 = 7 then (fX7_worthIn M a0 (M.1 a0 2) a1).bind fun r2 => if a1 = a2 then (if M.2.1 (M.1 a0 4) = 12 ∧ (0 : Int) ≤ a1 ∧ a1 < M.2.2.1 (M.1 a0 4) then some (w32 ((w32 (r2.tdiv 2)) - (w32 (3 * (M.1 (M.1 a0 4) a1))))) else none) else (if M.2.1 (M.1 a0 4) = 12 ∧ (0 : Int) ≤ a1 ∧ a1 < M.2.2.1 (M.1 a0 4) then some (w32 (r2 - (w32 (2 * (M.1 (M.1 a0 4) a1))))) else none) else none
set_option maxRecDepth 100000 in
set_option maxHeartbeats 4000000 in
theorem kX7_prizeOf (d : Nat) (hd : 2 ≤ d) (M : Mem) (a0 a1 a2 : Int) : Ct mX7_prizeOf d 0 0 [pA a0, pI a1, pI a2] M (dI M) (fX7_prizeOf M a0 a1 a2) := by
  obtain ⟨d, rfl⟩ : ∃ k, d = k + 1 := ⟨d - 1, by omega⟩
  refine Ct.of 1 (fun _ _ _ => trivial) (by decide +kernel) rfl ?_
  unfold fX7_prizeOf
  refine v_aload_n dX7_prizeOf_0 rfl ?_
  refine v_aload_n dX7_prizeOf_1 rfl ?_
  refine v_if (fun h1 => ?_)
  refine v_get (v := pA (M.1 a0 2)) 7 2 rfl inX7 (by decide) tw66 dX7_prizeOf_2 h1 rfl ?_
  refine v_iload_n dX7_prizeOf_5 rfl ?_
  refine v_cV (mi := mX7_prizeOf) (c0 := 0) (c1 := 0) (As := [pA (M.1 a0 2), pI a1]) (st := []) (kX7_worthIn d (by omega) _ _ _ _) rfl h1 rfl okX7_worthIn (Or.inl tw1015) tw1016 tw1017 rfl (Nat.le_of_ble_eq_true rfl) dX7_prizeOf_6 (fun r2 => [pI r2]) (fun r2 => M) (fun _ => rfl) (fun _ => rfl) (fun r2 h3 => ?_) rfl
  refine v_istore_n (ls' := [some (pA a0), some (pI a1), some (pI a2), some (pI r2)]) dX7_prizeOf_9 (by decide) rfl ?_
  refine v_iload_n dX7_prizeOf_10 rfl ?_
  refine v_iload_n dX7_prizeOf_11 rfl ?_
  refine v_icmp_ne (tgt := 30) dX7_prizeOf_12 (by decide) (fun c4 => ?_) (fun c4 => ?_)
  · refine v_iload_n dX7_prizeOf_15 rfl ?_
    refine v_iconst dX7_prizeOf_16 (by decide) ?_
    refine v_idiv (by decide) dX7_prizeOf_17 ?_
    refine v_iconst dX7_prizeOf_18 (by decide) ?_
    refine v_aload_n dX7_prizeOf_19 rfl ?_
    refine v_get (v := pA (M.1 a0 4)) 7 4 rfl inX7 (by decide) tw76 dX7_prizeOf_20 h1 rfl ?_
    refine v_iload_n dX7_prizeOf_23 rfl ?_
    refine v_if (fun h5 => ?_)
    refine v_iaload h5 dX7_prizeOf_24 ?_
    refine v_imul dX7_prizeOf_25 ?_
    refine v_isub dX7_prizeOf_26 ?_
    refine v_goto (tgt := 40) dX7_prizeOf_27 (by decide) ?_
    exact v_ireturn dX7_prizeOf_40 rfl rfl
  · refine v_iload_n dX7_prizeOf_30 rfl ?_
    refine v_iconst dX7_prizeOf_31 (by decide) ?_
    refine v_aload_n dX7_prizeOf_32 rfl ?_
    refine v_get (v := pA (M.1 a0 4)) 7 4 rfl inX7 (by decide) tw76 dX7_prizeOf_33 h1 rfl ?_
    refine v_iload_n dX7_prizeOf_36 rfl ?_
    refine v_if (fun h6 => ?_)
    refine v_iaload h6 dX7_prizeOf_37 ?_
    refine v_imul dX7_prizeOf_38 ?_
    refine v_isub dX7_prizeOf_39 ?_
    exact v_ireturn dX7_prizeOf_40 rfl rfl
theorem chX7_isBest_0 : (cX7_isBest.data.toList.drop 0).take 16 = [3, 62, 29, 42, 180, 0, 39, 162, 0, 26, 42, 29, 28, 182, 0, 98] := by decide +kernel
theorem chX7_isBest_1 : (cX7_isBest.data.toList.drop 16).take 16 = [42, 27, 28, 182, 0, 98, 164, 0, 5, 3, 172, 132, 3, 1, 167, 255] := by decide +kernel
theorem chX7_isBest_2 : (cX7_isBest.data.toList.drop 32).take 16 = [228, 4, 172] := by decide +kernel
theorem dX7_isBest_0 : decode cX7_isBest 0 = .ok (.iconst 0, 1) := oq_3 (byt chX7_isBest_0 0 rfl)
theorem dX7_isBest_1 : decode cX7_isBest 1 = .ok (.istore_n 3, 1) := oq_62 (byt chX7_isBest_0 1 rfl)
theorem dX7_isBest_2 : decode cX7_isBest 2 = .ok (.iload_n 3, 1) := oq_29 (byt chX7_isBest_0 2 rfl)
theorem dX7_isBest_3 : decode cX7_isBest 3 = .ok (.aload_n 0, 1) := oq_42 (byt chX7_isBest_0 3 rfl)
theorem dX7_isBest_4 : decode cX7_isBest 4 = .ok (.getfield 39, 3) := oq_180 (byt chX7_isBest_0 4 rfl) (byt chX7_isBest_0 5 rfl) (byt chX7_isBest_0 6 rfl) rfl
theorem dX7_isBest_7 : decode cX7_isBest 7 = .ok (.if_icmp .ge 26, 3) := oq_162 (byt chX7_isBest_0 7 rfl) (byt chX7_isBest_0 8 rfl) (byt chX7_isBest_0 9 rfl) (by decide +kernel)
theorem dX7_isBest_10 : decode cX7_isBest 10 = .ok (.aload_n 0, 1) := oq_42 (byt chX7_isBest_0 10 rfl)
theorem dX7_isBest_11 : decode cX7_isBest 11 = .ok (.iload_n 3, 1) := oq_29 (byt chX7_isBest_0 11 rfl)
theorem dX7_isBest_12 : decode cX7_isBest 12 = .ok (.iload_n 2, 1) := oq_28 (byt chX7_isBest_0 12 rfl)
theorem dX7_isBest_13 : decode cX7_isBest 13 = .ok (.invokevirtual 98, 3) := oq_182 (byt chX7_isBest_0 13 rfl) (byt chX7_isBest_0 14 rfl) (byt chX7_isBest_0 15 rfl) rfl
theorem dX7_isBest_16 : decode cX7_isBest 16 = .ok (.aload_n 0, 1) := oq_42 (byt chX7_isBest_1 0 rfl)
theorem dX7_isBest_17 : decode cX7_isBest 17 = .ok (.iload_n 1, 1) := oq_27 (byt chX7_isBest_1 1 rfl)
theorem dX7_isBest_18 : decode cX7_isBest 18 = .ok (.iload_n 2, 1) := oq_28 (byt chX7_isBest_1 2 rfl)
theorem dX7_isBest_19 : decode cX7_isBest 19 = .ok (.invokevirtual 98, 3) := oq_182 (byt chX7_isBest_1 3 rfl) (byt chX7_isBest_1 4 rfl) (byt chX7_isBest_1 5 rfl) rfl
theorem dX7_isBest_22 : decode cX7_isBest 22 = .ok (.if_icmp .le 5, 3) := oq_164 (byt chX7_isBest_1 6 rfl) (byt chX7_isBest_1 7 rfl) (byt chX7_isBest_1 8 rfl) (by decide +kernel)
theorem dX7_isBest_25 : decode cX7_isBest 25 = .ok (.iconst 0, 1) := oq_3 (byt chX7_isBest_1 9 rfl)
theorem dX7_isBest_26 : decode cX7_isBest 26 = .ok (.ireturn, 1) := oq_172 (byt chX7_isBest_1 10 rfl)
theorem dX7_isBest_27 : decode cX7_isBest 27 = .ok (.iinc 3 1, 3) := oq_132 (byt chX7_isBest_1 11 rfl) (byt chX7_isBest_1 12 rfl) (byt chX7_isBest_1 13 rfl) rfl
theorem dX7_isBest_30 : decode cX7_isBest 30 = .ok (.goto (-28), 3) := oq_167 (byt chX7_isBest_1 14 rfl) (byt chX7_isBest_1 15 rfl) (byt chX7_isBest_2 0 rfl) (by decide +kernel)
theorem dX7_isBest_33 : decode cX7_isBest 33 = .ok (.iconst 1, 1) := oq_4 (byt chX7_isBest_2 1 rfl)
theorem dX7_isBest_34 : decode cX7_isBest 34 = .ok (.ireturn, 1) := oq_172 (byt chX7_isBest_2 2 rfl)
abbrev mX7_isBest : MI := (yX7_isBest, cX7_isBest, 4, (some .boolean), noE)
theorem okX7_isBest : cok mX7_isBest 2 := ⟨tw1030, tw3, by decide, by decide, by decide, by decide +kernel⟩
def fX7_isBest (M : Mem) (a0 a1 a2 : Int) : Option Int :=
  iterC (fun (rec1 : Int → Option Int) (s2 : Int) => if M.2.1 a0 = 7 then if s2 < M.1 a0 0 then ((fX7_prizeOf M a0 s2 a2).bind fun r5 => (fX7_prizeOf M a0 a1 a2).bind fun r7 => if r7 < r5 then (some 0) else (rec1 (w32 (s2 + 1)))) else (some 1) else none) BIG 0
set_option maxRecDepth 100000 in
set_option maxHeartbeats 4000000 in
theorem kX7_isBest (d : Nat) (hd : 3 ≤ d) (M : Mem) (a0 a1 a2 : Int) : Ct mX7_isBest d 0 0 [pA a0, pI a1, pI a2] M (dI M) (fX7_isBest M a0 a1 a2) := by
  obtain ⟨d, rfl⟩ : ∃ k, d = k + 1 := ⟨d - 1, by omega⟩
  refine Ct.of 1 (fun _ _ _ => trivial) (by decide +kernel) rfl ?_
  unfold fX7_isBest
  refine v_iconst dX7_isBest_0 (by decide) ?_
  refine v_istore_n (ls' := [some (pA a0), some (pI a1), some (pI a2), some (pI 0)]) dX7_isBest_1 (by decide) rfl ?_
  refine v_loop (fun (s2 : Int) => [some (pA a0), some (pI a1), some (pI a2), some (pI s2)]) (fun (s2 : Int) => M) (s0 := 0) ?_
  intro rec1 hrec1 s2
  refine v_iload_n dX7_isBest_2 rfl ?_
  refine v_aload_n dX7_isBest_3 rfl ?_
  refine v_if (fun h3 => ?_)
  refine v_get (v := pI (M.1 a0 0)) 7 0 rfl inX7 (by decide) tw54 dX7_isBest_4 h3 rfl ?_
  refine v_icmp_ge (tgt := 33) dX7_isBest_7 (by decide) (fun c4 => ?_) (fun c4 => ?_)
  · refine v_aload_n dX7_isBest_10 rfl ?_
    refine v_iload_n dX7_isBest_11 rfl ?_
    refine v_iload_n dX7_isBest_12 rfl ?_
    refine v_cV (mi := mX7_isBest) (c0 := 0) (c1 := 0) (As := [pI s2, pI a2]) (st := []) (kX7_prizeOf d (by omega) _ _ _ _) rfl h3 rfl okX7_prizeOf (Or.inl tw1031) tw1012 tw1013 rfl (Nat.le_of_ble_eq_true rfl) dX7_isBest_13 (fun r5 => [pI r5]) (fun r5 => M) (fun _ => rfl) (fun _ => rfl) (fun r5 h6 => ?_) rfl
    refine v_aload_n dX7_isBest_16 rfl ?_
    refine v_iload_n dX7_isBest_17 rfl ?_
    refine v_iload_n dX7_isBest_18 rfl ?_
    refine v_cV (mi := mX7_isBest) (c0 := 0) (c1 := 0) (As := [pI a1, pI a2]) (st := [pI r5]) (kX7_prizeOf d (by omega) _ _ _ _) rfl h3 rfl okX7_prizeOf (Or.inl tw1031) tw1012 tw1013 rfl (Nat.le_of_ble_eq_true rfl) dX7_isBest_19 (fun r7 => [pI r7, pI r5]) (fun r7 => M) (fun _ => rfl) (fun _ => rfl) (fun r7 h8 => ?_) rfl
    refine v_icmp_le (tgt := 27) dX7_isBest_22 (by decide) (fun c9 => ?_) (fun c9 => ?_)
    · refine v_iconst dX7_isBest_25 (by decide) ?_
      exact v_breturn dX7_isBest_26 rfl (by decide) rfl
    · refine v_iinc (ls' := [some (pA a0), some (pI a1), some (pI a2), some (pI (w32 (s2 + 1)))]) dX7_isBest_27 (by decide) rfl rfl ?_
      refine v_goto (tgt := 2) dX7_isBest_30 (by decide) ?_
      exact hrec1 (w32 (s2 + 1))
  · refine v_iconst dX7_isBest_33 (by decide) ?_
    exact v_breturn dX7_isBest_34 rfl (by decide) rfl
theorem chX7_restAt_0 : (cX7_restAt.data.toList.drop 0).take 16 = [3, 61, 3, 62, 29, 42, 180, 0, 39, 162, 0, 63, 3, 54, 4, 21] := by decide +kernel
theorem chX7_restAt_1 : (cX7_restAt.data.toList.drop 16).take 16 = [4, 42, 180, 0, 39, 162, 0, 45, 42, 29, 21, 4, 182, 0, 95, 153] := by decide +kernel
theorem chX7_restAt_2 : (cX7_restAt.data.toList.drop 32).take 16 = [0, 29, 42, 21, 4, 29, 182, 0, 95, 153, 0, 19, 28, 27, 160, 0] := by decide +kernel
theorem chX7_restAt_3 : (cX7_restAt.data.toList.drop 48).take 16 = [11, 16, 6, 29, 104, 21, 4, 96, 172, 132, 2, 1, 132, 4, 1, 167] := by decide +kernel
theorem chX7_restAt_4 : (cX7_restAt.data.toList.drop 64).take 16 = [255, 208, 132, 3, 1, 167, 255, 191, 27, 2, 160, 0, 7, 28, 167, 0] := by decide +kernel
theorem chX7_restAt_5 : (cX7_restAt.data.toList.drop 80).take 16 = [4, 2, 172] := by decide +kernel
theorem dX7_restAt_0 : decode cX7_restAt 0 = .ok (.iconst 0, 1) := oq_3 (byt chX7_restAt_0 0 rfl)
theorem dX7_restAt_1 : decode cX7_restAt 1 = .ok (.istore_n 2, 1) := oq_61 (byt chX7_restAt_0 1 rfl)
theorem dX7_restAt_2 : decode cX7_restAt 2 = .ok (.iconst 0, 1) := oq_3 (byt chX7_restAt_0 2 rfl)
theorem dX7_restAt_3 : decode cX7_restAt 3 = .ok (.istore_n 3, 1) := oq_62 (byt chX7_restAt_0 3 rfl)
theorem dX7_restAt_4 : decode cX7_restAt 4 = .ok (.iload_n 3, 1) := oq_29 (byt chX7_restAt_0 4 rfl)
theorem dX7_restAt_5 : decode cX7_restAt 5 = .ok (.aload_n 0, 1) := oq_42 (byt chX7_restAt_0 5 rfl)
theorem dX7_restAt_6 : decode cX7_restAt 6 = .ok (.getfield 39, 3) := oq_180 (byt chX7_restAt_0 6 rfl) (byt chX7_restAt_0 7 rfl) (byt chX7_restAt_0 8 rfl) rfl
theorem dX7_restAt_9 : decode cX7_restAt 9 = .ok (.if_icmp .ge 63, 3) := oq_162 (byt chX7_restAt_0 9 rfl) (byt chX7_restAt_0 10 rfl) (byt chX7_restAt_0 11 rfl) (by decide +kernel)
theorem dX7_restAt_12 : decode cX7_restAt 12 = .ok (.iconst 0, 1) := oq_3 (byt chX7_restAt_0 12 rfl)
theorem dX7_restAt_13 : decode cX7_restAt 13 = .ok (.istore 4, 2) := oq_54 (byt chX7_restAt_0 13 rfl) (byt chX7_restAt_0 14 rfl) rfl
theorem dX7_restAt_15 : decode cX7_restAt 15 = .ok (.iload 4, 2) := oq_21 (byt chX7_restAt_0 15 rfl) (byt chX7_restAt_1 0 rfl) rfl
theorem dX7_restAt_17 : decode cX7_restAt 17 = .ok (.aload_n 0, 1) := oq_42 (byt chX7_restAt_1 1 rfl)
theorem dX7_restAt_18 : decode cX7_restAt 18 = .ok (.getfield 39, 3) := oq_180 (byt chX7_restAt_1 2 rfl) (byt chX7_restAt_1 3 rfl) (byt chX7_restAt_1 4 rfl) rfl
theorem dX7_restAt_21 : decode cX7_restAt 21 = .ok (.if_icmp .ge 45, 3) := oq_162 (byt chX7_restAt_1 5 rfl) (byt chX7_restAt_1 6 rfl) (byt chX7_restAt_1 7 rfl) (by decide +kernel)
theorem dX7_restAt_24 : decode cX7_restAt 24 = .ok (.aload_n 0, 1) := oq_42 (byt chX7_restAt_1 8 rfl)
theorem dX7_restAt_25 : decode cX7_restAt 25 = .ok (.iload_n 3, 1) := oq_29 (byt chX7_restAt_1 9 rfl)
theorem dX7_restAt_26 : decode cX7_restAt 26 = .ok (.iload 4, 2) := oq_21 (byt chX7_restAt_1 10 rfl) (byt chX7_restAt_1 11 rfl) rfl
theorem dX7_restAt_28 : decode cX7_restAt 28 = .ok (.invokevirtual 95, 3) := oq_182 (byt chX7_restAt_1 12 rfl) (byt chX7_restAt_1 13 rfl) (byt chX7_restAt_1 14 rfl) rfl
theorem dX7_restAt_31 : decode cX7_restAt 31 = .ok (.ifCond .eq 29, 3) := oq_153 (byt chX7_restAt_1 15 rfl) (byt chX7_restAt_2 0 rfl) (byt chX7_restAt_2 1 rfl) (by decide +kernel)
theorem dX7_restAt_34 : decode cX7_restAt 34 = .ok (.aload_n 0, 1) := oq_42 (byt chX7_restAt_2 2 rfl)
theorem dX7_restAt_35 : decode cX7_restAt 35 = .ok (.iload 4, 2) := oq_21 (byt chX7_restAt_2 3 rfl) (byt chX7_restAt_2 4 rfl) rfl
theorem dX7_restAt_37 : decode cX7_restAt 37 = .ok (.iload_n 3, 1) := oq_29 (byt chX7_restAt_2 5 rfl)
theorem dX7_restAt_38 : decode cX7_restAt 38 = .ok (.invokevirtual 95, 3) := oq_182 (byt chX7_restAt_2 6 rfl) (byt chX7_restAt_2 7 rfl) (byt chX7_restAt_2 8 rfl) rfl
theorem dX7_restAt_41 : decode cX7_restAt 41 = .ok (.ifCond .eq 19, 3) := oq_153 (byt chX7_restAt_2 9 rfl) (byt chX7_restAt_2 10 rfl) (byt chX7_restAt_2 11 rfl) (by decide +kernel)
theorem dX7_restAt_44 : decode cX7_restAt 44 = .ok (.iload_n 2, 1) := oq_28 (byt chX7_restAt_2 12 rfl)
theorem dX7_restAt_45 : decode cX7_restAt 45 = .ok (.iload_n 1, 1) := oq_27 (byt chX7_restAt_2 13 rfl)
theorem dX7_restAt_46 : decode cX7_restAt 46 = .ok (.if_icmp .ne 11, 3) := oq_160 (byt chX7_restAt_2 14 rfl) (byt chX7_restAt_2 15 rfl) (byt chX7_restAt_3 0 rfl) (by decide +kernel)
theorem dX7_restAt_49 : decode cX7_restAt 49 = .ok (.bipush 6, 2) := oq_16 (byt chX7_restAt_3 1 rfl) (byt chX7_restAt_3 2 rfl) rfl
theorem dX7_restAt_51 : decode cX7_restAt 51 = .ok (.iload_n 3, 1) := oq_29 (byt chX7_restAt_3 3 rfl)
theorem dX7_restAt_52 : decode cX7_restAt 52 = .ok (.imul, 1) := oq_104 (byt chX7_restAt_3 4 rfl)
theorem dX7_restAt_53 : decode cX7_restAt 53 = .ok (.iload 4, 2) := oq_21 (byt chX7_restAt_3 5 rfl) (byt chX7_restAt_3 6 rfl) rfl
theorem dX7_restAt_55 : decode cX7_restAt 55 = .ok (.iadd, 1) := oq_96 (byt chX7_restAt_3 7 rfl)
theorem dX7_restAt_56 : decode cX7_restAt 56 = .ok (.ireturn, 1) := oq_172 (byt chX7_restAt_3 8 rfl)
theorem dX7_restAt_57 : decode cX7_restAt 57 = .ok (.iinc 2 1, 3) := oq_132 (byt chX7_restAt_3 9 rfl) (byt chX7_restAt_3 10 rfl) (byt chX7_restAt_3 11 rfl) rfl
theorem dX7_restAt_60 : decode cX7_restAt 60 = .ok (.iinc 4 1, 3) := oq_132 (byt chX7_restAt_3 12 rfl) (byt chX7_restAt_3 13 rfl) (byt chX7_restAt_3 14 rfl) rfl
theorem dX7_restAt_63 : decode cX7_restAt 63 = .ok (.goto (-48), 3) := oq_167 (byt chX7_restAt_3 15 rfl) (byt chX7_restAt_4 0 rfl) (byt chX7_restAt_4 1 rfl) (by decide +kernel)
theorem dX7_restAt_66 : decode cX7_restAt 66 = .ok (.iinc 3 1, 3) := oq_132 (byt chX7_restAt_4 2 rfl) (byt chX7_restAt_4 3 rfl) (byt chX7_restAt_4 4 rfl) rfl
theorem dX7_restAt_69 : decode cX7_restAt 69 = .ok (.goto (-65), 3) := oq_167 (byt chX7_restAt_4 5 rfl) (byt chX7_restAt_4 6 rfl) (byt chX7_restAt_4 7 rfl) (by decide +kernel)
theorem dX7_restAt_72 : decode cX7_restAt 72 = .ok (.iload_n 1, 1) := oq_27 (byt chX7_restAt_4 8 rfl)
theorem dX7_restAt_73 : decode cX7_restAt 73 = .ok (.iconst (-1), 1) := oq_2 (byt chX7_restAt_4 9 rfl)
theorem dX7_restAt_74 : decode cX7_restAt 74 = .ok (.if_icmp .ne 7, 3) := oq_160 (byt chX7_restAt_4 10 rfl) (byt chX7_restAt_4 11 rfl) (byt chX7_restAt_4 12 rfl) (by decide +kernel)
theorem dX7_restAt_77 : decode cX7_restAt 77 = .ok (.iload_n 2, 1) := oq_28 (byt chX7_restAt_4 13 rfl)
theorem dX7_restAt_78 : decode cX7_restAt 78 = .ok (.goto 4, 3) := oq_167 (byt chX7_restAt_4 14 rfl) (byt chX7_restAt_4 15 rfl) (byt chX7_restAt_5 0 rfl) (by decide +kernel)
theorem dX7_restAt_81 : decode cX7_restAt 81 = .ok (.iconst (-1), 1) := oq_2 (byt chX7_restAt_5 1 rfl)
theorem dX7_restAt_82 : decode cX7_restAt 82 = .ok (.ireturn, 1) := oq_172 (byt chX7_restAt_5 2 rfl)
abbrev mX7_restAt : MI := (yX7_restAt, cX7_restAt, 5, (some .int), noE)
theorem okX7_restAt : cok mX7_restAt 1 := ⟨tw1026, tw3, by decide, by decide, by decide, by decide +kernel⟩
def fX7_restAt (M : Mem) (a0 a1 : Int) : Option Int :=
  iterC (fun (rec1 : (Int × Int) → Option Int) (s2 : Int × Int) => if M.2.1 a0 = 7 then if s2.2 < M.1 a0 0 then (iterC (fun (rec5 : (Int × Int) → Option Int) (s6 : Int × Int) => if s6.2 < M.1 a0 0 then ((fX7_isBest M a0 s2.2 s6.2).bind fun r8 => if r8 = 0 then (rec5 (s6.1, w32 (s6.2 + 1))) else ((fX7_isBest M a0 s6.2 s2.2).bind fun r11 => if r11 = 0 then (rec5 (s6.1, w32 (s6.2 + 1))) else (if s6.1 = a1 then (some (w32 ((w32 (6 * s2.2)) + s6.2))) else (rec5 (w32 (s6.1 + 1), w32 (s6.2 + 1)))))) else (rec1 (s6.1, w32 (s2.2 + 1)))) BIG (s2.1, 0)) else (if a1 = (-1) then (some s2.1) else (some (-1))) else none) BIG (0, 0)
set_option maxRecDepth 100000 in
set_option maxHeartbeats 4000000 in
theorem kX7_restAt (d : Nat) (hd : 4 ≤ d) (M : Mem) (a0 a1 : Int) : Ct mX7_restAt d 0 0 [pA a0, pI a1] M (dI M) (fX7_restAt M a0 a1) := by
  obtain ⟨d, rfl⟩ : ∃ k, d = k + 1 := ⟨d - 1, by omega⟩
  refine Ct.of 3 (fun _ _ _ => trivial) (by decide +kernel) rfl ?_
  unfold fX7_restAt
  refine v_iconst dX7_restAt_0 (by decide) ?_
  refine v_istore_n (ls' := [some (pA a0), some (pI a1), some (pI 0), none, none]) dX7_restAt_1 (by decide) rfl ?_
  refine v_iconst dX7_restAt_2 (by decide) ?_
  refine v_istore_n (ls' := [some (pA a0), some (pI a1), some (pI 0), some (pI 0), none]) dX7_restAt_3 (by decide) rfl ?_
  refine v_loop (fun (s2 : Int × Int) => [some (pA a0), some (pI a1), some (pI s2.1), some (pI s2.2), none]) (fun (s2 : Int × Int) => M) (s0 := (0, 0)) ?_
  intro rec1 hrec1 s2
  refine v_iload_n dX7_restAt_4 rfl ?_
  refine v_aload_n dX7_restAt_5 rfl ?_
  refine v_if (fun h3 => ?_)
  refine v_get (v := pI (M.1 a0 0)) 7 0 rfl inX7 (by decide) tw54 dX7_restAt_6 h3 rfl ?_
  refine v_icmp_ge (tgt := 72) dX7_restAt_9 (by decide) (fun c4 => ?_) (fun c4 => ?_)
  · refine v_iconst dX7_restAt_12 (by decide) ?_
    refine v_istore (ls' := [some (pA a0), some (pI a1), some (pI s2.1), some (pI s2.2), some (pI 0)]) dX7_restAt_13 (by decide) rfl ?_
    refine v_loop (fun (s6 : Int × Int) => [some (pA a0), some (pI a1), some (pI s6.1), some (pI s2.2), some (pI s6.2)]) (fun (s6 : Int × Int) => M) (s0 := (s2.1, 0)) ?_
    intro rec5 hrec5 s6
    refine v_iload dX7_restAt_15 rfl ?_
    refine v_aload_n dX7_restAt_17 rfl ?_
    refine v_get (v := pI (M.1 a0 0)) 7 0 rfl inX7 (by decide) tw54 dX7_restAt_18 h3 rfl ?_
    refine v_icmp_ge (tgt := 66) dX7_restAt_21 (by decide) (fun c7 => ?_) (fun c7 => ?_)
    · refine v_aload_n dX7_restAt_24 rfl ?_
      refine v_iload_n dX7_restAt_25 rfl ?_
      refine v_iload dX7_restAt_26 rfl ?_
      refine v_cV (mi := mX7_restAt) (c0 := 0) (c1 := 0) (As := [pI s2.2, pI s6.2]) (st := []) (kX7_isBest d (by omega) _ _ _ _) rfl h3 rfl okX7_isBest (Or.inl tw1027) tw1029 tp22 rfl (Nat.le_of_ble_eq_true rfl) dX7_restAt_28 (fun r8 => [pI r8]) (fun r8 => M) (fun _ => rfl) (fun _ => rfl) (fun r8 h9 => ?_) rfl
      refine v_if_eq (tgt := 60) dX7_restAt_31 (by decide) (fun c10 => ?_) (fun c10 => ?_)
      · refine v_iinc (ls' := [some (pA a0), some (pI a1), some (pI s6.1), some (pI s2.2), some (pI (w32 (s6.2 + 1)))]) dX7_restAt_60 (by decide) rfl rfl ?_
        refine v_goto (tgt := 15) dX7_restAt_63 (by decide) ?_
        exact hrec5 (s6.1, w32 (s6.2 + 1))
      · refine v_aload_n dX7_restAt_34 rfl ?_
        refine v_iload dX7_restAt_35 rfl ?_
        refine v_iload_n dX7_restAt_37 rfl ?_
        refine v_cV (mi := mX7_restAt) (c0 := 0) (c1 := 0) (As := [pI s6.2, pI s2.2]) (st := []) (kX7_isBest d (by omega) _ _ _ _) rfl h3 rfl okX7_isBest (Or.inl tw1027) tw1029 tp22 rfl (Nat.le_of_ble_eq_true rfl) dX7_restAt_38 (fun r11 => [pI r11]) (fun r11 => M) (fun _ => rfl) (fun _ => rfl) (fun r11 h12 => ?_) rfl
        refine v_if_eq (tgt := 60) dX7_restAt_41 (by decide) (fun c13 => ?_) (fun c13 => ?_)
        · refine v_iinc (ls' := [some (pA a0), some (pI a1), some (pI s6.1), some (pI s2.2), some (pI (w32 (s6.2 + 1)))]) dX7_restAt_60 (by decide) rfl rfl ?_
          refine v_goto (tgt := 15) dX7_restAt_63 (by decide) ?_
          exact hrec5 (s6.1, w32 (s6.2 + 1))
        · refine v_iload_n dX7_restAt_44 rfl ?_
          refine v_iload_n dX7_restAt_45 rfl ?_
          refine v_icmp_ne (tgt := 57) dX7_restAt_46 (by decide) (fun c14 => ?_) (fun c14 => ?_)
          · refine v_bipush dX7_restAt_49 (by decide) ?_
            refine v_iload_n dX7_restAt_51 rfl ?_
            refine v_imul dX7_restAt_52 ?_
            refine v_iload dX7_restAt_53 rfl ?_
            refine v_iadd dX7_restAt_55 ?_
            exact v_ireturn dX7_restAt_56 rfl rfl
          · refine v_iinc (ls' := [some (pA a0), some (pI a1), some (pI (w32 (s6.1 + 1))), some (pI s2.2), some (pI s6.2)]) dX7_restAt_57 (by decide) rfl rfl ?_
            refine v_iinc (ls' := [some (pA a0), some (pI a1), some (pI (w32 (s6.1 + 1))), some (pI s2.2), some (pI (w32 (s6.2 + 1)))]) dX7_restAt_60 (by decide) rfl rfl ?_
            refine v_goto (tgt := 15) dX7_restAt_63 (by decide) ?_
            exact hrec5 (w32 (s6.1 + 1), w32 (s6.2 + 1))
    · refine v_iinc (ls' := [some (pA a0), some (pI a1), some (pI s6.1), some (pI (w32 (s2.2 + 1))), some (pI s6.2)]) dX7_restAt_66 (by decide) rfl rfl ?_
      refine v_goto (tgt := 4) dX7_restAt_69 (by decide) ?_
      exact v_drop [some (pA a0), some (pI a1), some (pI s6.1), some (pI (w32 (s2.2 + 1))), none] (ls_s (ls_s (ls_s (ls_s (ls_n ls_e))))) (hrec1 (s6.1, w32 (s2.2 + 1)))
  · refine v_iload_n dX7_restAt_72 rfl ?_
    refine v_iconst dX7_restAt_73 (by decide) ?_
    refine v_icmp_ne (tgt := 81) dX7_restAt_74 (by decide) (fun c15 => ?_) (fun c15 => ?_)
    · refine v_iload_n dX7_restAt_77 rfl ?_
      refine v_goto (tgt := 82) dX7_restAt_78 (by decide) ?_
      exact v_ireturn dX7_restAt_82 rfl rfl
    · refine v_iconst dX7_restAt_81 (by decide) ?_
      exact v_ireturn dX7_restAt_82 rfl rfl
theorem chX6_init_0 : (cX6_init.data.toList.drop 0).take 16 = [42, 183, 0, 3, 42, 17, 2, 88, 188, 8, 181, 0, 9, 42, 3, 181] := by decide +kernel
theorem chX6_init_1 : (cX6_init.data.toList.drop 16).take 16 = [0, 15, 42, 3, 181, 0, 19, 42, 2, 181, 0, 22, 42, 7, 188, 10] := by decide +kernel
theorem chX6_init_2 : (cX6_init.data.toList.drop 32).take 16 = [181, 0, 25, 42, 5, 189, 0, 29, 181, 0, 31, 42, 5, 189, 0, 35] := by decide +kernel
theorem chX6_init_3 : (cX6_init.data.toList.drop 48).take 16 = [181, 0, 37, 42, 5, 189, 0, 41, 181, 0, 43, 42, 5, 189, 0, 47] := by decide +kernel
theorem chX6_init_4 : (cX6_init.data.toList.drop 64).take 16 = [181, 0, 49, 3, 60, 27, 5, 162, 0, 61, 42, 180, 0, 31, 27, 187] := by decide +kernel
theorem chX6_init_5 : (cX6_init.data.toList.drop 80).take 16 = [0, 29, 89, 183, 0, 53, 83, 42, 180, 0, 37, 27, 187, 0, 35, 89] := by decide +kernel
theorem chX6_init_6 : (cX6_init.data.toList.drop 96).take 16 = [183, 0, 54, 83, 42, 180, 0, 43, 27, 187, 0, 41, 89, 183, 0, 55] := by decide +kernel
theorem chX6_init_7 : (cX6_init.data.toList.drop 112).take 16 = [83, 42, 180, 0, 49, 27, 187, 0, 47, 89, 183, 0, 56, 83, 132, 1] := by decide +kernel
theorem chX6_init_8 : (cX6_init.data.toList.drop 128).take 16 = [1, 167, 255, 196, 177] := by decide +kernel
theorem dX6_init_0 : decode cX6_init 0 = .ok (.aload_n 0, 1) := oq_42 (byt chX6_init_0 0 rfl)
theorem dX6_init_1 : decode cX6_init 1 = .ok (.invokespecial 3, 3) := oq_183 (byt chX6_init_0 1 rfl) (byt chX6_init_0 2 rfl) (byt chX6_init_0 3 rfl) rfl
theorem dX6_init_4 : decode cX6_init 4 = .ok (.aload_n 0, 1) := oq_42 (byt chX6_init_0 4 rfl)
theorem dX6_init_5 : decode cX6_init 5 = .ok (.sipush 600, 3) := oq_17 (byt chX6_init_0 5 rfl) (byt chX6_init_0 6 rfl) (byt chX6_init_0 7 rfl) (by decide +kernel)
theorem dX6_init_8 : decode cX6_init 8 = .ok (.newarray .byte, 2) := by decide +kernel
theorem dX6_init_10 : decode cX6_init 10 = .ok (.putfield 9, 3) := oq_181 (byt chX6_init_0 10 rfl) (byt chX6_init_0 11 rfl) (byt chX6_init_0 12 rfl) rfl
theorem dX6_init_13 : decode cX6_init 13 = .ok (.aload_n 0, 1) := oq_42 (byt chX6_init_0 13 rfl)
theorem dX6_init_14 : decode cX6_init 14 = .ok (.iconst 0, 1) := oq_3 (byt chX6_init_0 14 rfl)
theorem dX6_init_15 : decode cX6_init 15 = .ok (.putfield 15, 3) := oq_181 (byt chX6_init_0 15 rfl) (byt chX6_init_1 0 rfl) (byt chX6_init_1 1 rfl) rfl
theorem dX6_init_18 : decode cX6_init 18 = .ok (.aload_n 0, 1) := oq_42 (byt chX6_init_1 2 rfl)
theorem dX6_init_19 : decode cX6_init 19 = .ok (.iconst 0, 1) := oq_3 (byt chX6_init_1 3 rfl)
theorem dX6_init_20 : decode cX6_init 20 = .ok (.putfield 19, 3) := oq_181 (byt chX6_init_1 4 rfl) (byt chX6_init_1 5 rfl) (byt chX6_init_1 6 rfl) rfl
theorem dX6_init_23 : decode cX6_init 23 = .ok (.aload_n 0, 1) := oq_42 (byt chX6_init_1 7 rfl)
theorem dX6_init_24 : decode cX6_init 24 = .ok (.iconst (-1), 1) := oq_2 (byt chX6_init_1 8 rfl)
theorem dX6_init_25 : decode cX6_init 25 = .ok (.putfield 22, 3) := oq_181 (byt chX6_init_1 9 rfl) (byt chX6_init_1 10 rfl) (byt chX6_init_1 11 rfl) rfl
theorem dX6_init_28 : decode cX6_init 28 = .ok (.aload_n 0, 1) := oq_42 (byt chX6_init_1 12 rfl)
theorem dX6_init_29 : decode cX6_init 29 = .ok (.iconst 4, 1) := oq_7 (byt chX6_init_1 13 rfl)
theorem dX6_init_30 : decode cX6_init 30 = .ok (.newarray .int, 2) := by decide +kernel
theorem dX6_init_32 : decode cX6_init 32 = .ok (.putfield 25, 3) := oq_181 (byt chX6_init_2 0 rfl) (byt chX6_init_2 1 rfl) (byt chX6_init_2 2 rfl) rfl
theorem dX6_init_35 : decode cX6_init 35 = .ok (.aload_n 0, 1) := oq_42 (byt chX6_init_2 3 rfl)
theorem dX6_init_36 : decode cX6_init 36 = .ok (.iconst 2, 1) := oq_5 (byt chX6_init_2 4 rfl)
theorem dX6_init_37 : decode cX6_init 37 = .ok (.anewarray 29, 3) := oq_189 (byt chX6_init_2 5 rfl) (byt chX6_init_2 6 rfl) (byt chX6_init_2 7 rfl) rfl
theorem dX6_init_40 : decode cX6_init 40 = .ok (.putfield 31, 3) := oq_181 (byt chX6_init_2 8 rfl) (byt chX6_init_2 9 rfl) (byt chX6_init_2 10 rfl) rfl
theorem dX6_init_43 : decode cX6_init 43 = .ok (.aload_n 0, 1) := oq_42 (byt chX6_init_2 11 rfl)
theorem dX6_init_44 : decode cX6_init 44 = .ok (.iconst 2, 1) := oq_5 (byt chX6_init_2 12 rfl)
theorem dX6_init_45 : decode cX6_init 45 = .ok (.anewarray 35, 3) := oq_189 (byt chX6_init_2 13 rfl) (byt chX6_init_2 14 rfl) (byt chX6_init_2 15 rfl) rfl
theorem dX6_init_48 : decode cX6_init 48 = .ok (.putfield 37, 3) := oq_181 (byt chX6_init_3 0 rfl) (byt chX6_init_3 1 rfl) (byt chX6_init_3 2 rfl) rfl
theorem dX6_init_51 : decode cX6_init 51 = .ok (.aload_n 0, 1) := oq_42 (byt chX6_init_3 3 rfl)
theorem dX6_init_52 : decode cX6_init 52 = .ok (.iconst 2, 1) := oq_5 (byt chX6_init_3 4 rfl)
theorem dX6_init_53 : decode cX6_init 53 = .ok (.anewarray 41, 3) := oq_189 (byt chX6_init_3 5 rfl) (byt chX6_init_3 6 rfl) (byt chX6_init_3 7 rfl) rfl
theorem dX6_init_56 : decode cX6_init 56 = .ok (.putfield 43, 3) := oq_181 (byt chX6_init_3 8 rfl) (byt chX6_init_3 9 rfl) (byt chX6_init_3 10 rfl) rfl
theorem dX6_init_59 : decode cX6_init 59 = .ok (.aload_n 0, 1) := oq_42 (byt chX6_init_3 11 rfl)
theorem dX6_init_60 : decode cX6_init 60 = .ok (.iconst 2, 1) := oq_5 (byt chX6_init_3 12 rfl)
theorem dX6_init_61 : decode cX6_init 61 = .ok (.anewarray 47, 3) := oq_189 (byt chX6_init_3 13 rfl) (byt chX6_init_3 14 rfl) (byt chX6_init_3 15 rfl) rfl
theorem dX6_init_64 : decode cX6_init 64 = .ok (.putfield 49, 3) := oq_181 (byt chX6_init_4 0 rfl) (byt chX6_init_4 1 rfl) (byt chX6_init_4 2 rfl) rfl
theorem dX6_init_67 : decode cX6_init 67 = .ok (.iconst 0, 1) := oq_3 (byt chX6_init_4 3 rfl)
theorem dX6_init_68 : decode cX6_init 68 = .ok (.istore_n 1, 1) := oq_60 (byt chX6_init_4 4 rfl)
theorem dX6_init_69 : decode cX6_init 69 = .ok (.iload_n 1, 1) := oq_27 (byt chX6_init_4 5 rfl)
theorem dX6_init_70 : decode cX6_init 70 = .ok (.iconst 2, 1) := oq_5 (byt chX6_init_4 6 rfl)
theorem dX6_init_71 : decode cX6_init 71 = .ok (.if_icmp .ge 61, 3) := oq_162 (byt chX6_init_4 7 rfl) (byt chX6_init_4 8 rfl) (byt chX6_init_4 9 rfl) (by decide +kernel)
theorem dX6_init_74 : decode cX6_init 74 = .ok (.aload_n 0, 1) := oq_42 (byt chX6_init_4 10 rfl)
theorem dX6_init_75 : decode cX6_init 75 = .ok (.getfield 31, 3) := oq_180 (byt chX6_init_4 11 rfl) (byt chX6_init_4 12 rfl) (byt chX6_init_4 13 rfl) rfl
theorem dX6_init_78 : decode cX6_init 78 = .ok (.iload_n 1, 1) := oq_27 (byt chX6_init_4 14 rfl)
theorem dX6_init_79 : decode cX6_init 79 = .ok (.new 29, 3) := oq_187 (byt chX6_init_4 15 rfl) (byt chX6_init_5 0 rfl) (byt chX6_init_5 1 rfl) rfl
theorem dX6_init_82 : decode cX6_init 82 = .ok (.dup, 1) := oq_89 (byt chX6_init_5 2 rfl)
theorem dX6_init_83 : decode cX6_init 83 = .ok (.invokespecial 53, 3) := oq_183 (byt chX6_init_5 3 rfl) (byt chX6_init_5 4 rfl) (byt chX6_init_5 5 rfl) rfl
theorem dX6_init_86 : decode cX6_init 86 = .ok (.aastore, 1) := oq_83 (byt chX6_init_5 6 rfl)
theorem dX6_init_87 : decode cX6_init 87 = .ok (.aload_n 0, 1) := oq_42 (byt chX6_init_5 7 rfl)
theorem dX6_init_88 : decode cX6_init 88 = .ok (.getfield 37, 3) := oq_180 (byt chX6_init_5 8 rfl) (byt chX6_init_5 9 rfl) (byt chX6_init_5 10 rfl) rfl
theorem dX6_init_91 : decode cX6_init 91 = .ok (.iload_n 1, 1) := oq_27 (byt chX6_init_5 11 rfl)
theorem dX6_init_92 : decode cX6_init 92 = .ok (.new 35, 3) := oq_187 (byt chX6_init_5 12 rfl) (byt chX6_init_5 13 rfl) (byt chX6_init_5 14 rfl) rfl
theorem dX6_init_95 : decode cX6_init 95 = .ok (.dup, 1) := oq_89 (byt chX6_init_5 15 rfl)
theorem dX6_init_96 : decode cX6_init 96 = .ok (.invokespecial 54, 3) := oq_183 (byt chX6_init_6 0 rfl) (byt chX6_init_6 1 rfl) (byt chX6_init_6 2 rfl) rfl
theorem dX6_init_99 : decode cX6_init 99 = .ok (.aastore, 1) := oq_83 (byt chX6_init_6 3 rfl)
theorem dX6_init_100 : decode cX6_init 100 = .ok (.aload_n 0, 1) := oq_42 (byt chX6_init_6 4 rfl)
theorem dX6_init_101 : decode cX6_init 101 = .ok (.getfield 43, 3) := oq_180 (byt chX6_init_6 5 rfl) (byt chX6_init_6 6 rfl) (byt chX6_init_6 7 rfl) rfl
theorem dX6_init_104 : decode cX6_init 104 = .ok (.iload_n 1, 1) := oq_27 (byt chX6_init_6 8 rfl)
theorem dX6_init_105 : decode cX6_init 105 = .ok (.new 41, 3) := oq_187 (byt chX6_init_6 9 rfl) (byt chX6_init_6 10 rfl) (byt chX6_init_6 11 rfl) rfl
theorem dX6_init_108 : decode cX6_init 108 = .ok (.dup, 1) := oq_89 (byt chX6_init_6 12 rfl)
theorem dX6_init_109 : decode cX6_init 109 = .ok (.invokespecial 55, 3) := oq_183 (byt chX6_init_6 13 rfl) (byt chX6_init_6 14 rfl) (byt chX6_init_6 15 rfl) rfl
theorem dX6_init_112 : decode cX6_init 112 = .ok (.aastore, 1) := oq_83 (byt chX6_init_7 0 rfl)
theorem dX6_init_113 : decode cX6_init 113 = .ok (.aload_n 0, 1) := oq_42 (byt chX6_init_7 1 rfl)
theorem dX6_init_114 : decode cX6_init 114 = .ok (.getfield 49, 3) := oq_180 (byt chX6_init_7 2 rfl) (byt chX6_init_7 3 rfl) (byt chX6_init_7 4 rfl) rfl
theorem dX6_init_117 : decode cX6_init 117 = .ok (.iload_n 1, 1) := oq_27 (byt chX6_init_7 5 rfl)
theorem dX6_init_118 : decode cX6_init 118 = .ok (.new 47, 3) := oq_187 (byt chX6_init_7 6 rfl) (byt chX6_init_7 7 rfl) (byt chX6_init_7 8 rfl) rfl
theorem dX6_init_121 : decode cX6_init 121 = .ok (.dup, 1) := oq_89 (byt chX6_init_7 9 rfl)
theorem dX6_init_122 : decode cX6_init 122 = .ok (.invokespecial 56, 3) := oq_183 (byt chX6_init_7 10 rfl) (byt chX6_init_7 11 rfl) (byt chX6_init_7 12 rfl) rfl
theorem dX6_init_125 : decode cX6_init 125 = .ok (.aastore, 1) := oq_83 (byt chX6_init_7 13 rfl)
theorem dX6_init_126 : decode cX6_init 126 = .ok (.iinc 1 1, 3) := oq_132 (byt chX6_init_7 14 rfl) (byt chX6_init_7 15 rfl) (byt chX6_init_8 0 rfl) rfl
theorem dX6_init_129 : decode cX6_init 129 = .ok (.goto (-60), 3) := oq_167 (byt chX6_init_8 1 rfl) (byt chX6_init_8 2 rfl) (byt chX6_init_8 3 rfl) (by decide +kernel)
theorem dX6_init_132 : decode cX6_init 132 = .ok (.return_, 1) := oq_177 (byt chX6_init_8 4 rfl)
abbrev mX6_init : MI := (yX6_init, cX6_init, 2, none, noE)
theorem okX6_init : cok mX6_init 0 := ⟨tw32, tw2, by decide, by decide, by decide, by decide +kernel⟩
def fX6_init (M : Mem) (a0 : Int) : Option Mem :=
  if (0 : Int) ≤ a0 then bM (mnew M 11 600) fun M2 => if M2.2.1 a0 = 6 then if (-1 : Int) ≤ (M.2.2.2 : Int) then bM (mst M2 a0 0 (M.2.2.2 : Int)) fun M6 => bM (mst M6 a0 1 0) fun M8 => bM (mst M8 a0 2 0) fun M10 => bM (mst M10 a0 3 (-1)) fun M12 => bM (mnew M12 12 4) fun M14 => if M14.2.1 a0 = 6 then if (-1 : Int) ≤ (M12.2.2.2 : Int) then bM (mst M14 a0 4 (M12.2.2.2 : Int)) fun M18 => bM (mnew M18 18 2) fun M20 => if M20.2.1 a0 = 6 then if (-1 : Int) ≤ (M18.2.2.2 : Int) then bM (mst M20 a0 5 (M18.2.2.2 : Int)) fun M24 => bM (mnew M24 14 2) fun M26 => if M26.2.1 a0 = 6 then if (-1 : Int) ≤ (M24.2.2.2 : Int) then bM (mst M26 a0 6 (M24.2.2.2 : Int)) fun M30 => bM (mnew M30 15 2) fun M32 => if M32.2.1 a0 = 6 then if (-1 : Int) ≤ (M30.2.2.2 : Int) then bM (mst M32 a0 7 (M30.2.2.2 : Int)) fun M36 => bM (mnew M36 16 2) fun M38 => if M38.2.1 a0 = 6 then if (-1 : Int) ≤ (M36.2.2.2 : Int) then bM (mst M38 a0 8 (M36.2.2.2 : Int)) fun M42 => iterC (fun (rec44 : (Int × Mem) → Option Mem) (s45 : Int × Mem) => if s45.1 < 2 then (if s45.2.2.1 a0 = 6 then bM (mnew s45.2 7 10) fun M48 => if (0 : Int) ≤ (s45.2.2.2.2 : Int) then (fX7_init M48 (s45.2.2.2.2 : Int)).bind fun r51 => if r51.2.1 (s45.2.2.2.2 : Int) = 7 then if r51.2.1 (s45.2.1 a0 5) = 18 ∧ (0 : Int) ≤ s45.1 ∧ s45.1 < r51.2.2.1 (s45.2.1 a0 5) then bM (mst r51 (s45.2.1 a0 5) s45.1 (s45.2.2.2.2 : Int)) fun M56 => if M56.2.1 a0 = 6 then bM (mnew M56 0 3) fun M59 => if (0 : Int) ≤ (M56.2.2.2 : Int) then (fX0_init M59 (M56.2.2.2 : Int)).bind fun r62 => if r62.2.1 (M56.2.2.2 : Int) = 0 then if r62.2.1 (M56.1 a0 6) = 14 ∧ (0 : Int) ≤ s45.1 ∧ s45.1 < r62.2.2.1 (M56.1 a0 6) then bM (mst r62 (M56.1 a0 6) s45.1 (M56.2.2.2 : Int)) fun M67 => if M67.2.1 a0 = 6 then bM (mnew M67 1 5) fun M70 => if (0 : Int) ≤ (M67.2.2.2 : Int) then (fX1_init M70 (M67.2.2.2 : Int)).bind fun r73 => if r73.2.1 (M67.2.2.2 : Int) = 1 then if r73.2.1 (M67.1 a0 7) = 15 ∧ (0 : Int) ≤ s45.1 ∧ s45.1 < r73.2.2.1 (M67.1 a0 7) then bM (mst r73 (M67.1 a0 7) s45.1 (M67.2.2.2 : Int)) fun M78 => if M78.2.1 a0 = 6 then bM (mnew M78 4 4) fun M81 => if (0 : Int) ≤ (M78.2.2.2 : Int) then (fX4_init M81 (M78.2.2.2 : Int)).bind fun r84 => if r84.2.1 (M78.2.2.2 : Int) = 4 then if r84.2.1 (M78.1 a0 8) = 16 ∧ (0 : Int) ≤ s45.1 ∧ s45.1 < r84.2.2.1 (M78.1 a0 8) then bM (mst r84 (M78.1 a0 8) s45.1 (M78.2.2.2 : Int)) fun M89 => rec44 (w32 (s45.1 + 1), M89) else none else none else none else none else none else none else none else none else none else none else none else none else none else none else none else none) else (some s45.2)) BIG (0, M42) else none else none else none else none else none else none else none else none else none else none else none else none else none
set_option maxRecDepth 100000 in
set_option maxHeartbeats 4000000 in
theorem kX6_init (d : Nat) (hd : 3 ≤ d) (M : Mem) (a0 : Int) : Ct mX6_init d 44 1248 [pA a0] M dV (fX6_init M a0) := by
  obtain ⟨d, rfl⟩ : ∃ k, d = k + 1 := ⟨d - 1, by omega⟩
  refine Ct.of 1 (fun _ _ _ => trivial) (by decide +kernel) rfl ?_
  unfold fX6_init
  refine v_aload_n dX6_init_0 rfl ?_
  refine v_if (fun h1 => ?_)
  refine v_objInit (mi := mX6_init) h1 tw33 tw26 tw27 (Nat.le_of_ble_eq_true rfl) dX6_init_1 ?_
  refine v_aload_n dX6_init_4 rfl ?_
  refine v_sipush dX6_init_5 (by decide) ?_
  refine v_newarray (t := .byte) (n := 600) 11 (by decide) (by decide) tw120 dX6_init_8 ?_
  refine v_bM (fun M2 e3 => ?_)
  refine v_if (fun h4 => ?_)
  refine v_if (fun h5 => ?_)
  refine v_put (x := (M.2.2.2 : Int)) 6 0 rfl inX6 (by decide) tw204 (Or.inr ⟨rfl, rfl, rfl⟩) rfl dX6_init_10 h4 rfl (fun _ => h5) ?_
  refine v_bM (fun M6 e7 => ?_)
  refine v_aload_n dX6_init_13 rfl ?_
  refine v_iconst dX6_init_14 (by decide) ?_
  refine v_put (x := 0) 6 1 rfl inX6 (by decide) tw206 (Or.inl rfl) rfl dX6_init_15 (by rw [e7]; exact h4) rfl id ?_
  refine v_bM (fun M8 e9 => ?_)
  refine v_aload_n dX6_init_18 rfl ?_
  refine v_iconst dX6_init_19 (by decide) ?_
  refine v_put (x := 0) 6 2 rfl inX6 (by decide) tw208 (Or.inl rfl) rfl dX6_init_20 (by rw [e9, e7]; exact h4) rfl id ?_
  refine v_bM (fun M10 e11 => ?_)
  refine v_aload_n dX6_init_23 rfl ?_
  refine v_iconst dX6_init_24 (by decide) ?_
  refine v_put (x := (-1)) 6 3 rfl inX6 (by decide) tw210 (Or.inl rfl) rfl dX6_init_25 (by rw [e11, e9, e7]; exact h4) rfl id ?_
  refine v_bM (fun M12 e13 => ?_)
  refine v_aload_n dX6_init_28 rfl ?_
  refine v_iconst dX6_init_29 (by decide) ?_
  refine v_newarray (t := .int) (n := 4) 12 (by decide) (by decide) tw121 dX6_init_30 ?_
  refine v_bM (fun M14 e15 => ?_)
  refine v_if (fun h16 => ?_)
  refine v_if (fun h17 => ?_)
  refine v_put (x := (M12.2.2.2 : Int)) 6 4 rfl inX6 (by decide) tw212 (Or.inr ⟨rfl, rfl, rfl⟩) rfl dX6_init_32 h16 rfl (fun _ => h17) ?_
  refine v_bM (fun M18 e19 => ?_)
  refine v_aload_n dX6_init_35 rfl ?_
  refine v_iconst dX6_init_36 (by decide) ?_
  refine v_anewarray (n := 2) 18 "OneBack$Town" (by decide +kernel) (by decide) tw34 dX6_init_37 ?_
  refine v_bM (fun M20 e21 => ?_)
  refine v_if (fun h22 => ?_)
  refine v_if (fun h23 => ?_)
  refine v_put (x := (M18.2.2.2 : Int)) 6 5 rfl inX6 (by decide) tw214 (Or.inr ⟨rfl, rfl, rfl⟩) rfl dX6_init_40 h22 rfl (fun _ => h23) ?_
  refine v_bM (fun M24 e25 => ?_)
  refine v_aload_n dX6_init_43 rfl ?_
  refine v_iconst dX6_init_44 (by decide) ?_
  refine v_anewarray (n := 2) 14 "OneBack$Law" (by decide +kernel) (by decide) tw36 dX6_init_45 ?_
  refine v_bM (fun M26 e27 => ?_)
  refine v_if (fun h28 => ?_)
  refine v_if (fun h29 => ?_)
  refine v_put (x := (M24.2.2.2 : Int)) 6 6 rfl inX6 (by decide) tw216 (Or.inr ⟨rfl, rfl, rfl⟩) rfl dX6_init_48 h28 rfl (fun _ => h29) ?_
  refine v_bM (fun M30 e31 => ?_)
  refine v_aload_n dX6_init_51 rfl ?_
  refine v_iconst dX6_init_52 (by decide) ?_
  refine v_anewarray (n := 2) 15 "OneBack$Nights" (by decide +kernel) (by decide) tw38 dX6_init_53 ?_
  refine v_bM (fun M32 e33 => ?_)
  refine v_if (fun h34 => ?_)
  refine v_if (fun h35 => ?_)
  refine v_put (x := (M30.2.2.2 : Int)) 6 7 rfl inX6 (by decide) tw218 (Or.inr ⟨rfl, rfl, rfl⟩) rfl dX6_init_56 h34 rfl (fun _ => h35) ?_
  refine v_bM (fun M36 e37 => ?_)
  refine v_aload_n dX6_init_59 rfl ?_
  refine v_iconst dX6_init_60 (by decide) ?_
  refine v_anewarray (n := 2) 16 "OneBack$Sight" (by decide +kernel) (by decide) tw40 dX6_init_61 ?_
  refine v_bM (fun M38 e39 => ?_)
  refine v_if (fun h40 => ?_)
  refine v_if (fun h41 => ?_)
  refine v_put (x := (M36.2.2.2 : Int)) 6 8 rfl inX6 (by decide) tw219 (Or.inr ⟨rfl, rfl, rfl⟩) rfl dX6_init_64 h40 rfl (fun _ => h41) ?_
  refine v_bM (fun M42 e43 => ?_)
  refine v_iconst dX6_init_67 (by decide) ?_
  refine v_istore_n (ls' := [some (pA a0), some (pI 0)]) dX6_init_68 (by decide) rfl ?_
  refine v_loopB (fun (s45 : Int × Mem) => [some (pA a0), some (pI s45.1)]) (fun (s45 : Int × Mem) => s45.2) (fun (s45 : Int × Mem) => 19 * (2 - s45.1).toNat + 0) (fun (s45 : Int × Mem) => 318 * (2 - s45.1).toNat + 0) (s0 := (0, M42)) rfl rfl ?_
  intro rec44 hrec44 s45
  refine v_pure (P := r32 s45.1) (fun _ hL _ => hL 1 _ rfl) (fun hri => ?_)
  refine v_iload_n dX6_init_69 rfl ?_
  refine v_iconst dX6_init_70 (by decide) ?_
  refine v_icmp_ge (tgt := 132) dX6_init_71 (by decide) (fun c46 => ?_) (fun c46 => ?_)
  · have hb1 : 19 * (2 - s45.1).toNat + 0 = (19 * (2 - w32 (s45.1 + 1)).toNat + 0) + 19 := by unfold r32 at hri; unfold w32; omega
    have hb2 : 318 * (2 - s45.1).toNat + 0 = (318 * (2 - w32 (s45.1 + 1)).toNat + 0) + 318 := by unfold r32 at hri; unfold w32; omega
    rw [hb1, hb2]
    refine v_aload_n dX6_init_74 rfl ?_
    refine v_if (fun h47 => ?_)
    refine v_get (v := pA (s45.2.1 a0 5)) 6 5 rfl inX6 (by decide) tw214 dX6_init_75 h47 rfl ?_
    refine v_iload_n dX6_init_78 rfl ?_
    refine v_new (N := 10) 7 rfl inX7 tw34 tw42 tw3 ftX7 dX6_init_79 ?_
    refine v_bM (fun M48 e49 => ?_)
    have h50 : M48.2.1 (s45.2.2.2.2 : Int) = 7 := by rw [e49]; exact mnew_k
    refine v_dup dX6_init_82 (by intro z hz; cases hz) ?_
    refine v_if (fun h53 => ?_)
    refine v_cI (mi := mX6_init) (c0 := 8) (c1 := 90) (As := []) (st := [pA (s45.2.2.2.2 : Int), pI s45.1, pA (s45.2.1 a0 5)]) (kX7_init d (by omega) _ _) h53 okX7_init rfl rfl (Or.inl tw43) tw44 rfl (Nat.le_of_ble_eq_true rfl) dX6_init_83 (fun r51 => [pA (s45.2.2.2.2 : Int), pI s45.1, pA (s45.2.1 a0 5)]) (fun r51 => r51) (fun _ => rfl) (fun _ => rfl) (fun r51 h52 => ?_) rfl
    refine v_if (fun h54 => ?_)
    refine v_if (fun h55 => ?_)
    refine v_aastore (C := "") (T := TX0) (N := 0) 18 7 (by decide) h55 h54 dX6_init_86 ?_
    refine v_bM (fun M56 e57 => ?_)
    refine v_aload_n dX6_init_87 rfl ?_
    refine v_if (fun h58 => ?_)
    refine v_get (v := pA (M56.1 a0 6)) 6 6 rfl inX6 (by decide) tw216 dX6_init_88 h58 rfl ?_
    refine v_iload_n dX6_init_91 rfl ?_
    refine v_new (N := 3) 0 rfl inX0 tw36 tw122 tw4 ftX0 dX6_init_92 ?_
    refine v_bM (fun M59 e60 => ?_)
    have h61 : M59.2.1 (M56.2.2.2 : Int) = 0 := by rw [e60]; exact mnew_k
    refine v_dup dX6_init_95 (by intro z hz; cases hz) ?_
    refine v_if (fun h64 => ?_)
    refine v_cI (mi := mX6_init) (c0 := 0) (c1 := 0) (As := []) (st := [pA (M56.2.2.2 : Int), pI s45.1, pA (M56.1 a0 6)]) (kX0_init d (by omega) _ _) h64 okX0_init rfl rfl (Or.inr nw1) tw124 rfl (Nat.le_of_ble_eq_true rfl) dX6_init_96 (fun r62 => [pA (M56.2.2.2 : Int), pI s45.1, pA (M56.1 a0 6)]) (fun r62 => r62) (fun _ => rfl) (fun _ => rfl) (fun r62 h63 => ?_) rfl
    refine v_if (fun h65 => ?_)
    refine v_if (fun h66 => ?_)
    refine v_aastore (C := "") (T := TX0) (N := 0) 14 0 (by decide) h66 h65 dX6_init_99 ?_
    refine v_bM (fun M67 e68 => ?_)
    refine v_aload_n dX6_init_100 rfl ?_
    refine v_if (fun h69 => ?_)
    refine v_get (v := pA (M67.1 a0 7)) 6 7 rfl inX6 (by decide) tw218 dX6_init_101 h69 rfl ?_
    refine v_iload_n dX6_init_104 rfl ?_
    refine v_new (N := 5) 1 rfl inX1 tw38 tw143 tw5 ftX1 dX6_init_105 ?_
    refine v_bM (fun M70 e71 => ?_)
    have h72 : M70.2.1 (M67.2.2.2 : Int) = 1 := by rw [e71]; exact mnew_k
    refine v_dup dX6_init_108 (by intro z hz; cases hz) ?_
    refine v_if (fun h75 => ?_)
    refine v_cI (mi := mX6_init) (c0 := 4) (c1 := 160) (As := []) (st := [pA (M67.2.2.2 : Int), pI s45.1, pA (M67.1 a0 7)]) (kX1_init d (by omega) _ _) h75 okX1_init rfl rfl (Or.inr nw2) tw145 rfl (Nat.le_of_ble_eq_true rfl) dX6_init_109 (fun r73 => [pA (M67.2.2.2 : Int), pI s45.1, pA (M67.1 a0 7)]) (fun r73 => r73) (fun _ => rfl) (fun _ => rfl) (fun r73 h74 => ?_) rfl
    refine v_if (fun h76 => ?_)
    refine v_if (fun h77 => ?_)
    refine v_aastore (C := "") (T := TX0) (N := 0) 15 1 (by decide) h77 h76 dX6_init_112 ?_
    refine v_bM (fun M78 e79 => ?_)
    refine v_aload_n dX6_init_113 rfl ?_
    refine v_if (fun h80 => ?_)
    refine v_get (v := pA (M78.1 a0 8)) 6 8 rfl inX6 (by decide) tw219 dX6_init_114 h80 rfl ?_
    refine v_iload_n dX6_init_117 rfl ?_
    refine v_new (N := 4) 4 rfl inX4 tw40 tw175 tw6 ftX4 dX6_init_118 ?_
    refine v_bM (fun M81 e82 => ?_)
    have h83 : M81.2.1 (M78.2.2.2 : Int) = 4 := by rw [e82]; exact mnew_k
    refine v_dup dX6_init_121 (by intro z hz; cases hz) ?_
    refine v_if (fun h86 => ?_)
    refine v_cI (mi := mX6_init) (c0 := 3) (c1 := 46) (As := []) (st := [pA (M78.2.2.2 : Int), pI s45.1, pA (M78.1 a0 8)]) (kX4_init d (by omega) _ _) h86 okX4_init rfl rfl (Or.inl tw176) tw177 rfl (Nat.le_of_ble_eq_true rfl) dX6_init_122 (fun r84 => [pA (M78.2.2.2 : Int), pI s45.1, pA (M78.1 a0 8)]) (fun r84 => r84) (fun _ => rfl) (fun _ => rfl) (fun r84 h85 => ?_) rfl
    refine v_if (fun h87 => ?_)
    refine v_if (fun h88 => ?_)
    refine v_aastore (C := "") (T := TX0) (N := 0) 16 4 (by decide) h88 h87 dX6_init_125 ?_
    refine v_bM (fun M89 e90 => ?_)
    refine v_iinc (ls' := [some (pA a0), some (pI (w32 (s45.1 + 1)))]) dX6_init_126 (by decide) rfl rfl ?_
    refine v_goto (tgt := 69) dX6_init_129 (by decide) ?_
    exact hrec44 (w32 (s45.1 + 1), M89)
  · refine v_bw (bc' := 0) (bs' := 0) (by omega) (by omega) ?_
    exact v_return dX6_init_132 rfl rfl
theorem chX6_put_0 : (cX6_put.data.toList.drop 0).take 16 = [16, 24, 61, 28, 155, 0, 42, 42, 180, 0, 15, 17, 2, 88, 162, 0] := by decide +kernel
theorem chX6_put_1 : (cX6_put.data.toList.drop 16).take 16 = [32, 42, 180, 0, 9, 42, 180, 0, 15, 27, 28, 124, 145, 84, 42, 89] := by decide +kernel
theorem chX6_put_2 : (cX6_put.data.toList.drop 32).take 16 = [180, 0, 15, 4, 96, 181, 0, 15, 132, 2, 248, 167, 255, 216, 177] := by decide +kernel
theorem dX6_put_0 : decode cX6_put 0 = .ok (.bipush 24, 2) := oq_16 (byt chX6_put_0 0 rfl) (byt chX6_put_0 1 rfl) rfl
theorem dX6_put_2 : decode cX6_put 2 = .ok (.istore_n 2, 1) := oq_61 (byt chX6_put_0 2 rfl)
theorem dX6_put_3 : decode cX6_put 3 = .ok (.iload_n 2, 1) := oq_28 (byt chX6_put_0 3 rfl)
theorem dX6_put_4 : decode cX6_put 4 = .ok (.ifCond .lt 42, 3) := oq_155 (byt chX6_put_0 4 rfl) (byt chX6_put_0 5 rfl) (byt chX6_put_0 6 rfl) (by decide +kernel)
theorem dX6_put_7 : decode cX6_put 7 = .ok (.aload_n 0, 1) := oq_42 (byt chX6_put_0 7 rfl)
theorem dX6_put_8 : decode cX6_put 8 = .ok (.getfield 15, 3) := oq_180 (byt chX6_put_0 8 rfl) (byt chX6_put_0 9 rfl) (byt chX6_put_0 10 rfl) rfl
theorem dX6_put_11 : decode cX6_put 11 = .ok (.sipush 600, 3) := oq_17 (byt chX6_put_0 11 rfl) (byt chX6_put_0 12 rfl) (byt chX6_put_0 13 rfl) (by decide +kernel)
theorem dX6_put_14 : decode cX6_put 14 = .ok (.if_icmp .ge 32, 3) := oq_162 (byt chX6_put_0 14 rfl) (byt chX6_put_0 15 rfl) (byt chX6_put_1 0 rfl) (by decide +kernel)
theorem dX6_put_17 : decode cX6_put 17 = .ok (.aload_n 0, 1) := oq_42 (byt chX6_put_1 1 rfl)
theorem dX6_put_18 : decode cX6_put 18 = .ok (.getfield 9, 3) := oq_180 (byt chX6_put_1 2 rfl) (byt chX6_put_1 3 rfl) (byt chX6_put_1 4 rfl) rfl
theorem dX6_put_21 : decode cX6_put 21 = .ok (.aload_n 0, 1) := oq_42 (byt chX6_put_1 5 rfl)
theorem dX6_put_22 : decode cX6_put 22 = .ok (.getfield 15, 3) := oq_180 (byt chX6_put_1 6 rfl) (byt chX6_put_1 7 rfl) (byt chX6_put_1 8 rfl) rfl
theorem dX6_put_25 : decode cX6_put 25 = .ok (.iload_n 1, 1) := oq_27 (byt chX6_put_1 9 rfl)
theorem dX6_put_26 : decode cX6_put 26 = .ok (.iload_n 2, 1) := oq_28 (byt chX6_put_1 10 rfl)
theorem dX6_put_27 : decode cX6_put 27 = .ok (.iushr, 1) := oq_124 (byt chX6_put_1 11 rfl)
theorem dX6_put_28 : decode cX6_put 28 = .ok (.i2b, 1) := oq_145 (byt chX6_put_1 12 rfl)
theorem dX6_put_29 : decode cX6_put 29 = .ok (.bastore, 1) := oq_84 (byt chX6_put_1 13 rfl)
theorem dX6_put_30 : decode cX6_put 30 = .ok (.aload_n 0, 1) := oq_42 (byt chX6_put_1 14 rfl)
theorem dX6_put_31 : decode cX6_put 31 = .ok (.dup, 1) := oq_89 (byt chX6_put_1 15 rfl)
theorem dX6_put_32 : decode cX6_put 32 = .ok (.getfield 15, 3) := oq_180 (byt chX6_put_2 0 rfl) (byt chX6_put_2 1 rfl) (byt chX6_put_2 2 rfl) rfl
theorem dX6_put_35 : decode cX6_put 35 = .ok (.iconst 1, 1) := oq_4 (byt chX6_put_2 3 rfl)
theorem dX6_put_36 : decode cX6_put 36 = .ok (.iadd, 1) := oq_96 (byt chX6_put_2 4 rfl)
theorem dX6_put_37 : decode cX6_put 37 = .ok (.putfield 15, 3) := oq_181 (byt chX6_put_2 5 rfl) (byt chX6_put_2 6 rfl) (byt chX6_put_2 7 rfl) rfl
theorem dX6_put_40 : decode cX6_put 40 = .ok (.iinc 2 (-8), 3) := oq_132 (byt chX6_put_2 8 rfl) (byt chX6_put_2 9 rfl) (byt chX6_put_2 10 rfl) rfl
theorem dX6_put_43 : decode cX6_put 43 = .ok (.goto (-40), 3) := oq_167 (byt chX6_put_2 11 rfl) (byt chX6_put_2 12 rfl) (byt chX6_put_2 13 rfl) (by decide +kernel)
theorem dX6_put_46 : decode cX6_put 46 = .ok (.return_, 1) := oq_177 (byt chX6_put_2 14 rfl)
abbrev mX6_put : MI := (yX6_put, cX6_put, 3, none, noE)
theorem okX6_put : cok mX6_put 1 := ⟨tw447, tw2, by decide, by decide, by decide, by decide +kernel⟩
def fX6_put (M : Mem) (a0 a1 : Int) : Option Mem :=
  iterC (fun (rec1 : (Int × Mem) → Option Mem) (s2 : Int × Mem) => if s2.1 < 0 then (some s2.2) else (if s2.2.2.1 a0 = 6 then if s2.2.1 a0 1 < 600 then (if s2.2.2.1 (s2.2.1 a0 0) = 11 ∧ (0 : Int) ≤ (s2.2.1 a0 1) ∧ (s2.2.1 a0 1) < s2.2.2.2.1 (s2.2.1 a0 0) then bM (mst s2.2 (s2.2.1 a0 0) (s2.2.1 a0 1) (w8 (bUshr a1 s2.1))) fun M7 => bM (mst M7 a0 1 (w32 ((M7.1 a0 1) + 1))) fun M9 => rec1 (w32 (s2.1 + (-8)), M9) else none) else (some s2.2) else none)) BIG (24, M)
set_option maxRecDepth 100000 in
set_option maxHeartbeats 4000000 in
theorem kX6_put (d : Nat) (hd : 0 ≤ d) (M : Mem) (a0 a1 : Int) : Ct mX6_put d 0 0 [pA a0, pI a1] M dV (fX6_put M a0 a1) := by
  refine Ct.of 1 (fun _ _ _ => trivial) (by decide +kernel) rfl ?_
  unfold fX6_put
  refine v_bipush dX6_put_0 (by decide) ?_
  refine v_istore_n (ls' := [some (pA a0), some (pI a1), some (pI 24)]) dX6_put_2 (by decide) rfl ?_
  refine v_loop (fun (s2 : Int × Mem) => [some (pA a0), some (pI a1), some (pI s2.1)]) (fun (s2 : Int × Mem) => s2.2) (s0 := (24, M)) ?_
  intro rec1 hrec1 s2
  refine v_iload_n dX6_put_3 rfl ?_
  refine v_if_lt (tgt := 46) dX6_put_4 (by decide) (fun c3 => ?_) (fun c3 => ?_)
  · exact v_return dX6_put_46 rfl rfl
  · refine v_aload_n dX6_put_7 rfl ?_
    refine v_if (fun h4 => ?_)
    refine v_get (v := pI (s2.2.1 a0 1)) 6 1 rfl inX6 (by decide) tw206 dX6_put_8 h4 rfl ?_
    refine v_sipush dX6_put_11 (by decide) ?_
    refine v_icmp_ge (tgt := 46) dX6_put_14 (by decide) (fun c5 => ?_) (fun c5 => ?_)
    · refine v_aload_n dX6_put_17 rfl ?_
      refine v_get (v := pA (s2.2.1 a0 0)) 6 0 rfl inX6 (by decide) tw204 dX6_put_18 h4 rfl ?_
      refine v_aload_n dX6_put_21 rfl ?_
      refine v_get (v := pI (s2.2.1 a0 1)) 6 1 rfl inX6 (by decide) tw206 dX6_put_22 h4 rfl ?_
      refine v_iload_n dX6_put_25 rfl ?_
      refine v_iload_n dX6_put_26 rfl ?_
      refine v_iushr dX6_put_27 ?_
      refine v_i2b dX6_put_28 ?_
      refine v_if (fun h6 => ?_)
      refine v_bastore h6 (w8_r _) dX6_put_29 ?_
      refine v_bM (fun M7 e8 => ?_)
      refine v_aload_n dX6_put_30 rfl ?_
      refine v_dup dX6_put_31 (by intro z hz; cases hz) ?_
      refine v_get (v := pI (M7.1 a0 1)) 6 1 rfl inX6 (by decide) tw206 dX6_put_32 (by rw [e8]; exact h4) rfl ?_
      refine v_iconst dX6_put_35 (by decide) ?_
      refine v_iadd dX6_put_36 ?_
      refine v_put (x := w32 ((M7.1 a0 1) + 1)) 6 1 rfl inX6 (by decide) tw206 (Or.inl rfl) rfl dX6_put_37 (by rw [e8]; exact h4) rfl id ?_
      refine v_bM (fun M9 e10 => ?_)
      refine v_iinc (ls' := [some (pA a0), some (pI a1), some (pI (w32 (s2.1 + (-8))))]) dX6_put_40 (by decide) rfl rfl ?_
      refine v_goto (tgt := 3) dX6_put_43 (by decide) ?_
      exact hrec1 (w32 (s2.1 + (-8)), M9)
    · exact v_return dX6_put_46 rfl rfl
theorem chX6_isThere_0 : (cX6_isThere.data.toList.drop 0).take 16 = [28, 155, 0, 22, 28, 42, 180, 0, 25, 27, 46, 162, 0, 12, 28, 5] := by decide +kernel
theorem chX6_isThere_1 : (cX6_isThere.data.toList.drop 16).take 16 = [162, 0, 7, 4, 167, 0, 4, 3, 172] := by decide +kernel
theorem dX6_isThere_0 : decode cX6_isThere 0 = .ok (.iload_n 2, 1) := oq_28 (byt chX6_isThere_0 0 rfl)
theorem dX6_isThere_1 : decode cX6_isThere 1 = .ok (.ifCond .lt 22, 3) := oq_155 (byt chX6_isThere_0 1 rfl) (byt chX6_isThere_0 2 rfl) (byt chX6_isThere_0 3 rfl) (by decide +kernel)
theorem dX6_isThere_4 : decode cX6_isThere 4 = .ok (.iload_n 2, 1) := oq_28 (byt chX6_isThere_0 4 rfl)
theorem dX6_isThere_5 : decode cX6_isThere 5 = .ok (.aload_n 0, 1) := oq_42 (byt chX6_isThere_0 5 rfl)
theorem dX6_isThere_6 : decode cX6_isThere 6 = .ok (.getfield 25, 3) := oq_180 (byt chX6_isThere_0 6 rfl) (byt chX6_isThere_0 7 rfl) (byt chX6_isThere_0 8 rfl) rfl
theorem dX6_isThere_9 : decode cX6_isThere 9 = .ok (.iload_n 1, 1) := oq_27 (byt chX6_isThere_0 9 rfl)
theorem dX6_isThere_10 : decode cX6_isThere 10 = .ok (.iaload, 1) := oq_46 (byt chX6_isThere_0 10 rfl)
theorem dX6_isThere_11 : decode cX6_isThere 11 = .ok (.if_icmp .ge 12, 3) := oq_162 (byt chX6_isThere_0 11 rfl) (byt chX6_isThere_0 12 rfl) (byt chX6_isThere_0 13 rfl) (by decide +kernel)
theorem dX6_isThere_14 : decode cX6_isThere 14 = .ok (.iload_n 2, 1) := oq_28 (byt chX6_isThere_0 14 rfl)
theorem dX6_isThere_15 : decode cX6_isThere 15 = .ok (.iconst 2, 1) := oq_5 (byt chX6_isThere_0 15 rfl)
theorem dX6_isThere_16 : decode cX6_isThere 16 = .ok (.if_icmp .ge 7, 3) := oq_162 (byt chX6_isThere_1 0 rfl) (byt chX6_isThere_1 1 rfl) (byt chX6_isThere_1 2 rfl) (by decide +kernel)
theorem dX6_isThere_19 : decode cX6_isThere 19 = .ok (.iconst 1, 1) := oq_4 (byt chX6_isThere_1 3 rfl)
theorem dX6_isThere_20 : decode cX6_isThere 20 = .ok (.goto 4, 3) := oq_167 (byt chX6_isThere_1 4 rfl) (byt chX6_isThere_1 5 rfl) (byt chX6_isThere_1 6 rfl) (by decide +kernel)
theorem dX6_isThere_23 : decode cX6_isThere 23 = .ok (.iconst 0, 1) := oq_3 (byt chX6_isThere_1 7 rfl)
theorem dX6_isThere_24 : decode cX6_isThere 24 = .ok (.ireturn, 1) := oq_172 (byt chX6_isThere_1 8 rfl)
abbrev mX6_isThere : MI := (yX6_isThere, cX6_isThere, 3, (some .boolean), noE)
theorem okX6_isThere : cok mX6_isThere 2 := ⟨tw463, tw2, by decide, by decide, by decide, by decide +kernel⟩
def fX6_isThere (M : Mem) (a0 a1 a2 : Int) : Option Int :=
  if a2 < 0 then (some 0) else (if M.2.1 a0 = 6 then if M.2.1 (M.1 a0 4) = 12 ∧ (0 : Int) ≤ a1 ∧ a1 < M.2.2.1 (M.1 a0 4) then if a2 < M.1 (M.1 a0 4) a1 then (if a2 < 2 then (some 1) else (some 0)) else (some 0) else none else none)
set_option maxRecDepth 100000 in
set_option maxHeartbeats 4000000 in
theorem kX6_isThere (d : Nat) (hd : 0 ≤ d) (M : Mem) (a0 a1 a2 : Int) : Ct mX6_isThere d 0 0 [pA a0, pI a1, pI a2] M (dI M) (fX6_isThere M a0 a1 a2) := by
  refine Ct.of 0 (fun _ _ _ => trivial) (by decide +kernel) rfl ?_
  unfold fX6_isThere
  refine v_iload_n dX6_isThere_0 rfl ?_
  refine v_if_lt (tgt := 23) dX6_isThere_1 (by decide) (fun c1 => ?_) (fun c1 => ?_)
  · refine v_iconst dX6_isThere_23 (by decide) ?_
    exact v_breturn dX6_isThere_24 rfl (by decide) rfl
  · refine v_iload_n dX6_isThere_4 rfl ?_
    refine v_aload_n dX6_isThere_5 rfl ?_
    refine v_if (fun h2 => ?_)
    refine v_get (v := pA (M.1 a0 4)) 6 4 rfl inX6 (by decide) tw212 dX6_isThere_6 h2 rfl ?_
    refine v_iload_n dX6_isThere_9 rfl ?_
    refine v_if (fun h3 => ?_)
    refine v_iaload h3 dX6_isThere_10 ?_
    refine v_icmp_ge (tgt := 23) dX6_isThere_11 (by decide) (fun c4 => ?_) (fun c4 => ?_)
    · refine v_iload_n dX6_isThere_14 rfl ?_
      refine v_iconst dX6_isThere_15 (by decide) ?_
      refine v_icmp_ge (tgt := 23) dX6_isThere_16 (by decide) (fun c5 => ?_) (fun c5 => ?_)
      · refine v_iconst dX6_isThere_19 (by decide) ?_
        refine v_goto (tgt := 24) dX6_isThere_20 (by decide) ?_
        exact v_breturn dX6_isThere_24 rfl (by decide) rfl
      · refine v_iconst dX6_isThere_23 (by decide) ?_
        exact v_breturn dX6_isThere_24 rfl (by decide) rfl
    · refine v_iconst dX6_isThere_23 (by decide) ?_
      exact v_breturn dX6_isThere_24 rfl (by decide) rfl
theorem chX6_townAt_0 : (cX6_townAt.data.toList.drop 0).take 16 = [42, 3, 27, 182, 0, 57, 153, 0, 12, 42, 180, 0, 31, 27, 50, 167] := by decide +kernel
theorem chX6_townAt_1 : (cX6_townAt.data.toList.drop 16).take 16 = [0, 4, 1, 176] := by decide +kernel
theorem dX6_townAt_0 : decode cX6_townAt 0 = .ok (.aload_n 0, 1) := oq_42 (byt chX6_townAt_0 0 rfl)
theorem dX6_townAt_1 : decode cX6_townAt 1 = .ok (.iconst 0, 1) := oq_3 (byt chX6_townAt_0 1 rfl)
theorem dX6_townAt_2 : decode cX6_townAt 2 = .ok (.iload_n 1, 1) := oq_27 (byt chX6_townAt_0 2 rfl)
theorem dX6_townAt_3 : decode cX6_townAt 3 = .ok (.invokevirtual 57, 3) := oq_182 (byt chX6_townAt_0 3 rfl) (byt chX6_townAt_0 4 rfl) (byt chX6_townAt_0 5 rfl) rfl
theorem dX6_townAt_6 : decode cX6_townAt 6 = .ok (.ifCond .eq 12, 3) := oq_153 (byt chX6_townAt_0 6 rfl) (byt chX6_townAt_0 7 rfl) (byt chX6_townAt_0 8 rfl) (by decide +kernel)
theorem dX6_townAt_9 : decode cX6_townAt 9 = .ok (.aload_n 0, 1) := oq_42 (byt chX6_townAt_0 9 rfl)
theorem dX6_townAt_10 : decode cX6_townAt 10 = .ok (.getfield 31, 3) := oq_180 (byt chX6_townAt_0 10 rfl) (byt chX6_townAt_0 11 rfl) (byt chX6_townAt_0 12 rfl) rfl
theorem dX6_townAt_13 : decode cX6_townAt 13 = .ok (.iload_n 1, 1) := oq_27 (byt chX6_townAt_0 13 rfl)
theorem dX6_townAt_14 : decode cX6_townAt 14 = .ok (.aaload, 1) := oq_50 (byt chX6_townAt_0 14 rfl)
theorem dX6_townAt_15 : decode cX6_townAt 15 = .ok (.goto 4, 3) := oq_167 (byt chX6_townAt_0 15 rfl) (byt chX6_townAt_1 0 rfl) (byt chX6_townAt_1 1 rfl) (by decide +kernel)
theorem dX6_townAt_18 : decode cX6_townAt 18 = .ok (.aconst_null, 1) := oq_1 (byt chX6_townAt_1 2 rfl)
theorem dX6_townAt_19 : decode cX6_townAt 19 = .ok (.areturn, 1) := oq_176 (byt chX6_townAt_1 3 rfl)
abbrev mX6_townAt : MI := (yX6_townAt, cX6_townAt, 2, (some (.object "OneBack$Town")), noE)
theorem okX6_townAt : cok mX6_townAt 1 := ⟨tw683, tw2, by decide, by decide, by decide, by decide +kernel⟩
def fX6_townAt (M : Mem) (a0 a1 : Int) : Option Int :=
  if M.2.1 a0 = 6 then (fX6_isThere M a0 0 a1).bind fun r1 => if r1 = 0 then (some (-1)) else (if 14 ≤ M.2.1 (M.1 a0 5) ∧ (0 : Int) ≤ a1 ∧ a1 < M.2.2.1 (M.1 a0 5) then some (M.1 (M.1 a0 5) a1) else none) else none
set_option maxRecDepth 100000 in
set_option maxHeartbeats 4000000 in
theorem kX6_townAt (d : Nat) (hd : 1 ≤ d) (M : Mem) (a0 a1 : Int) : Ct mX6_townAt d 0 0 [pA a0, pI a1] M (dA M) (fX6_townAt M a0 a1) := by
  obtain ⟨d, rfl⟩ : ∃ k, d = k + 1 := ⟨d - 1, by omega⟩
  refine Ct.of 0 (fun _ _ _ => trivial) (by decide +kernel) rfl ?_
  unfold fX6_townAt
  refine v_aload_n dX6_townAt_0 rfl ?_
  refine v_iconst dX6_townAt_1 (by decide) ?_
  refine v_iload_n dX6_townAt_2 rfl ?_
  refine v_if (fun h3 => ?_)
  refine v_cV (mi := mX6_townAt) (c0 := 0) (c1 := 0) (As := [pI 0, pI a1]) (st := []) (kX6_isThere d (by omega) _ _ _ _) rfl h3 rfl okX6_isThere (Or.inl tw460) tw461 tw462 rfl (Nat.le_of_ble_eq_true rfl) dX6_townAt_3 (fun r1 => [pI r1]) (fun r1 => M) (fun _ => rfl) (fun _ => rfl) (fun r1 h2 => ?_) rfl
  refine v_if_eq (tgt := 18) dX6_townAt_6 (by decide) (fun c4 => ?_) (fun c4 => ?_)
  · refine v_null dX6_townAt_18 ?_
    exact v_areturn dX6_townAt_19 rfl (Or.inl ⟨_, rfl⟩) rfl
  · refine v_aload_n dX6_townAt_9 rfl ?_
    refine v_get (v := pA (M.1 a0 5)) 6 5 rfl inX6 (by decide) tw214 dX6_townAt_10 h3 rfl ?_
    refine v_iload_n dX6_townAt_13 rfl ?_
    refine v_if (fun h5 => ?_)
    refine v_aaload h5 dX6_townAt_14 ?_
    refine v_goto (tgt := 19) dX6_townAt_15 (by decide) ?_
    exact v_areturn dX6_townAt_19 rfl (Or.inl ⟨_, rfl⟩) rfl
theorem chX6_lawAt_0 : (cX6_lawAt.data.toList.drop 0).take 16 = [42, 4, 27, 182, 0, 57, 153, 0, 12, 42, 180, 0, 37, 27, 50, 167] := by decide +kernel
theorem chX6_lawAt_1 : (cX6_lawAt.data.toList.drop 16).take 16 = [0, 4, 1, 176] := by decide +kernel
theorem dX6_lawAt_0 : decode cX6_lawAt 0 = .ok (.aload_n 0, 1) := oq_42 (byt chX6_lawAt_0 0 rfl)
theorem dX6_lawAt_1 : decode cX6_lawAt 1 = .ok (.iconst 1, 1) := oq_4 (byt chX6_lawAt_0 1 rfl)
theorem dX6_lawAt_2 : decode cX6_lawAt 2 = .ok (.iload_n 1, 1) := oq_27 (byt chX6_lawAt_0 2 rfl)
theorem dX6_lawAt_3 : decode cX6_lawAt 3 = .ok (.invokevirtual 57, 3) := oq_182 (byt chX6_lawAt_0 3 rfl) (byt chX6_lawAt_0 4 rfl) (byt chX6_lawAt_0 5 rfl) rfl
theorem dX6_lawAt_6 : decode cX6_lawAt 6 = .ok (.ifCond .eq 12, 3) := oq_153 (byt chX6_lawAt_0 6 rfl) (byt chX6_lawAt_0 7 rfl) (byt chX6_lawAt_0 8 rfl) (by decide +kernel)
theorem dX6_lawAt_9 : decode cX6_lawAt 9 = .ok (.aload_n 0, 1) := oq_42 (byt chX6_lawAt_0 9 rfl)
theorem dX6_lawAt_10 : decode cX6_lawAt 10 = .ok (.getfield 37, 3) := oq_180 (byt chX6_lawAt_0 10 rfl) (byt chX6_lawAt_0 11 rfl) (byt chX6_lawAt_0 12 rfl) rfl
theorem dX6_lawAt_13 : decode cX6_lawAt 13 = .ok (.iload_n 1, 1) := oq_27 (byt chX6_lawAt_0 13 rfl)
theorem dX6_lawAt_14 : decode cX6_lawAt 14 = .ok (.aaload, 1) := oq_50 (byt chX6_lawAt_0 14 rfl)
theorem dX6_lawAt_15 : decode cX6_lawAt 15 = .ok (.goto 4, 3) := oq_167 (byt chX6_lawAt_0 15 rfl) (byt chX6_lawAt_1 0 rfl) (byt chX6_lawAt_1 1 rfl) (by decide +kernel)
theorem dX6_lawAt_18 : decode cX6_lawAt 18 = .ok (.aconst_null, 1) := oq_1 (byt chX6_lawAt_1 2 rfl)
theorem dX6_lawAt_19 : decode cX6_lawAt 19 = .ok (.areturn, 1) := oq_176 (byt chX6_lawAt_1 3 rfl)
abbrev mX6_lawAt : MI := (yX6_lawAt, cX6_lawAt, 2, (some (.object "OneBack$Law")), noE)
theorem okX6_lawAt : cok mX6_lawAt 1 := ⟨tw717, tw2, by decide, by decide, by decide, by decide +kernel⟩
def fX6_lawAt (M : Mem) (a0 a1 : Int) : Option Int :=
  if M.2.1 a0 = 6 then (fX6_isThere M a0 1 a1).bind fun r1 => if r1 = 0 then (some (-1)) else (if 14 ≤ M.2.1 (M.1 a0 6) ∧ (0 : Int) ≤ a1 ∧ a1 < M.2.2.1 (M.1 a0 6) then some (M.1 (M.1 a0 6) a1) else none) else none
set_option maxRecDepth 100000 in
set_option maxHeartbeats 4000000 in
theorem kX6_lawAt (d : Nat) (hd : 1 ≤ d) (M : Mem) (a0 a1 : Int) : Ct mX6_lawAt d 0 0 [pA a0, pI a1] M (dA M) (fX6_lawAt M a0 a1) := by
  obtain ⟨d, rfl⟩ : ∃ k, d = k + 1 := ⟨d - 1, by omega⟩
  refine Ct.of 0 (fun _ _ _ => trivial) (by decide +kernel) rfl ?_
  unfold fX6_lawAt
  refine v_aload_n dX6_lawAt_0 rfl ?_
  refine v_iconst dX6_lawAt_1 (by decide) ?_
  refine v_iload_n dX6_lawAt_2 rfl ?_
  refine v_if (fun h3 => ?_)
  refine v_cV (mi := mX6_lawAt) (c0 := 0) (c1 := 0) (As := [pI 1, pI a1]) (st := []) (kX6_isThere d (by omega) _ _ _ _) rfl h3 rfl okX6_isThere (Or.inl tw460) tw461 tw462 rfl (Nat.le_of_ble_eq_true rfl) dX6_lawAt_3 (fun r1 => [pI r1]) (fun r1 => M) (fun _ => rfl) (fun _ => rfl) (fun r1 h2 => ?_) rfl
  refine v_if_eq (tgt := 18) dX6_lawAt_6 (by decide) (fun c4 => ?_) (fun c4 => ?_)
  · refine v_null dX6_lawAt_18 ?_
    exact v_areturn dX6_lawAt_19 rfl (Or.inl ⟨_, rfl⟩) rfl
  · refine v_aload_n dX6_lawAt_9 rfl ?_
    refine v_get (v := pA (M.1 a0 6)) 6 6 rfl inX6 (by decide) tw216 dX6_lawAt_10 h3 rfl ?_
    refine v_iload_n dX6_lawAt_13 rfl ?_
    refine v_if (fun h5 => ?_)
    refine v_aaload h5 dX6_lawAt_14 ?_
    refine v_goto (tgt := 19) dX6_lawAt_15 (by decide) ?_
    exact v_areturn dX6_lawAt_19 rfl (Or.inl ⟨_, rfl⟩) rfl
theorem chX6_nightsAt_0 : (cX6_nightsAt.data.toList.drop 0).take 16 = [42, 5, 27, 182, 0, 57, 153, 0, 12, 42, 180, 0, 43, 27, 50, 167] := by decide +kernel
theorem chX6_nightsAt_1 : (cX6_nightsAt.data.toList.drop 16).take 16 = [0, 4, 1, 176] := by decide +kernel
theorem dX6_nightsAt_0 : decode cX6_nightsAt 0 = .ok (.aload_n 0, 1) := oq_42 (byt chX6_nightsAt_0 0 rfl)
theorem dX6_nightsAt_1 : decode cX6_nightsAt 1 = .ok (.iconst 2, 1) := oq_5 (byt chX6_nightsAt_0 1 rfl)
theorem dX6_nightsAt_2 : decode cX6_nightsAt 2 = .ok (.iload_n 1, 1) := oq_27 (byt chX6_nightsAt_0 2 rfl)
theorem dX6_nightsAt_3 : decode cX6_nightsAt 3 = .ok (.invokevirtual 57, 3) := oq_182 (byt chX6_nightsAt_0 3 rfl) (byt chX6_nightsAt_0 4 rfl) (byt chX6_nightsAt_0 5 rfl) rfl
theorem dX6_nightsAt_6 : decode cX6_nightsAt 6 = .ok (.ifCond .eq 12, 3) := oq_153 (byt chX6_nightsAt_0 6 rfl) (byt chX6_nightsAt_0 7 rfl) (byt chX6_nightsAt_0 8 rfl) (by decide +kernel)
theorem dX6_nightsAt_9 : decode cX6_nightsAt 9 = .ok (.aload_n 0, 1) := oq_42 (byt chX6_nightsAt_0 9 rfl)
theorem dX6_nightsAt_10 : decode cX6_nightsAt 10 = .ok (.getfield 43, 3) := oq_180 (byt chX6_nightsAt_0 10 rfl) (byt chX6_nightsAt_0 11 rfl) (byt chX6_nightsAt_0 12 rfl) rfl
theorem dX6_nightsAt_13 : decode cX6_nightsAt 13 = .ok (.iload_n 1, 1) := oq_27 (byt chX6_nightsAt_0 13 rfl)
theorem dX6_nightsAt_14 : decode cX6_nightsAt 14 = .ok (.aaload, 1) := oq_50 (byt chX6_nightsAt_0 14 rfl)
theorem dX6_nightsAt_15 : decode cX6_nightsAt 15 = .ok (.goto 4, 3) := oq_167 (byt chX6_nightsAt_0 15 rfl) (byt chX6_nightsAt_1 0 rfl) (byt chX6_nightsAt_1 1 rfl) (by decide +kernel)
theorem dX6_nightsAt_18 : decode cX6_nightsAt 18 = .ok (.aconst_null, 1) := oq_1 (byt chX6_nightsAt_1 2 rfl)
theorem dX6_nightsAt_19 : decode cX6_nightsAt 19 = .ok (.areturn, 1) := oq_176 (byt chX6_nightsAt_1 3 rfl)
abbrev mX6_nightsAt : MI := (yX6_nightsAt, cX6_nightsAt, 2, (some (.object "OneBack$Nights")), noE)
theorem okX6_nightsAt : cok mX6_nightsAt 1 := ⟨tw729, tw2, by decide, by decide, by decide, by decide +kernel⟩
def fX6_nightsAt (M : Mem) (a0 a1 : Int) : Option Int :=
  if M.2.1 a0 = 6 then (fX6_isThere M a0 2 a1).bind fun r1 => if r1 = 0 then (some (-1)) else (if 14 ≤ M.2.1 (M.1 a0 7) ∧ (0 : Int) ≤ a1 ∧ a1 < M.2.2.1 (M.1 a0 7) then some (M.1 (M.1 a0 7) a1) else none) else none
set_option maxRecDepth 100000 in
set_option maxHeartbeats 4000000 in
theorem kX6_nightsAt (d : Nat) (hd : 1 ≤ d) (M : Mem) (a0 a1 : Int) : Ct mX6_nightsAt d 0 0 [pA a0, pI a1] M (dA M) (fX6_nightsAt M a0 a1) := by
  obtain ⟨d, rfl⟩ : ∃ k, d = k + 1 := ⟨d - 1, by omega⟩
  refine Ct.of 0 (fun _ _ _ => trivial) (by decide +kernel) rfl ?_
  unfold fX6_nightsAt
  refine v_aload_n dX6_nightsAt_0 rfl ?_
  refine v_iconst dX6_nightsAt_1 (by decide) ?_
  refine v_iload_n dX6_nightsAt_2 rfl ?_
  refine v_if (fun h3 => ?_)
  refine v_cV (mi := mX6_nightsAt) (c0 := 0) (c1 := 0) (As := [pI 2, pI a1]) (st := []) (kX6_isThere d (by omega) _ _ _ _) rfl h3 rfl okX6_isThere (Or.inl tw460) tw461 tw462 rfl (Nat.le_of_ble_eq_true rfl) dX6_nightsAt_3 (fun r1 => [pI r1]) (fun r1 => M) (fun _ => rfl) (fun _ => rfl) (fun r1 h2 => ?_) rfl
  refine v_if_eq (tgt := 18) dX6_nightsAt_6 (by decide) (fun c4 => ?_) (fun c4 => ?_)
  · refine v_null dX6_nightsAt_18 ?_
    exact v_areturn dX6_nightsAt_19 rfl (Or.inl ⟨_, rfl⟩) rfl
  · refine v_aload_n dX6_nightsAt_9 rfl ?_
    refine v_get (v := pA (M.1 a0 7)) 6 7 rfl inX6 (by decide) tw218 dX6_nightsAt_10 h3 rfl ?_
    refine v_iload_n dX6_nightsAt_13 rfl ?_
    refine v_if (fun h5 => ?_)
    refine v_aaload h5 dX6_nightsAt_14 ?_
    refine v_goto (tgt := 19) dX6_nightsAt_15 (by decide) ?_
    exact v_areturn dX6_nightsAt_19 rfl (Or.inl ⟨_, rfl⟩) rfl
theorem chX6_sightAt_0 : (cX6_sightAt.data.toList.drop 0).take 16 = [42, 6, 27, 182, 0, 57, 153, 0, 12, 42, 180, 0, 49, 27, 50, 167] := by decide +kernel
theorem chX6_sightAt_1 : (cX6_sightAt.data.toList.drop 16).take 16 = [0, 4, 1, 176] := by decide +kernel
theorem dX6_sightAt_0 : decode cX6_sightAt 0 = .ok (.aload_n 0, 1) := oq_42 (byt chX6_sightAt_0 0 rfl)
theorem dX6_sightAt_1 : decode cX6_sightAt 1 = .ok (.iconst 3, 1) := oq_6 (byt chX6_sightAt_0 1 rfl)
theorem dX6_sightAt_2 : decode cX6_sightAt 2 = .ok (.iload_n 1, 1) := oq_27 (byt chX6_sightAt_0 2 rfl)
theorem dX6_sightAt_3 : decode cX6_sightAt 3 = .ok (.invokevirtual 57, 3) := oq_182 (byt chX6_sightAt_0 3 rfl) (byt chX6_sightAt_0 4 rfl) (byt chX6_sightAt_0 5 rfl) rfl
theorem dX6_sightAt_6 : decode cX6_sightAt 6 = .ok (.ifCond .eq 12, 3) := oq_153 (byt chX6_sightAt_0 6 rfl) (byt chX6_sightAt_0 7 rfl) (byt chX6_sightAt_0 8 rfl) (by decide +kernel)
theorem dX6_sightAt_9 : decode cX6_sightAt 9 = .ok (.aload_n 0, 1) := oq_42 (byt chX6_sightAt_0 9 rfl)
theorem dX6_sightAt_10 : decode cX6_sightAt 10 = .ok (.getfield 49, 3) := oq_180 (byt chX6_sightAt_0 10 rfl) (byt chX6_sightAt_0 11 rfl) (byt chX6_sightAt_0 12 rfl) rfl
theorem dX6_sightAt_13 : decode cX6_sightAt 13 = .ok (.iload_n 1, 1) := oq_27 (byt chX6_sightAt_0 13 rfl)
theorem dX6_sightAt_14 : decode cX6_sightAt 14 = .ok (.aaload, 1) := oq_50 (byt chX6_sightAt_0 14 rfl)
theorem dX6_sightAt_15 : decode cX6_sightAt 15 = .ok (.goto 4, 3) := oq_167 (byt chX6_sightAt_0 15 rfl) (byt chX6_sightAt_1 0 rfl) (byt chX6_sightAt_1 1 rfl) (by decide +kernel)
theorem dX6_sightAt_18 : decode cX6_sightAt 18 = .ok (.aconst_null, 1) := oq_1 (byt chX6_sightAt_1 2 rfl)
theorem dX6_sightAt_19 : decode cX6_sightAt 19 = .ok (.areturn, 1) := oq_176 (byt chX6_sightAt_1 3 rfl)
abbrev mX6_sightAt : MI := (yX6_sightAt, cX6_sightAt, 2, (some (.object "OneBack$Sight")), noE)
theorem okX6_sightAt : cok mX6_sightAt 1 := ⟨tw940, tw2, by decide, by decide, by decide, by decide +kernel⟩
def fX6_sightAt (M : Mem) (a0 a1 : Int) : Option Int :=
  if M.2.1 a0 = 6 then (fX6_isThere M a0 3 a1).bind fun r1 => if r1 = 0 then (some (-1)) else (if 14 ≤ M.2.1 (M.1 a0 8) ∧ (0 : Int) ≤ a1 ∧ a1 < M.2.2.1 (M.1 a0 8) then some (M.1 (M.1 a0 8) a1) else none) else none
set_option maxRecDepth 100000 in
set_option maxHeartbeats 4000000 in
theorem kX6_sightAt (d : Nat) (hd : 1 ≤ d) (M : Mem) (a0 a1 : Int) : Ct mX6_sightAt d 0 0 [pA a0, pI a1] M (dA M) (fX6_sightAt M a0 a1) := by
  obtain ⟨d, rfl⟩ : ∃ k, d = k + 1 := ⟨d - 1, by omega⟩
  refine Ct.of 0 (fun _ _ _ => trivial) (by decide +kernel) rfl ?_
  unfold fX6_sightAt
  refine v_aload_n dX6_sightAt_0 rfl ?_
  refine v_iconst dX6_sightAt_1 (by decide) ?_
  refine v_iload_n dX6_sightAt_2 rfl ?_
  refine v_if (fun h3 => ?_)
  refine v_cV (mi := mX6_sightAt) (c0 := 0) (c1 := 0) (As := [pI 3, pI a1]) (st := []) (kX6_isThere d (by omega) _ _ _ _) rfl h3 rfl okX6_isThere (Or.inl tw460) tw461 tw462 rfl (Nat.le_of_ble_eq_true rfl) dX6_sightAt_3 (fun r1 => [pI r1]) (fun r1 => M) (fun _ => rfl) (fun _ => rfl) (fun r1 h2 => ?_) rfl
  refine v_if_eq (tgt := 18) dX6_sightAt_6 (by decide) (fun c4 => ?_) (fun c4 => ?_)
  · refine v_null dX6_sightAt_18 ?_
    exact v_areturn dX6_sightAt_19 rfl (Or.inl ⟨_, rfl⟩) rfl
  · refine v_aload_n dX6_sightAt_9 rfl ?_
    refine v_get (v := pA (M.1 a0 8)) 6 8 rfl inX6 (by decide) tw219 dX6_sightAt_10 h3 rfl ?_
    refine v_iload_n dX6_sightAt_13 rfl ?_
    refine v_if (fun h5 => ?_)
    refine v_aaload h5 dX6_sightAt_14 ?_
    refine v_goto (tgt := 19) dX6_sightAt_15 (by decide) ?_
    exact v_areturn dX6_sightAt_19 rfl (Or.inl ⟨_, rfl⟩) rfl
theorem chX6_slot_0 : (cX6_slot.data.toList.drop 0).take 16 = [27, 155, 0, 8, 27, 7, 161, 0, 5, 2, 172, 28, 2, 160, 0, 24] := by decide +kernel
theorem chX6_slot_1 : (cX6_slot.data.toList.drop 16).take 16 = [42, 180, 0, 25, 27, 46, 5, 162, 0, 12, 42, 180, 0, 25, 27, 46] := by decide +kernel
theorem chX6_slot_2 : (cX6_slot.data.toList.drop 32).take 16 = [167, 0, 4, 2, 172, 42, 27, 28, 182, 0, 57, 153, 0, 7, 28, 167] := by decide +kernel
theorem chX6_slot_3 : (cX6_slot.data.toList.drop 48).take 16 = [0, 4, 2, 172] := by decide +kernel
theorem dX6_slot_0 : decode cX6_slot 0 = .ok (.iload_n 1, 1) := oq_27 (byt chX6_slot_0 0 rfl)
theorem dX6_slot_1 : decode cX6_slot 1 = .ok (.ifCond .lt 8, 3) := oq_155 (byt chX6_slot_0 1 rfl) (byt chX6_slot_0 2 rfl) (byt chX6_slot_0 3 rfl) (by decide +kernel)
theorem dX6_slot_4 : decode cX6_slot 4 = .ok (.iload_n 1, 1) := oq_27 (byt chX6_slot_0 4 rfl)
theorem dX6_slot_5 : decode cX6_slot 5 = .ok (.iconst 4, 1) := oq_7 (byt chX6_slot_0 5 rfl)
theorem dX6_slot_6 : decode cX6_slot 6 = .ok (.if_icmp .lt 5, 3) := oq_161 (byt chX6_slot_0 6 rfl) (byt chX6_slot_0 7 rfl) (byt chX6_slot_0 8 rfl) (by decide +kernel)
theorem dX6_slot_9 : decode cX6_slot 9 = .ok (.iconst (-1), 1) := oq_2 (byt chX6_slot_0 9 rfl)
theorem dX6_slot_10 : decode cX6_slot 10 = .ok (.ireturn, 1) := oq_172 (byt chX6_slot_0 10 rfl)
theorem dX6_slot_11 : decode cX6_slot 11 = .ok (.iload_n 2, 1) := oq_28 (byt chX6_slot_0 11 rfl)
theorem dX6_slot_12 : decode cX6_slot 12 = .ok (.iconst (-1), 1) := oq_2 (byt chX6_slot_0 12 rfl)
theorem dX6_slot_13 : decode cX6_slot 13 = .ok (.if_icmp .ne 24, 3) := oq_160 (byt chX6_slot_0 13 rfl) (byt chX6_slot_0 14 rfl) (byt chX6_slot_0 15 rfl) (by decide +kernel)
theorem dX6_slot_16 : decode cX6_slot 16 = .ok (.aload_n 0, 1) := oq_42 (byt chX6_slot_1 0 rfl)
theorem dX6_slot_17 : decode cX6_slot 17 = .ok (.getfield 25, 3) := oq_180 (byt chX6_slot_1 1 rfl) (byt chX6_slot_1 2 rfl) (byt chX6_slot_1 3 rfl) rfl
theorem dX6_slot_20 : decode cX6_slot 20 = .ok (.iload_n 1, 1) := oq_27 (byt chX6_slot_1 4 rfl)
theorem dX6_slot_21 : decode cX6_slot 21 = .ok (.iaload, 1) := oq_46 (byt chX6_slot_1 5 rfl)
theorem dX6_slot_22 : decode cX6_slot 22 = .ok (.iconst 2, 1) := oq_5 (byt chX6_slot_1 6 rfl)
theorem dX6_slot_23 : decode cX6_slot 23 = .ok (.if_icmp .ge 12, 3) := oq_162 (byt chX6_slot_1 7 rfl) (byt chX6_slot_1 8 rfl) (byt chX6_slot_1 9 rfl) (by decide +kernel)
theorem dX6_slot_26 : decode cX6_slot 26 = .ok (.aload_n 0, 1) := oq_42 (byt chX6_slot_1 10 rfl)
theorem dX6_slot_27 : decode cX6_slot 27 = .ok (.getfield 25, 3) := oq_180 (byt chX6_slot_1 11 rfl) (byt chX6_slot_1 12 rfl) (byt chX6_slot_1 13 rfl) rfl
theorem dX6_slot_30 : decode cX6_slot 30 = .ok (.iload_n 1, 1) := oq_27 (byt chX6_slot_1 14 rfl)
theorem dX6_slot_31 : decode cX6_slot 31 = .ok (.iaload, 1) := oq_46 (byt chX6_slot_1 15 rfl)
theorem dX6_slot_32 : decode cX6_slot 32 = .ok (.goto 4, 3) := oq_167 (byt chX6_slot_2 0 rfl) (byt chX6_slot_2 1 rfl) (byt chX6_slot_2 2 rfl) (by decide +kernel)
theorem dX6_slot_35 : decode cX6_slot 35 = .ok (.iconst (-1), 1) := oq_2 (byt chX6_slot_2 3 rfl)
theorem dX6_slot_36 : decode cX6_slot 36 = .ok (.ireturn, 1) := oq_172 (byt chX6_slot_2 4 rfl)
theorem dX6_slot_37 : decode cX6_slot 37 = .ok (.aload_n 0, 1) := oq_42 (byt chX6_slot_2 5 rfl)
theorem dX6_slot_38 : decode cX6_slot 38 = .ok (.iload_n 1, 1) := oq_27 (byt chX6_slot_2 6 rfl)
theorem dX6_slot_39 : decode cX6_slot 39 = .ok (.iload_n 2, 1) := oq_28 (byt chX6_slot_2 7 rfl)
theorem dX6_slot_40 : decode cX6_slot 40 = .ok (.invokevirtual 57, 3) := oq_182 (byt chX6_slot_2 8 rfl) (byt chX6_slot_2 9 rfl) (byt chX6_slot_2 10 rfl) rfl
theorem dX6_slot_43 : decode cX6_slot 43 = .ok (.ifCond .eq 7, 3) := oq_153 (byt chX6_slot_2 11 rfl) (byt chX6_slot_2 12 rfl) (byt chX6_slot_2 13 rfl) (by decide +kernel)
theorem dX6_slot_46 : decode cX6_slot 46 = .ok (.iload_n 2, 1) := oq_28 (byt chX6_slot_2 14 rfl)
theorem dX6_slot_47 : decode cX6_slot 47 = .ok (.goto 4, 3) := oq_167 (byt chX6_slot_2 15 rfl) (byt chX6_slot_3 0 rfl) (byt chX6_slot_3 1 rfl) (by decide +kernel)
theorem dX6_slot_50 : decode cX6_slot 50 = .ok (.iconst (-1), 1) := oq_2 (byt chX6_slot_3 2 rfl)
theorem dX6_slot_51 : decode cX6_slot 51 = .ok (.ireturn, 1) := oq_172 (byt chX6_slot_3 3 rfl)
abbrev mX6_slot : MI := (yX6_slot, cX6_slot, 3, (some .int), noE)
theorem okX6_slot : cok mX6_slot 2 := ⟨tw459, tw2, by decide, by decide, by decide, by decide +kernel⟩
def fX6_slot (M : Mem) (a0 a1 a2 : Int) : Option Int :=
  if a1 < 0 then (some (-1)) else (if a1 < 4 then (if a2 = (-1) then (if M.2.1 a0 = 6 then if M.2.1 (M.1 a0 4) = 12 ∧ (0 : Int) ≤ a1 ∧ a1 < M.2.2.1 (M.1 a0 4) then if M.1 (M.1 a0 4) a1 < 2 then (if M.2.1 (M.1 a0 4) = 12 ∧ (0 : Int) ≤ a1 ∧ a1 < M.2.2.1 (M.1 a0 4) then some (M.1 (M.1 a0 4) a1) else none) else (some (-1)) else none else none) else (if M.2.1 a0 = 6 then (fX6_isThere M a0 a1 a2).bind fun r8 => if r8 = 0 then (some (-1)) else (some a2) else none)) else (some (-1)))
set_option maxRecDepth 100000 in
set_option maxHeartbeats 4000000 in
theorem kX6_slot (d : Nat) (hd : 1 ≤ d) (M : Mem) (a0 a1 a2 : Int) : Ct mX6_slot d 0 0 [pA a0, pI a1, pI a2] M (dI M) (fX6_slot M a0 a1 a2) := by
  obtain ⟨d, rfl⟩ : ∃ k, d = k + 1 := ⟨d - 1, by omega⟩
  refine Ct.of 0 (fun _ _ _ => trivial) (by decide +kernel) rfl ?_
  unfold fX6_slot
  refine v_iload_n dX6_slot_0 rfl ?_
  refine v_if_lt (tgt := 9) dX6_slot_1 (by decide) (fun c1 => ?_) (fun c1 => ?_)
  · refine v_iconst dX6_slot_9 (by decide) ?_
    exact v_ireturn dX6_slot_10 rfl rfl
  · refine v_iload_n dX6_slot_4 rfl ?_
    refine v_iconst dX6_slot_5 (by decide) ?_
    refine v_icmp_lt (tgt := 11) dX6_slot_6 (by decide) (fun c2 => ?_) (fun c2 => ?_)
    · refine v_iload_n dX6_slot_11 rfl ?_
      refine v_iconst dX6_slot_12 (by decide) ?_
      refine v_icmp_ne (tgt := 37) dX6_slot_13 (by decide) (fun c3 => ?_) (fun c3 => ?_)
      · refine v_aload_n dX6_slot_16 rfl ?_
        refine v_if (fun h4 => ?_)
        refine v_get (v := pA (M.1 a0 4)) 6 4 rfl inX6 (by decide) tw212 dX6_slot_17 h4 rfl ?_
        refine v_iload_n dX6_slot_20 rfl ?_
        refine v_if (fun h5 => ?_)
        refine v_iaload h5 dX6_slot_21 ?_
        refine v_iconst dX6_slot_22 (by decide) ?_
        refine v_icmp_ge (tgt := 35) dX6_slot_23 (by decide) (fun c6 => ?_) (fun c6 => ?_)
        · refine v_aload_n dX6_slot_26 rfl ?_
          refine v_get (v := pA (M.1 a0 4)) 6 4 rfl inX6 (by decide) tw212 dX6_slot_27 h4 rfl ?_
          refine v_iload_n dX6_slot_30 rfl ?_
          refine v_if (fun h7 => ?_)
          refine v_iaload h7 dX6_slot_31 ?_
          refine v_goto (tgt := 36) dX6_slot_32 (by decide) ?_
          exact v_ireturn dX6_slot_36 rfl rfl
        · refine v_iconst dX6_slot_35 (by decide) ?_
          exact v_ireturn dX6_slot_36 rfl rfl
      · refine v_aload_n dX6_slot_37 rfl ?_
        refine v_iload_n dX6_slot_38 rfl ?_
        refine v_iload_n dX6_slot_39 rfl ?_
        refine v_if (fun h10 => ?_)
        refine v_cV (mi := mX6_slot) (c0 := 0) (c1 := 0) (As := [pI a1, pI a2]) (st := []) (kX6_isThere d (by omega) _ _ _ _) rfl h10 rfl okX6_isThere (Or.inl tw460) tw461 tw462 rfl (Nat.le_of_ble_eq_true rfl) dX6_slot_40 (fun r8 => [pI r8]) (fun r8 => M) (fun _ => rfl) (fun _ => rfl) (fun r8 h9 => ?_) rfl
        refine v_if_eq (tgt := 50) dX6_slot_43 (by decide) (fun c11 => ?_) (fun c11 => ?_)
        · refine v_iconst dX6_slot_50 (by decide) ?_
          exact v_ireturn dX6_slot_51 rfl rfl
        · refine v_iload_n dX6_slot_46 rfl ?_
          refine v_goto (tgt := 51) dX6_slot_47 (by decide) ?_
          exact v_ireturn dX6_slot_51 rfl rfl
    · refine v_iconst dX6_slot_9 (by decide) ?_
      exact v_ireturn dX6_slot_10 rfl rfl
theorem chX6_keep_0 : (cX6_keep.data.toList.drop 0).take 16 = [28, 155, 0, 17, 28, 7, 162, 0, 12, 29, 155, 0, 8, 29, 5, 161] := by decide +kernel
theorem chX6_keep_1 : (cX6_keep.data.toList.drop 16).take 16 = [0, 4, 177, 28, 170, 0, 0, 0, 0, 0, 0, 76, 0, 0, 0, 0] := by decide +kernel
theorem chX6_keep_3 : (cX6_keep.data.toList.drop 48).take 16 = [42, 180, 0, 31, 29, 50, 43, 180, 0, 61, 182, 0, 67, 167, 0, 48] := by decide +kernel
theorem chX6_keep_4 : (cX6_keep.data.toList.drop 64).take 16 = [42, 180, 0, 37, 29, 50, 43, 180, 0, 71, 182, 0, 75, 167, 0, 32] := by decide +kernel
theorem chX6_keep_5 : (cX6_keep.data.toList.drop 80).take 16 = [42, 180, 0, 43, 29, 50, 43, 180, 0, 78, 182, 0, 81, 167, 0, 16] := by decide +kernel
theorem chX6_keep_6 : (cX6_keep.data.toList.drop 96).take 16 = [42, 180, 0, 49, 29, 50, 43, 180, 0, 84, 182, 0, 88, 42, 180, 0] := by decide +kernel
theorem chX6_keep_7 : (cX6_keep.data.toList.drop 112).take 16 = [25, 28, 42, 180, 0, 25, 28, 46, 29, 4, 96, 184, 0, 91, 79, 177] := by decide +kernel
theorem dX6_keep_0 : decode cX6_keep 0 = .ok (.iload_n 2, 1) := oq_28 (byt chX6_keep_0 0 rfl)
theorem dX6_keep_1 : decode cX6_keep 1 = .ok (.ifCond .lt 17, 3) := oq_155 (byt chX6_keep_0 1 rfl) (byt chX6_keep_0 2 rfl) (byt chX6_keep_0 3 rfl) (by decide +kernel)
theorem dX6_keep_4 : decode cX6_keep 4 = .ok (.iload_n 2, 1) := oq_28 (byt chX6_keep_0 4 rfl)
theorem dX6_keep_5 : decode cX6_keep 5 = .ok (.iconst 4, 1) := oq_7 (byt chX6_keep_0 5 rfl)
theorem dX6_keep_6 : decode cX6_keep 6 = .ok (.if_icmp .ge 12, 3) := oq_162 (byt chX6_keep_0 6 rfl) (byt chX6_keep_0 7 rfl) (byt chX6_keep_0 8 rfl) (by decide +kernel)
theorem dX6_keep_9 : decode cX6_keep 9 = .ok (.iload_n 3, 1) := oq_29 (byt chX6_keep_0 9 rfl)
theorem dX6_keep_10 : decode cX6_keep 10 = .ok (.ifCond .lt 8, 3) := oq_155 (byt chX6_keep_0 10 rfl) (byt chX6_keep_0 11 rfl) (byt chX6_keep_0 12 rfl) (by decide +kernel)
theorem dX6_keep_13 : decode cX6_keep 13 = .ok (.iload_n 3, 1) := oq_29 (byt chX6_keep_0 13 rfl)
theorem dX6_keep_14 : decode cX6_keep 14 = .ok (.iconst 2, 1) := oq_5 (byt chX6_keep_0 14 rfl)
theorem dX6_keep_15 : decode cX6_keep 15 = .ok (.if_icmp .lt 4, 3) := oq_161 (byt chX6_keep_0 15 rfl) (byt chX6_keep_1 0 rfl) (byt chX6_keep_1 1 rfl) (by decide +kernel)
theorem dX6_keep_18 : decode cX6_keep 18 = .ok (.return_, 1) := oq_177 (byt chX6_keep_1 2 rfl)
theorem dX6_keep_19 : decode cX6_keep 19 = .ok (.iload_n 2, 1) := oq_28 (byt chX6_keep_1 3 rfl)
theorem dX6_keep_20 : decode cX6_keep 20 = .ok (.tableswitch 76 0 2 #[28, 44, 60], 28) := by decide +kernel
theorem dX6_keep_48 : decode cX6_keep 48 = .ok (.aload_n 0, 1) := oq_42 (byt chX6_keep_3 0 rfl)
theorem dX6_keep_49 : decode cX6_keep 49 = .ok (.getfield 31, 3) := oq_180 (byt chX6_keep_3 1 rfl) (byt chX6_keep_3 2 rfl) (byt chX6_keep_3 3 rfl) rfl
theorem dX6_keep_52 : decode cX6_keep 52 = .ok (.iload_n 3, 1) := oq_29 (byt chX6_keep_3 4 rfl)
theorem dX6_keep_53 : decode cX6_keep 53 = .ok (.aaload, 1) := oq_50 (byt chX6_keep_3 5 rfl)
theorem dX6_keep_54 : decode cX6_keep 54 = .ok (.aload_n 1, 1) := oq_43 (byt chX6_keep_3 6 rfl)
theorem dX6_keep_55 : decode cX6_keep 55 = .ok (.getfield 61, 3) := oq_180 (byt chX6_keep_3 7 rfl) (byt chX6_keep_3 8 rfl) (byt chX6_keep_3 9 rfl) rfl
theorem dX6_keep_58 : decode cX6_keep 58 = .ok (.invokevirtual 67, 3) := oq_182 (byt chX6_keep_3 10 rfl) (byt chX6_keep_3 11 rfl) (byt chX6_keep_3 12 rfl) rfl
theorem dX6_keep_61 : decode cX6_keep 61 = .ok (.goto 48, 3) := oq_167 (byt chX6_keep_3 13 rfl) (byt chX6_keep_3 14 rfl) (byt chX6_keep_3 15 rfl) (by decide +kernel)
theorem dX6_keep_64 : decode cX6_keep 64 = .ok (.aload_n 0, 1) := oq_42 (byt chX6_keep_4 0 rfl)
theorem dX6_keep_65 : decode cX6_keep 65 = .ok (.getfield 37, 3) := oq_180 (byt chX6_keep_4 1 rfl) (byt chX6_keep_4 2 rfl) (byt chX6_keep_4 3 rfl) rfl
theorem dX6_keep_68 : decode cX6_keep 68 = .ok (.iload_n 3, 1) := oq_29 (byt chX6_keep_4 4 rfl)
theorem dX6_keep_69 : decode cX6_keep 69 = .ok (.aaload, 1) := oq_50 (byt chX6_keep_4 5 rfl)
theorem dX6_keep_70 : decode cX6_keep 70 = .ok (.aload_n 1, 1) := oq_43 (byt chX6_keep_4 6 rfl)
theorem dX6_keep_71 : decode cX6_keep 71 = .ok (.getfield 71, 3) := oq_180 (byt chX6_keep_4 7 rfl) (byt chX6_keep_4 8 rfl) (byt chX6_keep_4 9 rfl) rfl
theorem dX6_keep_74 : decode cX6_keep 74 = .ok (.invokevirtual 75, 3) := oq_182 (byt chX6_keep_4 10 rfl) (byt chX6_keep_4 11 rfl) (byt chX6_keep_4 12 rfl) rfl
theorem dX6_keep_77 : decode cX6_keep 77 = .ok (.goto 32, 3) := oq_167 (byt chX6_keep_4 13 rfl) (byt chX6_keep_4 14 rfl) (byt chX6_keep_4 15 rfl) (by decide +kernel)
theorem dX6_keep_80 : decode cX6_keep 80 = .ok (.aload_n 0, 1) := oq_42 (byt chX6_keep_5 0 rfl)
theorem dX6_keep_81 : decode cX6_keep 81 = .ok (.getfield 43, 3) := oq_180 (byt chX6_keep_5 1 rfl) (byt chX6_keep_5 2 rfl) (byt chX6_keep_5 3 rfl) rfl
theorem dX6_keep_84 : decode cX6_keep 84 = .ok (.iload_n 3, 1) := oq_29 (byt chX6_keep_5 4 rfl)
theorem dX6_keep_85 : decode cX6_keep 85 = .ok (.aaload, 1) := oq_50 (byt chX6_keep_5 5 rfl)
theorem dX6_keep_86 : decode cX6_keep 86 = .ok (.aload_n 1, 1) := oq_43 (byt chX6_keep_5 6 rfl)
theorem dX6_keep_87 : decode cX6_keep 87 = .ok (.getfield 78, 3) := oq_180 (byt chX6_keep_5 7 rfl) (byt chX6_keep_5 8 rfl) (byt chX6_keep_5 9 rfl) rfl
theorem dX6_keep_90 : decode cX6_keep 90 = .ok (.invokevirtual 81, 3) := oq_182 (byt chX6_keep_5 10 rfl) (byt chX6_keep_5 11 rfl) (byt chX6_keep_5 12 rfl) rfl
theorem dX6_keep_93 : decode cX6_keep 93 = .ok (.goto 16, 3) := oq_167 (byt chX6_keep_5 13 rfl) (byt chX6_keep_5 14 rfl) (byt chX6_keep_5 15 rfl) (by decide +kernel)
theorem dX6_keep_96 : decode cX6_keep 96 = .ok (.aload_n 0, 1) := oq_42 (byt chX6_keep_6 0 rfl)
theorem dX6_keep_97 : decode cX6_keep 97 = .ok (.getfield 49, 3) := oq_180 (byt chX6_keep_6 1 rfl) (byt chX6_keep_6 2 rfl) (byt chX6_keep_6 3 rfl) rfl
theorem dX6_keep_100 : decode cX6_keep 100 = .ok (.iload_n 3, 1) := oq_29 (byt chX6_keep_6 4 rfl)
theorem dX6_keep_101 : decode cX6_keep 101 = .ok (.aaload, 1) := oq_50 (byt chX6_keep_6 5 rfl)
theorem dX6_keep_102 : decode cX6_keep 102 = .ok (.aload_n 1, 1) := oq_43 (byt chX6_keep_6 6 rfl)
theorem dX6_keep_103 : decode cX6_keep 103 = .ok (.getfield 84, 3) := oq_180 (byt chX6_keep_6 7 rfl) (byt chX6_keep_6 8 rfl) (byt chX6_keep_6 9 rfl) rfl
theorem dX6_keep_106 : decode cX6_keep 106 = .ok (.invokevirtual 88, 3) := oq_182 (byt chX6_keep_6 10 rfl) (byt chX6_keep_6 11 rfl) (byt chX6_keep_6 12 rfl) rfl
theorem dX6_keep_109 : decode cX6_keep 109 = .ok (.aload_n 0, 1) := oq_42 (byt chX6_keep_6 13 rfl)
theorem dX6_keep_110 : decode cX6_keep 110 = .ok (.getfield 25, 3) := oq_180 (byt chX6_keep_6 14 rfl) (byt chX6_keep_6 15 rfl) (byt chX6_keep_7 0 rfl) rfl
theorem dX6_keep_113 : decode cX6_keep 113 = .ok (.iload_n 2, 1) := oq_28 (byt chX6_keep_7 1 rfl)
theorem dX6_keep_114 : decode cX6_keep 114 = .ok (.aload_n 0, 1) := oq_42 (byt chX6_keep_7 2 rfl)
theorem dX6_keep_115 : decode cX6_keep 115 = .ok (.getfield 25, 3) := oq_180 (byt chX6_keep_7 3 rfl) (byt chX6_keep_7 4 rfl) (byt chX6_keep_7 5 rfl) rfl
theorem dX6_keep_118 : decode cX6_keep 118 = .ok (.iload_n 2, 1) := oq_28 (byt chX6_keep_7 6 rfl)
theorem dX6_keep_119 : decode cX6_keep 119 = .ok (.iaload, 1) := oq_46 (byt chX6_keep_7 7 rfl)
theorem dX6_keep_120 : decode cX6_keep 120 = .ok (.iload_n 3, 1) := oq_29 (byt chX6_keep_7 8 rfl)
theorem dX6_keep_121 : decode cX6_keep 121 = .ok (.iconst 1, 1) := oq_4 (byt chX6_keep_7 9 rfl)
theorem dX6_keep_122 : decode cX6_keep 122 = .ok (.iadd, 1) := oq_96 (byt chX6_keep_7 10 rfl)
theorem dX6_keep_123 : decode cX6_keep 123 = .ok (.invokestatic 91, 3) := oq_184 (byt chX6_keep_7 11 rfl) (byt chX6_keep_7 12 rfl) (byt chX6_keep_7 13 rfl) rfl
theorem dX6_keep_126 : decode cX6_keep 126 = .ok (.iastore, 1) := oq_79 (byt chX6_keep_7 14 rfl)
theorem dX6_keep_127 : decode cX6_keep 127 = .ok (.return_, 1) := oq_177 (byt chX6_keep_7 15 rfl)
abbrev mX6_keep : MI := (yX6_keep, cX6_keep, 4, none, noE)
theorem okX6_keep : cok mX6_keep 3 := ⟨tw645, tw2, by decide, by decide, by decide, by decide +kernel⟩
def fX6_keep (M : Mem) (a0 a1 a2 a3 : Int) : Option Mem :=
  if a2 < 0 then (some M) else (if a2 < 4 then (if a3 < 0 then (some M) else (if a3 < 2 then (jn (fun (t6 : Mem) => if t6.2.1 a0 = 6 then if t6.2.1 (t6.1 a0 4) = 12 ∧ (0 : Int) ≤ a2 ∧ a2 < t6.2.2.1 (t6.1 a0 4) then if t6.2.1 (t6.1 a0 4) = 12 ∧ (0 : Int) ≤ a2 ∧ a2 < t6.2.2.1 (t6.1 a0 4) then bM (mst t6 (t6.1 a0 4) a2 (imax (t6.1 (t6.1 a0 4) a2) (w32 (a3 + 1)))) fun M10 => some M10 else none else none else none) (fun (j5 : Mem → Option Mem) => if a2 = 0 then (if M.2.1 a0 = 6 then if 14 ≤ M.2.1 (M.1 a0 5) ∧ (0 : Int) ≤ a3 ∧ a3 < M.2.2.1 (M.1 a0 5) then if M.2.1 a1 = 3 then if M.2.1 (M.1 (M.1 a0 5) a3) = 7 then (fX7_copy M (M.1 (M.1 a0 5) a3) (M.1 a1 2)).bind fun r16 => j5 r16 else none else none else none else none) else if a2 = 1 then (if M.2.1 a0 = 6 then if 14 ≤ M.2.1 (M.1 a0 6) ∧ (0 : Int) ≤ a3 ∧ a3 < M.2.2.1 (M.1 a0 6) then if M.2.1 a1 = 3 then if M.2.1 (M.1 (M.1 a0 6) a3) = 0 then (fX0_copy M (M.1 (M.1 a0 6) a3) (M.1 a1 3)).bind fun r23 => j5 r23 else none else none else none else none) else if a2 = 2 then (if M.2.1 a0 = 6 then if 14 ≤ M.2.1 (M.1 a0 7) ∧ (0 : Int) ≤ a3 ∧ a3 < M.2.2.1 (M.1 a0 7) then if M.2.1 a1 = 3 then if M.2.1 (M.1 (M.1 a0 7) a3) = 1 then (fX1_copy M (M.1 (M.1 a0 7) a3) (M.1 a1 4)).bind fun r30 => j5 r30 else none else none else none else none) else if M.2.1 a0 = 6 then if 14 ≤ M.2.1 (M.1 a0 8) ∧ (0 : Int) ≤ a3 ∧ a3 < M.2.2.1 (M.1 a0 8) then if M.2.1 a1 = 3 then if M.2.1 (M.1 (M.1 a0 8) a3) = 4 then (fX4_copy M (M.1 (M.1 a0 8) a3) (M.1 a1 5)).bind fun r36 => j5 r36 else none else none else none else none)) else (some M))) else (some M))
set_option maxRecDepth 100000 in
set_option maxHeartbeats 4000000 in
theorem kX6_keep (d : Nat) (hd : 3 ≤ d) (M : Mem) (a0 a1 a2 a3 : Int) : Ct mX6_keep d 0 0 [pA a0, pA a1, pI a2, pI a3] M dV (fX6_keep M a0 a1 a2 a3) := by
  obtain ⟨d, rfl⟩ : ∃ k, d = k + 1 := ⟨d - 1, by omega⟩
  refine Ct.of 0 (fun _ _ _ => trivial) (by decide +kernel) rfl ?_
  unfold fX6_keep
  refine v_iload_n dX6_keep_0 rfl ?_
  refine v_if_lt (tgt := 18) dX6_keep_1 (by decide) (fun c1 => ?_) (fun c1 => ?_)
  · exact v_return dX6_keep_18 rfl rfl
  · refine v_iload_n dX6_keep_4 rfl ?_
    refine v_iconst dX6_keep_5 (by decide) ?_
    refine v_icmp_ge (tgt := 18) dX6_keep_6 (by decide) (fun c2 => ?_) (fun c2 => ?_)
    · refine v_iload_n dX6_keep_9 rfl ?_
      refine v_if_lt (tgt := 18) dX6_keep_10 (by decide) (fun c3 => ?_) (fun c3 => ?_)
      · exact v_return dX6_keep_18 rfl rfl
      · refine v_iload_n dX6_keep_13 rfl ?_
        refine v_iconst dX6_keep_14 (by decide) ?_
        refine v_icmp_lt (tgt := 19) dX6_keep_15 (by decide) (fun c4 => ?_) (fun c4 => ?_)
        · refine v_iload_n dX6_keep_19 rfl ?_
          refine v_join (fun (t6 : Mem) => [some (pA a0), none, some (pI a2), some (pI a3)]) (fun (t6 : Mem) => []) (fun (t6 : Mem) => t6) 109 (fun t6 => ?_) (fun j5 hj5 => ?_)
          · refine v_aload_n dX6_keep_109 rfl ?_
            refine v_if (fun h7 => ?_)
            refine v_get (v := pA (t6.1 a0 4)) 6 4 rfl inX6 (by decide) tw212 dX6_keep_110 h7 rfl ?_
            refine v_iload_n dX6_keep_113 rfl ?_
            refine v_aload_n dX6_keep_114 rfl ?_
            refine v_get (v := pA (t6.1 a0 4)) 6 4 rfl inX6 (by decide) tw212 dX6_keep_115 h7 rfl ?_
            refine v_iload_n dX6_keep_118 rfl ?_
            refine v_if (fun h8 => ?_)
            refine v_iaload h8 dX6_keep_119 ?_
            refine v_iload_n dX6_keep_120 rfl ?_
            refine v_iconst dX6_keep_121 (by decide) ?_
            refine v_iadd dX6_keep_122 ?_
            refine v_mmax (mi := mX6_keep) tw671 tw624 tw12 tw625 (Nat.le_of_ble_eq_true rfl) dX6_keep_123 ?_
            refine v_if (fun h9 => ?_)
            refine v_iastore h9 dX6_keep_126 ?_
            refine v_bM (fun M10 e11 => ?_)
            exact v_return dX6_keep_127 rfl rfl
          · refine v_ite (fun h12 => ?_) (fun h12 => ?_)
            · refine v_tabIn (off := 28) (tgt := 48) dX6_keep_20 h12 (by decide) ?_
              refine v_aload_n dX6_keep_48 rfl ?_
              refine v_if (fun h13 => ?_)
              refine v_get (v := pA (M.1 a0 5)) 6 5 rfl inX6 (by decide) tw214 dX6_keep_49 h13 rfl ?_
              refine v_iload_n dX6_keep_52 rfl ?_
              refine v_if (fun h14 => ?_)
              refine v_aaload h14 dX6_keep_53 ?_
              refine v_aload_n dX6_keep_54 rfl ?_
              refine v_if (fun h15 => ?_)
              refine v_get (v := pA (M.1 a1 2)) 3 2 rfl inX3 (by decide) tw259 dX6_keep_55 h15 rfl ?_
              refine v_if (fun h18 => ?_)
              refine v_cV (mi := mX6_keep) (c0 := 0) (c1 := 0) (As := [pA (M.1 a1 2)]) (st := []) (kX7_copy d (by omega) _ _ _) rfl h18 rfl okX7_copy (Or.inl tw646) tw647 tw648 rfl (Nat.le_of_ble_eq_true rfl) dX6_keep_58 (fun r16 => []) (fun r16 => r16) (fun _ => rfl) (fun _ => rfl) (fun r16 h17 => ?_) rfl
              refine v_goto (tgt := 109) dX6_keep_61 (by decide) ?_
              exact v_drop [some (pA a0), none, some (pI a2), some (pI a3)] (ls_s (ls_n (ls_s (ls_s ls_e)))) (hj5 r16)
            · refine v_ite (fun h19 => ?_) (fun h19 => ?_)
              · refine v_tabIn (off := 44) (tgt := 64) dX6_keep_20 h19 (by decide) ?_
                refine v_aload_n dX6_keep_64 rfl ?_
                refine v_if (fun h20 => ?_)
                refine v_get (v := pA (M.1 a0 6)) 6 6 rfl inX6 (by decide) tw216 dX6_keep_65 h20 rfl ?_
                refine v_iload_n dX6_keep_68 rfl ?_
                refine v_if (fun h21 => ?_)
                refine v_aaload h21 dX6_keep_69 ?_
                refine v_aload_n dX6_keep_70 rfl ?_
                refine v_if (fun h22 => ?_)
                refine v_get (v := pA (M.1 a1 3)) 3 3 rfl inX3 (by decide) tw261 dX6_keep_71 h22 rfl ?_
                refine v_if (fun h25 => ?_)
                refine v_cV (mi := mX6_keep) (c0 := 0) (c1 := 0) (As := [pA (M.1 a1 3)]) (st := []) (kX0_copy d (by omega) _ _ _) rfl h25 rfl okX0_copy (Or.inl tw657) tw658 tw659 rfl (Nat.le_of_ble_eq_true rfl) dX6_keep_74 (fun r23 => []) (fun r23 => r23) (fun _ => rfl) (fun _ => rfl) (fun r23 h24 => ?_) rfl
                refine v_goto (tgt := 109) dX6_keep_77 (by decide) ?_
                exact v_drop [some (pA a0), none, some (pI a2), some (pI a3)] (ls_s (ls_n (ls_s (ls_s ls_e)))) (hj5 r23)
              · refine v_ite (fun h26 => ?_) (fun h26 => ?_)
                · refine v_tabIn (off := 60) (tgt := 80) dX6_keep_20 h26 (by decide) ?_
                  refine v_aload_n dX6_keep_80 rfl ?_
                  refine v_if (fun h27 => ?_)
                  refine v_get (v := pA (M.1 a0 7)) 6 7 rfl inX6 (by decide) tw218 dX6_keep_81 h27 rfl ?_
                  refine v_iload_n dX6_keep_84 rfl ?_
                  refine v_if (fun h28 => ?_)
                  refine v_aaload h28 dX6_keep_85 ?_
                  refine v_aload_n dX6_keep_86 rfl ?_
                  refine v_if (fun h29 => ?_)
                  refine v_get (v := pA (M.1 a1 4)) 3 4 rfl inX3 (by decide) tw263 dX6_keep_87 h29 rfl ?_
                  refine v_if (fun h32 => ?_)
                  refine v_cV (mi := mX6_keep) (c0 := 0) (c1 := 0) (As := [pA (M.1 a1 4)]) (st := []) (kX1_copy d (by omega) _ _ _) rfl h32 rfl okX1_copy (Or.inl tw661) tw662 tw663 rfl (Nat.le_of_ble_eq_true rfl) dX6_keep_90 (fun r30 => []) (fun r30 => r30) (fun _ => rfl) (fun _ => rfl) (fun r30 h31 => ?_) rfl
                  refine v_goto (tgt := 109) dX6_keep_93 (by decide) ?_
                  exact v_drop [some (pA a0), none, some (pI a2), some (pI a3)] (ls_s (ls_n (ls_s (ls_s ls_e)))) (hj5 r30)
                · refine v_tabOut (tgt := 96) dX6_keep_20 (by omega) (by decide) ?_
                  refine v_aload_n dX6_keep_96 rfl ?_
                  refine v_if (fun h33 => ?_)
                  refine v_get (v := pA (M.1 a0 8)) 6 8 rfl inX6 (by decide) tw219 dX6_keep_97 h33 rfl ?_
                  refine v_iload_n dX6_keep_100 rfl ?_
                  refine v_if (fun h34 => ?_)
                  refine v_aaload h34 dX6_keep_101 ?_
                  refine v_aload_n dX6_keep_102 rfl ?_
                  refine v_if (fun h35 => ?_)
                  refine v_get (v := pA (M.1 a1 5)) 3 5 rfl inX3 (by decide) tw265 dX6_keep_103 h35 rfl ?_
                  refine v_if (fun h38 => ?_)
                  refine v_cV (mi := mX6_keep) (c0 := 0) (c1 := 0) (As := [pA (M.1 a1 5)]) (st := []) (kX4_copy d (by omega) _ _ _) rfl h38 rfl okX4_copy (Or.inl tw666) tw667 tw668 rfl (Nat.le_of_ble_eq_true rfl) dX6_keep_106 (fun r36 => []) (fun r36 => r36) (fun _ => rfl) (fun _ => rfl) (fun r36 h37 => ?_) rfl
                  exact v_drop [some (pA a0), none, some (pI a2), some (pI a3)] (ls_s (ls_n (ls_s (ls_s ls_e)))) (hj5 r36)
        · exact v_return dX6_keep_18 rfl rfl
    · exact v_return dX6_keep_18 rfl rfl
theorem chX6_copy_0 : (cX6_copy.data.toList.drop 0).take 16 = [43, 180, 0, 9, 3, 42, 180, 0, 9, 3, 17, 2, 88, 184, 0, 97] := by decide +kernel
theorem chX6_copy_1 : (cX6_copy.data.toList.drop 16).take 16 = [42, 43, 180, 0, 15, 181, 0, 15, 42, 43, 180, 0, 19, 181, 0, 19] := by decide +kernel
theorem chX6_copy_2 : (cX6_copy.data.toList.drop 32).take 16 = [42, 43, 180, 0, 22, 181, 0, 22, 43, 180, 0, 25, 42, 180, 0, 25] := by decide +kernel
theorem chX6_copy_3 : (cX6_copy.data.toList.drop 48).take 16 = [184, 0, 103, 3, 61, 28, 5, 162, 0, 69, 42, 180, 0, 31, 28, 50] := by decide +kernel
theorem chX6_copy_4 : (cX6_copy.data.toList.drop 64).take 16 = [43, 180, 0, 31, 28, 50, 182, 0, 67, 42, 180, 0, 37, 28, 50, 43] := by decide +kernel
theorem chX6_copy_5 : (cX6_copy.data.toList.drop 80).take 16 = [180, 0, 37, 28, 50, 182, 0, 75, 42, 180, 0, 43, 28, 50, 43, 180] := by decide +kernel
theorem chX6_copy_6 : (cX6_copy.data.toList.drop 96).take 16 = [0, 43, 28, 50, 182, 0, 81, 42, 180, 0, 49, 28, 50, 43, 180, 0] := by decide +kernel
theorem chX6_copy_7 : (cX6_copy.data.toList.drop 112).take 16 = [49, 28, 50, 182, 0, 88, 132, 2, 1, 167, 255, 188, 177] := by decide +kernel
theorem dX6_copy_0 : decode cX6_copy 0 = .ok (.aload_n 1, 1) := oq_43 (byt chX6_copy_0 0 rfl)
theorem dX6_copy_1 : decode cX6_copy 1 = .ok (.getfield 9, 3) := oq_180 (byt chX6_copy_0 1 rfl) (byt chX6_copy_0 2 rfl) (byt chX6_copy_0 3 rfl) rfl
theorem dX6_copy_4 : decode cX6_copy 4 = .ok (.iconst 0, 1) := oq_3 (byt chX6_copy_0 4 rfl)
theorem dX6_copy_5 : decode cX6_copy 5 = .ok (.aload_n 0, 1) := oq_42 (byt chX6_copy_0 5 rfl)
theorem dX6_copy_6 : decode cX6_copy 6 = .ok (.getfield 9, 3) := oq_180 (byt chX6_copy_0 6 rfl) (byt chX6_copy_0 7 rfl) (byt chX6_copy_0 8 rfl) rfl
theorem dX6_copy_9 : decode cX6_copy 9 = .ok (.iconst 0, 1) := oq_3 (byt chX6_copy_0 9 rfl)
theorem dX6_copy_10 : decode cX6_copy 10 = .ok (.sipush 600, 3) := oq_17 (byt chX6_copy_0 10 rfl) (byt chX6_copy_0 11 rfl) (byt chX6_copy_0 12 rfl) (by decide +kernel)
theorem dX6_copy_13 : decode cX6_copy 13 = .ok (.invokestatic 97, 3) := oq_184 (byt chX6_copy_0 13 rfl) (byt chX6_copy_0 14 rfl) (byt chX6_copy_0 15 rfl) rfl
theorem dX6_copy_16 : decode cX6_copy 16 = .ok (.aload_n 0, 1) := oq_42 (byt chX6_copy_1 0 rfl)
theorem dX6_copy_17 : decode cX6_copy 17 = .ok (.aload_n 1, 1) := oq_43 (byt chX6_copy_1 1 rfl)
theorem dX6_copy_18 : decode cX6_copy 18 = .ok (.getfield 15, 3) := oq_180 (byt chX6_copy_1 2 rfl) (byt chX6_copy_1 3 rfl) (byt chX6_copy_1 4 rfl) rfl
theorem dX6_copy_21 : decode cX6_copy 21 = .ok (.putfield 15, 3) := oq_181 (byt chX6_copy_1 5 rfl) (byt chX6_copy_1 6 rfl) (byt chX6_copy_1 7 rfl) rfl
theorem dX6_copy_24 : decode cX6_copy 24 = .ok (.aload_n 0, 1) := oq_42 (byt chX6_copy_1 8 rfl)
theorem dX6_copy_25 : decode cX6_copy 25 = .ok (.aload_n 1, 1) := oq_43 (byt chX6_copy_1 9 rfl)
theorem dX6_copy_26 : decode cX6_copy 26 = .ok (.getfield 19, 3) := oq_180 (byt chX6_copy_1 10 rfl) (byt chX6_copy_1 11 rfl) (byt chX6_copy_1 12 rfl) rfl
theorem dX6_copy_29 : decode cX6_copy 29 = .ok (.putfield 19, 3) := oq_181 (byt chX6_copy_1 13 rfl) (byt chX6_copy_1 14 rfl) (byt chX6_copy_1 15 rfl) rfl
theorem dX6_copy_32 : decode cX6_copy 32 = .ok (.aload_n 0, 1) := oq_42 (byt chX6_copy_2 0 rfl)
theorem dX6_copy_33 : decode cX6_copy 33 = .ok (.aload_n 1, 1) := oq_43 (byt chX6_copy_2 1 rfl)
theorem dX6_copy_34 : decode cX6_copy 34 = .ok (.getfield 22, 3) := oq_180 (byt chX6_copy_2 2 rfl) (byt chX6_copy_2 3 rfl) (byt chX6_copy_2 4 rfl) rfl
theorem dX6_copy_37 : decode cX6_copy 37 = .ok (.putfield 22, 3) := oq_181 (byt chX6_copy_2 5 rfl) (byt chX6_copy_2 6 rfl) (byt chX6_copy_2 7 rfl) rfl
theorem dX6_copy_40 : decode cX6_copy 40 = .ok (.aload_n 1, 1) := oq_43 (byt chX6_copy_2 8 rfl)
theorem dX6_copy_41 : decode cX6_copy 41 = .ok (.getfield 25, 3) := oq_180 (byt chX6_copy_2 9 rfl) (byt chX6_copy_2 10 rfl) (byt chX6_copy_2 11 rfl) rfl
theorem dX6_copy_44 : decode cX6_copy 44 = .ok (.aload_n 0, 1) := oq_42 (byt chX6_copy_2 12 rfl)
theorem dX6_copy_45 : decode cX6_copy 45 = .ok (.getfield 25, 3) := oq_180 (byt chX6_copy_2 13 rfl) (byt chX6_copy_2 14 rfl) (byt chX6_copy_2 15 rfl) rfl
theorem dX6_copy_48 : decode cX6_copy 48 = .ok (.invokestatic 103, 3) := oq_184 (byt chX6_copy_3 0 rfl) (byt chX6_copy_3 1 rfl) (byt chX6_copy_3 2 rfl) rfl
theorem dX6_copy_51 : decode cX6_copy 51 = .ok (.iconst 0, 1) := oq_3 (byt chX6_copy_3 3 rfl)
theorem dX6_copy_52 : decode cX6_copy 52 = .ok (.istore_n 2, 1) := oq_61 (byt chX6_copy_3 4 rfl)
theorem dX6_copy_53 : decode cX6_copy 53 = .ok (.iload_n 2, 1) := oq_28 (byt chX6_copy_3 5 rfl)
theorem dX6_copy_54 : decode cX6_copy 54 = .ok (.iconst 2, 1) := oq_5 (byt chX6_copy_3 6 rfl)
theorem dX6_copy_55 : decode cX6_copy 55 = .ok (.if_icmp .ge 69, 3) := oq_162 (byt chX6_copy_3 7 rfl) (byt chX6_copy_3 8 rfl) (byt chX6_copy_3 9 rfl) (by decide +kernel)
theorem dX6_copy_58 : decode cX6_copy 58 = .ok (.aload_n 0, 1) := oq_42 (byt chX6_copy_3 10 rfl)
theorem dX6_copy_59 : decode cX6_copy 59 = .ok (.getfield 31, 3) := oq_180 (byt chX6_copy_3 11 rfl) (byt chX6_copy_3 12 rfl) (byt chX6_copy_3 13 rfl) rfl
theorem dX6_copy_62 : decode cX6_copy 62 = .ok (.iload_n 2, 1) := oq_28 (byt chX6_copy_3 14 rfl)
theorem dX6_copy_63 : decode cX6_copy 63 = .ok (.aaload, 1) := oq_50 (byt chX6_copy_3 15 rfl)
theorem dX6_copy_64 : decode cX6_copy 64 = .ok (.aload_n 1, 1) := oq_43 (byt chX6_copy_4 0 rfl)
theorem dX6_copy_65 : decode cX6_copy 65 = .ok (.getfield 31, 3) := oq_180 (byt chX6_copy_4 1 rfl) (byt chX6_copy_4 2 rfl) (byt chX6_copy_4 3 rfl) rfl
theorem dX6_copy_68 : decode cX6_copy 68 = .ok (.iload_n 2, 1) := oq_28 (byt chX6_copy_4 4 rfl)
theorem dX6_copy_69 : decode cX6_copy 69 = .ok (.aaload, 1) := oq_50 (byt chX6_copy_4 5 rfl)
theorem dX6_copy_70 : decode cX6_copy 70 = .ok (.invokevirtual 67, 3) := oq_182 (byt chX6_copy_4 6 rfl) (byt chX6_copy_4 7 rfl) (byt chX6_copy_4 8 rfl) rfl
theorem dX6_copy_73 : decode cX6_copy 73 = .ok (.aload_n 0, 1) := oq_42 (byt chX6_copy_4 9 rfl)
theorem dX6_copy_74 : decode cX6_copy 74 = .ok (.getfield 37, 3) := oq_180 (byt chX6_copy_4 10 rfl) (byt chX6_copy_4 11 rfl) (byt chX6_copy_4 12 rfl) rfl
theorem dX6_copy_77 : decode cX6_copy 77 = .ok (.iload_n 2, 1) := oq_28 (byt chX6_copy_4 13 rfl)
theorem dX6_copy_78 : decode cX6_copy 78 = .ok (.aaload, 1) := oq_50 (byt chX6_copy_4 14 rfl)
theorem dX6_copy_79 : decode cX6_copy 79 = .ok (.aload_n 1, 1) := oq_43 (byt chX6_copy_4 15 rfl)
theorem dX6_copy_80 : decode cX6_copy 80 = .ok (.getfield 37, 3) := oq_180 (byt chX6_copy_5 0 rfl) (byt chX6_copy_5 1 rfl) (byt chX6_copy_5 2 rfl) rfl
theorem dX6_copy_83 : decode cX6_copy 83 = .ok (.iload_n 2, 1) := oq_28 (byt chX6_copy_5 3 rfl)
theorem dX6_copy_84 : decode cX6_copy 84 = .ok (.aaload, 1) := oq_50 (byt chX6_copy_5 4 rfl)
theorem dX6_copy_85 : decode cX6_copy 85 = .ok (.invokevirtual 75, 3) := oq_182 (byt chX6_copy_5 5 rfl) (byt chX6_copy_5 6 rfl) (byt chX6_copy_5 7 rfl) rfl
theorem dX6_copy_88 : decode cX6_copy 88 = .ok (.aload_n 0, 1) := oq_42 (byt chX6_copy_5 8 rfl)
theorem dX6_copy_89 : decode cX6_copy 89 = .ok (.getfield 43, 3) := oq_180 (byt chX6_copy_5 9 rfl) (byt chX6_copy_5 10 rfl) (byt chX6_copy_5 11 rfl) rfl
theorem dX6_copy_92 : decode cX6_copy 92 = .ok (.iload_n 2, 1) := oq_28 (byt chX6_copy_5 12 rfl)
theorem dX6_copy_93 : decode cX6_copy 93 = .ok (.aaload, 1) := oq_50 (byt chX6_copy_5 13 rfl)
theorem dX6_copy_94 : decode cX6_copy 94 = .ok (.aload_n 1, 1) := oq_43 (byt chX6_copy_5 14 rfl)
theorem dX6_copy_95 : decode cX6_copy 95 = .ok (.getfield 43, 3) := oq_180 (byt chX6_copy_5 15 rfl) (byt chX6_copy_6 0 rfl) (byt chX6_copy_6 1 rfl) rfl
theorem dX6_copy_98 : decode cX6_copy 98 = .ok (.iload_n 2, 1) := oq_28 (byt chX6_copy_6 2 rfl)
theorem dX6_copy_99 : decode cX6_copy 99 = .ok (.aaload, 1) := oq_50 (byt chX6_copy_6 3 rfl)
theorem dX6_copy_100 : decode cX6_copy 100 = .ok (.invokevirtual 81, 3) := oq_182 (byt chX6_copy_6 4 rfl) (byt chX6_copy_6 5 rfl) (byt chX6_copy_6 6 rfl) rfl
theorem dX6_copy_103 : decode cX6_copy 103 = .ok (.aload_n 0, 1) := oq_42 (byt chX6_copy_6 7 rfl)
theorem dX6_copy_104 : decode cX6_copy 104 = .ok (.getfield 49, 3) := oq_180 (byt chX6_copy_6 8 rfl) (byt chX6_copy_6 9 rfl) (byt chX6_copy_6 10 rfl) rfl
theorem dX6_copy_107 : decode cX6_copy 107 = .ok (.iload_n 2, 1) := oq_28 (byt chX6_copy_6 11 rfl)
theorem dX6_copy_108 : decode cX6_copy 108 = .ok (.aaload, 1) := oq_50 (byt chX6_copy_6 12 rfl)
theorem dX6_copy_109 : decode cX6_copy 109 = .ok (.aload_n 1, 1) := oq_43 (byt chX6_copy_6 13 rfl)
theorem dX6_copy_110 : decode cX6_copy 110 = .ok (.getfield 49, 3) := oq_180 (byt chX6_copy_6 14 rfl) (byt chX6_copy_6 15 rfl) (byt chX6_copy_7 0 rfl) rfl
theorem dX6_copy_113 : decode cX6_copy 113 = .ok (.iload_n 2, 1) := oq_28 (byt chX6_copy_7 1 rfl)
theorem dX6_copy_114 : decode cX6_copy 114 = .ok (.aaload, 1) := oq_50 (byt chX6_copy_7 2 rfl)
theorem dX6_copy_115 : decode cX6_copy 115 = .ok (.invokevirtual 88, 3) := oq_182 (byt chX6_copy_7 3 rfl) (byt chX6_copy_7 4 rfl) (byt chX6_copy_7 5 rfl) rfl
theorem dX6_copy_118 : decode cX6_copy 118 = .ok (.iinc 2 1, 3) := oq_132 (byt chX6_copy_7 6 rfl) (byt chX6_copy_7 7 rfl) (byt chX6_copy_7 8 rfl) rfl
theorem dX6_copy_121 : decode cX6_copy 121 = .ok (.goto (-68), 3) := oq_167 (byt chX6_copy_7 9 rfl) (byt chX6_copy_7 10 rfl) (byt chX6_copy_7 11 rfl) (by decide +kernel)
theorem dX6_copy_124 : decode cX6_copy 124 = .ok (.return_, 1) := oq_177 (byt chX6_copy_7 12 rfl)
abbrev mX6_copy : MI := (yX6_copy, cX6_copy, 3, none, noE)
theorem okX6_copy : cok mX6_copy 1 := ⟨tw1180, tw2, by decide, by decide, by decide, by decide +kernel⟩
def fX6_copy (M : Mem) (a0 a1 : Int) : Option Mem :=
  if M.2.1 a1 = 6 then if M.2.1 a0 = 6 then if (M.2.1 (M.1 a1 0) = 11 ∨ M.2.1 (M.1 a1 0) = 12) ∧ M.2.1 (M.1 a0 0) = M.2.1 (M.1 a1 0) ∧ (0 : Int) ≤ 600 ∧ 600 ≤ M.2.2.1 (M.1 a1 0) ∧ 600 ≤ M.2.2.1 (M.1 a0 0) then bM (mcp M (M.1 a1 0) (M.1 a0 0) 600) fun M4 => bM (mst M4 a0 1 (M4.1 a1 1)) fun M6 => bM (mst M6 a0 2 (M6.1 a1 2)) fun M8 => bM (mst M8 a0 3 (M8.1 a1 3)) fun M10 => (fX10_copyRow M10 (M10.1 a1 4) (M10.1 a0 4)).bind fun r12 => iterC (fun (rec14 : (Int × Mem) → Option Mem) (s15 : Int × Mem) => if s15.1 < 2 then (if s15.2.2.1 a0 = 6 then if 14 ≤ s15.2.2.1 (s15.2.1 a0 5) ∧ (0 : Int) ≤ s15.1 ∧ s15.1 < s15.2.2.2.1 (s15.2.1 a0 5) then if s15.2.2.1 a1 = 6 then if 14 ≤ s15.2.2.1 (s15.2.1 a1 5) ∧ (0 : Int) ≤ s15.1 ∧ s15.1 < s15.2.2.2.1 (s15.2.1 a1 5) then if s15.2.2.1 (s15.2.1 (s15.2.1 a0 5) s15.1) = 7 then (fX7_copy s15.2 (s15.2.1 (s15.2.1 a0 5) s15.1) (s15.2.1 (s15.2.1 a1 5) s15.1)).bind fun r21 => if r21.2.1 a0 = 6 then if 14 ≤ r21.2.1 (r21.1 a0 6) ∧ (0 : Int) ≤ s15.1 ∧ s15.1 < r21.2.2.1 (r21.1 a0 6) then if r21.2.1 a1 = 6 then if 14 ≤ r21.2.1 (r21.1 a1 6) ∧ (0 : Int) ≤ s15.1 ∧ s15.1 < r21.2.2.1 (r21.1 a1 6) then if r21.2.1 (r21.1 (r21.1 a0 6) s15.1) = 0 then (fX0_copy r21 (r21.1 (r21.1 a0 6) s15.1) (r21.1 (r21.1 a1 6) s15.1)).bind fun r28 => if r28.2.1 a0 = 6 then if 14 ≤ r28.2.1 (r28.1 a0 7) ∧ (0 : Int) ≤ s15.1 ∧ s15.1 < r28.2.2.1 (r28.1 a0 7) then if r28.2.1 a1 = 6 then if 14 ≤ r28.2.1 (r28.1 a1 7) ∧ (0 : Int) ≤ s15.1 ∧ s15.1 < r28.2.2.1 (r28.1 a1 7) then if r28.2.1 (r28.1 (r28.1 a0 7) s15.1) = 1 then (fX1_copy r28 (r28.1 (r28.1 a0 7) s15.1) (r28.1 (r28.1 a1 7) s15.1)).bind fun r35 => if r35.2.1 a0 = 6 then if 14 ≤ r35.2.1 (r35.1 a0 8) ∧ (0 : Int) ≤ s15.1 ∧ s15.1 < r35.2.2.1 (r35.1 a0 8) then if r35.2.1 a1 = 6 then if 14 ≤ r35.2.1 (r35.1 a1 8) ∧ (0 : Int) ≤ s15.1 ∧ s15.1 < r35.2.2.1 (r35.1 a1 8) then if r35.2.1 (r35.1 (r35.1 a0 8) s15.1) = 4 then (fX4_copy r35 (r35.1 (r35.1 a0 8) s15.1) (r35.1 (r35.1 a1 8) s15.1)).bind fun r42 => rec14 (w32 (s15.1 + 1), r42) else none else none else none else none else none else none else none else none else none else none else none else none else none else none else none else none else none else none else none else none) else (some s15.2)) BIG (0, r12) else none else none else none
set_option maxRecDepth 100000 in
set_option maxHeartbeats 4000000 in
theorem kX6_copy (d : Nat) (hd : 3 ≤ d) (M : Mem) (a0 a1 : Int) : Ct mX6_copy d 0 0 [pA a0, pA a1] M dV (fX6_copy M a0 a1) := by
  obtain ⟨d, rfl⟩ : ∃ k, d = k + 1 := ⟨d - 1, by omega⟩
  refine Ct.of 1 (fun _ _ _ => trivial) (by decide +kernel) rfl ?_
  unfold fX6_copy
  refine v_aload_n dX6_copy_0 rfl ?_
  refine v_if (fun h1 => ?_)
  refine v_get (v := pA (M.1 a1 0)) 6 0 rfl inX6 (by decide) tw204 dX6_copy_1 h1 rfl ?_
  refine v_iconst dX6_copy_4 (by decide) ?_
  refine v_aload_n dX6_copy_5 rfl ?_
  refine v_if (fun h2 => ?_)
  refine v_get (v := pA (M.1 a0 0)) 6 0 rfl inX6 (by decide) tw204 dX6_copy_6 h2 rfl ?_
  refine v_iconst dX6_copy_9 (by decide) ?_
  refine v_sipush dX6_copy_10 (by decide) ?_
  refine v_if (fun h3 => ?_)
  refine v_acopy (mi := mX6_copy) h3 tw1181 tw655 tw656 tw17 (Nat.le_of_ble_eq_true rfl) dX6_copy_13 ?_
  refine v_bM (fun M4 e5 => ?_)
  refine v_aload_n dX6_copy_16 rfl ?_
  refine v_aload_n dX6_copy_17 rfl ?_
  refine v_get (v := pI (M4.1 a1 1)) 6 1 rfl inX6 (by decide) tw206 dX6_copy_18 (by rw [e5]; exact h1) rfl ?_
  refine v_put (x := M4.1 a1 1) 6 1 rfl inX6 (by decide) tw206 (Or.inl rfl) rfl dX6_copy_21 (by rw [e5]; exact h2) rfl id ?_
  refine v_bM (fun M6 e7 => ?_)
  refine v_aload_n dX6_copy_24 rfl ?_
  refine v_aload_n dX6_copy_25 rfl ?_
  refine v_get (v := pI (M6.1 a1 2)) 6 2 rfl inX6 (by decide) tw208 dX6_copy_26 (by rw [e7, e5]; exact h1) rfl ?_
  refine v_put (x := M6.1 a1 2) 6 2 rfl inX6 (by decide) tw208 (Or.inl rfl) rfl dX6_copy_29 (by rw [e7, e5]; exact h2) rfl id ?_
  refine v_bM (fun M8 e9 => ?_)
  refine v_aload_n dX6_copy_32 rfl ?_
  refine v_aload_n dX6_copy_33 rfl ?_
  refine v_get (v := pI (M8.1 a1 3)) 6 3 rfl inX6 (by decide) tw210 dX6_copy_34 (by rw [e9, e7, e5]; exact h1) rfl ?_
  refine v_put (x := M8.1 a1 3) 6 3 rfl inX6 (by decide) tw210 (Or.inl rfl) rfl dX6_copy_37 (by rw [e9, e7, e5]; exact h2) rfl id ?_
  refine v_bM (fun M10 e11 => ?_)
  refine v_aload_n dX6_copy_40 rfl ?_
  refine v_get (v := pA (M10.1 a1 4)) 6 4 rfl inX6 (by decide) tw212 dX6_copy_41 (by rw [e11, e9, e7, e5]; exact h1) rfl ?_
  refine v_aload_n dX6_copy_44 rfl ?_
  refine v_get (v := pA (M10.1 a0 4)) 6 4 rfl inX6 (by decide) tw212 dX6_copy_45 (by rw [e11, e9, e7, e5]; exact h2) rfl ?_
  refine v_cS (mi := mX6_copy) (c0 := 0) (c1 := 0) (As := [pA (M10.1 a1 4), pA (M10.1 a0 4)]) (st := []) (kX10_copyRow d (by omega) _ _ _) okX10_copyRow (Or.inr nw27) tw651 rfl (Nat.le_of_ble_eq_true rfl) dX6_copy_48 (fun r12 => []) (fun r12 => r12) (fun _ => rfl) (fun _ => rfl) (fun r12 h13 => ?_) rfl
  refine v_iconst dX6_copy_51 (by decide) ?_
  refine v_istore_n (ls' := [some (pA a0), some (pA a1), some (pI 0)]) dX6_copy_52 (by decide) rfl ?_
  refine v_loop (fun (s15 : Int × Mem) => [some (pA a0), some (pA a1), some (pI s15.1)]) (fun (s15 : Int × Mem) => s15.2) (s0 := (0, r12)) ?_
  intro rec14 hrec14 s15
  refine v_iload_n dX6_copy_53 rfl ?_
  refine v_iconst dX6_copy_54 (by decide) ?_
  refine v_icmp_ge (tgt := 124) dX6_copy_55 (by decide) (fun c16 => ?_) (fun c16 => ?_)
  · refine v_aload_n dX6_copy_58 rfl ?_
    refine v_if (fun h17 => ?_)
    refine v_get (v := pA (s15.2.1 a0 5)) 6 5 rfl inX6 (by decide) tw214 dX6_copy_59 h17 rfl ?_
    refine v_iload_n dX6_copy_62 rfl ?_
    refine v_if (fun h18 => ?_)
    refine v_aaload h18 dX6_copy_63 ?_
    refine v_aload_n dX6_copy_64 rfl ?_
    refine v_if (fun h19 => ?_)
    refine v_get (v := pA (s15.2.1 a1 5)) 6 5 rfl inX6 (by decide) tw214 dX6_copy_65 h19 rfl ?_
    refine v_iload_n dX6_copy_68 rfl ?_
    refine v_if (fun h20 => ?_)
    refine v_aaload h20 dX6_copy_69 ?_
    refine v_if (fun h23 => ?_)
    refine v_cV (mi := mX6_copy) (c0 := 0) (c1 := 0) (As := [pA (s15.2.1 (s15.2.1 a1 5) s15.1)]) (st := []) (kX7_copy d (by omega) _ _ _) rfl h23 rfl okX7_copy (Or.inl tw646) tw647 tw648 rfl (Nat.le_of_ble_eq_true rfl) dX6_copy_70 (fun r21 => []) (fun r21 => r21) (fun _ => rfl) (fun _ => rfl) (fun r21 h22 => ?_) rfl
    refine v_aload_n dX6_copy_73 rfl ?_
    refine v_if (fun h24 => ?_)
    refine v_get (v := pA (r21.1 a0 6)) 6 6 rfl inX6 (by decide) tw216 dX6_copy_74 h24 rfl ?_
    refine v_iload_n dX6_copy_77 rfl ?_
    refine v_if (fun h25 => ?_)
    refine v_aaload h25 dX6_copy_78 ?_
    refine v_aload_n dX6_copy_79 rfl ?_
    refine v_if (fun h26 => ?_)
    refine v_get (v := pA (r21.1 a1 6)) 6 6 rfl inX6 (by decide) tw216 dX6_copy_80 h26 rfl ?_
    refine v_iload_n dX6_copy_83 rfl ?_
    refine v_if (fun h27 => ?_)
    refine v_aaload h27 dX6_copy_84 ?_
    refine v_if (fun h30 => ?_)
    refine v_cV (mi := mX6_copy) (c0 := 0) (c1 := 0) (As := [pA (r21.1 (r21.1 a1 6) s15.1)]) (st := []) (kX0_copy d (by omega) _ _ _) rfl h30 rfl okX0_copy (Or.inl tw657) tw658 tw659 rfl (Nat.le_of_ble_eq_true rfl) dX6_copy_85 (fun r28 => []) (fun r28 => r28) (fun _ => rfl) (fun _ => rfl) (fun r28 h29 => ?_) rfl
    refine v_aload_n dX6_copy_88 rfl ?_
    refine v_if (fun h31 => ?_)
    refine v_get (v := pA (r28.1 a0 7)) 6 7 rfl inX6 (by decide) tw218 dX6_copy_89 h31 rfl ?_
    refine v_iload_n dX6_copy_92 rfl ?_
    refine v_if (fun h32 => ?_)
    refine v_aaload h32 dX6_copy_93 ?_
    refine v_aload_n dX6_copy_94 rfl ?_
    refine v_if (fun h33 => ?_)
    refine v_get (v := pA (r28.1 a1 7)) 6 7 rfl inX6 (by decide) tw218 dX6_copy_95 h33 rfl ?_
    refine v_iload_n dX6_copy_98 rfl ?_
    refine v_if (fun h34 => ?_)
    refine v_aaload h34 dX6_copy_99 ?_
    refine v_if (fun h37 => ?_)
    refine v_cV (mi := mX6_copy) (c0 := 0) (c1 := 0) (As := [pA (r28.1 (r28.1 a1 7) s15.1)]) (st := []) (kX1_copy d (by omega) _ _ _) rfl h37 rfl okX1_copy (Or.inl tw661) tw662 tw663 rfl (Nat.le_of_ble_eq_true rfl) dX6_copy_100 (fun r35 => []) (fun r35 => r35) (fun _ => rfl) (fun _ => rfl) (fun r35 h36 => ?_) rfl
    refine v_aload_n dX6_copy_103 rfl ?_
    refine v_if (fun h38 => ?_)
    refine v_get (v := pA (r35.1 a0 8)) 6 8 rfl inX6 (by decide) tw219 dX6_copy_104 h38 rfl ?_
    refine v_iload_n dX6_copy_107 rfl ?_
    refine v_if (fun h39 => ?_)
    refine v_aaload h39 dX6_copy_108 ?_
    refine v_aload_n dX6_copy_109 rfl ?_
    refine v_if (fun h40 => ?_)
    refine v_get (v := pA (r35.1 a1 8)) 6 8 rfl inX6 (by decide) tw219 dX6_copy_110 h40 rfl ?_
    refine v_iload_n dX6_copy_113 rfl ?_
    refine v_if (fun h41 => ?_)
    refine v_aaload h41 dX6_copy_114 ?_
    refine v_if (fun h44 => ?_)
    refine v_cV (mi := mX6_copy) (c0 := 0) (c1 := 0) (As := [pA (r35.1 (r35.1 a1 8) s15.1)]) (st := []) (kX4_copy d (by omega) _ _ _) rfl h44 rfl okX4_copy (Or.inl tw666) tw667 tw668 rfl (Nat.le_of_ble_eq_true rfl) dX6_copy_115 (fun r42 => []) (fun r42 => r42) (fun _ => rfl) (fun _ => rfl) (fun r42 h43 => ?_) rfl
    refine v_iinc (ls' := [some (pA a0), some (pA a1), some (pI (w32 (s15.1 + 1)))]) dX6_copy_118 (by decide) rfl rfl ?_
    refine v_goto (tgt := 53) dX6_copy_121 (by decide) ?_
    exact hrec14 (w32 (s15.1 + 1), r42)
  · exact v_return dX6_copy_124 rfl rfl
theorem chX9_init_0 : (cX9_init.data.toList.drop 0).take 16 = [42, 183, 0, 3, 42, 16, 30, 188, 10, 181, 0, 9, 42, 16, 20, 188] := by decide +kernel
theorem chX9_init_1 : (cX9_init.data.toList.drop 16).take 16 = [10, 181, 0, 15, 42, 16, 120, 188, 10, 181, 0, 18, 42, 16, 120, 188] := by decide +kernel
theorem chX9_init_2 : (cX9_init.data.toList.drop 32).take 16 = [10, 181, 0, 21, 42, 7, 188, 10, 181, 0, 24, 42, 7, 188, 10, 181] := by decide +kernel
theorem chX9_init_3 : (cX9_init.data.toList.drop 48).take 16 = [0, 27, 42, 7, 188, 10, 181, 0, 30, 42, 7, 188, 10, 181, 0, 33] := by decide +kernel
theorem chX9_init_4 : (cX9_init.data.toList.drop 64).take 16 = [42, 7, 188, 10, 181, 0, 36, 42, 7, 188, 10, 181, 0, 39, 42, 3] := by decide +kernel
theorem chX9_init_5 : (cX9_init.data.toList.drop 80).take 16 = [181, 0, 42, 42, 3, 181, 0, 46, 42, 3, 181, 0, 49, 42, 3, 181] := by decide +kernel
theorem chX9_init_6 : (cX9_init.data.toList.drop 96).take 16 = [0, 52, 42, 3, 181, 0, 55, 42, 43, 181, 0, 58, 42, 44, 181, 0] := by decide +kernel
theorem chX9_init_7 : (cX9_init.data.toList.drop 112).take 16 = [62, 177] := by decide +kernel
theorem dX9_init_0 : decode cX9_init 0 = .ok (.aload_n 0, 1) := oq_42 (byt chX9_init_0 0 rfl)
theorem dX9_init_1 : decode cX9_init 1 = .ok (.invokespecial 3, 3) := oq_183 (byt chX9_init_0 1 rfl) (byt chX9_init_0 2 rfl) (byt chX9_init_0 3 rfl) rfl
theorem dX9_init_4 : decode cX9_init 4 = .ok (.aload_n 0, 1) := oq_42 (byt chX9_init_0 4 rfl)
theorem dX9_init_5 : decode cX9_init 5 = .ok (.bipush 30, 2) := oq_16 (byt chX9_init_0 5 rfl) (byt chX9_init_0 6 rfl) rfl
theorem dX9_init_7 : decode cX9_init 7 = .ok (.newarray .int, 2) := by decide +kernel
theorem dX9_init_9 : decode cX9_init 9 = .ok (.putfield 9, 3) := oq_181 (byt chX9_init_0 9 rfl) (byt chX9_init_0 10 rfl) (byt chX9_init_0 11 rfl) rfl
theorem dX9_init_12 : decode cX9_init 12 = .ok (.aload_n 0, 1) := oq_42 (byt chX9_init_0 12 rfl)
theorem dX9_init_13 : decode cX9_init 13 = .ok (.bipush 20, 2) := oq_16 (byt chX9_init_0 13 rfl) (byt chX9_init_0 14 rfl) rfl
theorem dX9_init_15 : decode cX9_init 15 = .ok (.newarray .int, 2) := by decide +kernel
theorem dX9_init_17 : decode cX9_init 17 = .ok (.putfield 15, 3) := oq_181 (byt chX9_init_1 1 rfl) (byt chX9_init_1 2 rfl) (byt chX9_init_1 3 rfl) rfl
theorem dX9_init_20 : decode cX9_init 20 = .ok (.aload_n 0, 1) := oq_42 (byt chX9_init_1 4 rfl)
theorem dX9_init_21 : decode cX9_init 21 = .ok (.bipush 120, 2) := oq_16 (byt chX9_init_1 5 rfl) (byt chX9_init_1 6 rfl) rfl
theorem dX9_init_23 : decode cX9_init 23 = .ok (.newarray .int, 2) := by decide +kernel
theorem dX9_init_25 : decode cX9_init 25 = .ok (.putfield 18, 3) := oq_181 (byt chX9_init_1 9 rfl) (byt chX9_init_1 10 rfl) (byt chX9_init_1 11 rfl) rfl
theorem dX9_init_28 : decode cX9_init 28 = .ok (.aload_n 0, 1) := oq_42 (byt chX9_init_1 12 rfl)
theorem dX9_init_29 : decode cX9_init 29 = .ok (.bipush 120, 2) := oq_16 (byt chX9_init_1 13 rfl) (byt chX9_init_1 14 rfl) rfl
theorem dX9_init_31 : decode cX9_init 31 = .ok (.newarray .int, 2) := by decide +kernel
theorem dX9_init_33 : decode cX9_init 33 = .ok (.putfield 21, 3) := oq_181 (byt chX9_init_2 1 rfl) (byt chX9_init_2 2 rfl) (byt chX9_init_2 3 rfl) rfl
theorem dX9_init_36 : decode cX9_init 36 = .ok (.aload_n 0, 1) := oq_42 (byt chX9_init_2 4 rfl)
theorem dX9_init_37 : decode cX9_init 37 = .ok (.iconst 4, 1) := oq_7 (byt chX9_init_2 5 rfl)
theorem dX9_init_38 : decode cX9_init 38 = .ok (.newarray .int, 2) := by decide +kernel
theorem dX9_init_40 : decode cX9_init 40 = .ok (.putfield 24, 3) := oq_181 (byt chX9_init_2 8 rfl) (byt chX9_init_2 9 rfl) (byt chX9_init_2 10 rfl) rfl
theorem dX9_init_43 : decode cX9_init 43 = .ok (.aload_n 0, 1) := oq_42 (byt chX9_init_2 11 rfl)
theorem dX9_init_44 : decode cX9_init 44 = .ok (.iconst 4, 1) := oq_7 (byt chX9_init_2 12 rfl)
theorem dX9_init_45 : decode cX9_init 45 = .ok (.newarray .int, 2) := by decide +kernel
theorem dX9_init_47 : decode cX9_init 47 = .ok (.putfield 27, 3) := oq_181 (byt chX9_init_2 15 rfl) (byt chX9_init_3 0 rfl) (byt chX9_init_3 1 rfl) rfl
theorem dX9_init_50 : decode cX9_init 50 = .ok (.aload_n 0, 1) := oq_42 (byt chX9_init_3 2 rfl)
theorem dX9_init_51 : decode cX9_init 51 = .ok (.iconst 4, 1) := oq_7 (byt chX9_init_3 3 rfl)
theorem dX9_init_52 : decode cX9_init 52 = .ok (.newarray .int, 2) := by decide +kernel
theorem dX9_init_54 : decode cX9_init 54 = .ok (.putfield 30, 3) := oq_181 (byt chX9_init_3 6 rfl) (byt chX9_init_3 7 rfl) (byt chX9_init_3 8 rfl) rfl
theorem dX9_init_57 : decode cX9_init 57 = .ok (.aload_n 0, 1) := oq_42 (byt chX9_init_3 9 rfl)
theorem dX9_init_58 : decode cX9_init 58 = .ok (.iconst 4, 1) := oq_7 (byt chX9_init_3 10 rfl)
theorem dX9_init_59 : decode cX9_init 59 = .ok (.newarray .int, 2) := by decide +kernel
theorem dX9_init_61 : decode cX9_init 61 = .ok (.putfield 33, 3) := oq_181 (byt chX9_init_3 13 rfl) (byt chX9_init_3 14 rfl) (byt chX9_init_3 15 rfl) rfl
theorem dX9_init_64 : decode cX9_init 64 = .ok (.aload_n 0, 1) := oq_42 (byt chX9_init_4 0 rfl)
theorem dX9_init_65 : decode cX9_init 65 = .ok (.iconst 4, 1) := oq_7 (byt chX9_init_4 1 rfl)
theorem dX9_init_66 : decode cX9_init 66 = .ok (.newarray .int, 2) := by decide +kernel
theorem dX9_init_68 : decode cX9_init 68 = .ok (.putfield 36, 3) := oq_181 (byt chX9_init_4 4 rfl) (byt chX9_init_4 5 rfl) (byt chX9_init_4 6 rfl) rfl
theorem dX9_init_71 : decode cX9_init 71 = .ok (.aload_n 0, 1) := oq_42 (byt chX9_init_4 7 rfl)
theorem dX9_init_72 : decode cX9_init 72 = .ok (.iconst 4, 1) := oq_7 (byt chX9_init_4 8 rfl)
theorem dX9_init_73 : decode cX9_init 73 = .ok (.newarray .int, 2) := by decide +kernel
theorem dX9_init_75 : decode cX9_init 75 = .ok (.putfield 39, 3) := oq_181 (byt chX9_init_4 11 rfl) (byt chX9_init_4 12 rfl) (byt chX9_init_4 13 rfl) rfl
theorem dX9_init_78 : decode cX9_init 78 = .ok (.aload_n 0, 1) := oq_42 (byt chX9_init_4 14 rfl)
theorem dX9_init_79 : decode cX9_init 79 = .ok (.iconst 0, 1) := oq_3 (byt chX9_init_4 15 rfl)
theorem dX9_init_80 : decode cX9_init 80 = .ok (.putfield 42, 3) := oq_181 (byt chX9_init_5 0 rfl) (byt chX9_init_5 1 rfl) (byt chX9_init_5 2 rfl) rfl
theorem dX9_init_83 : decode cX9_init 83 = .ok (.aload_n 0, 1) := oq_42 (byt chX9_init_5 3 rfl)
theorem dX9_init_84 : decode cX9_init 84 = .ok (.iconst 0, 1) := oq_3 (byt chX9_init_5 4 rfl)
theorem dX9_init_85 : decode cX9_init 85 = .ok (.putfield 46, 3) := oq_181 (byt chX9_init_5 5 rfl) (byt chX9_init_5 6 rfl) (byt chX9_init_5 7 rfl) rfl
theorem dX9_init_88 : decode cX9_init 88 = .ok (.aload_n 0, 1) := oq_42 (byt chX9_init_5 8 rfl)
theorem dX9_init_89 : decode cX9_init 89 = .ok (.iconst 0, 1) := oq_3 (byt chX9_init_5 9 rfl)
theorem dX9_init_90 : decode cX9_init 90 = .ok (.putfield 49, 3) := oq_181 (byt chX9_init_5 10 rfl) (byt chX9_init_5 11 rfl) (byt chX9_init_5 12 rfl) rfl
theorem dX9_init_93 : decode cX9_init 93 = .ok (.aload_n 0, 1) := oq_42 (byt chX9_init_5 13 rfl)
theorem dX9_init_94 : decode cX9_init 94 = .ok (.iconst 0, 1) := oq_3 (byt chX9_init_5 14 rfl)
theorem dX9_init_95 : decode cX9_init 95 = .ok (.putfield 52, 3) := oq_181 (byt chX9_init_5 15 rfl) (byt chX9_init_6 0 rfl) (byt chX9_init_6 1 rfl) rfl
theorem dX9_init_98 : decode cX9_init 98 = .ok (.aload_n 0, 1) := oq_42 (byt chX9_init_6 2 rfl)
theorem dX9_init_99 : decode cX9_init 99 = .ok (.iconst 0, 1) := oq_3 (byt chX9_init_6 3 rfl)
theorem dX9_init_100 : decode cX9_init 100 = .ok (.putfield 55, 3) := oq_181 (byt chX9_init_6 4 rfl) (byt chX9_init_6 5 rfl) (byt chX9_init_6 6 rfl) rfl
theorem dX9_init_103 : decode cX9_init 103 = .ok (.aload_n 0, 1) := oq_42 (byt chX9_init_6 7 rfl)
theorem dX9_init_104 : decode cX9_init 104 = .ok (.aload_n 1, 1) := oq_43 (byt chX9_init_6 8 rfl)
theorem dX9_init_105 : decode cX9_init 105 = .ok (.putfield 58, 3) := oq_181 (byt chX9_init_6 9 rfl) (byt chX9_init_6 10 rfl) (byt chX9_init_6 11 rfl) rfl
theorem dX9_init_108 : decode cX9_init 108 = .ok (.aload_n 0, 1) := oq_42 (byt chX9_init_6 12 rfl)
theorem dX9_init_109 : decode cX9_init 109 = .ok (.aload_n 2, 1) := oq_44 (byt chX9_init_6 13 rfl)
theorem dX9_init_110 : decode cX9_init 110 = .ok (.putfield 62, 3) := oq_181 (byt chX9_init_6 14 rfl) (byt chX9_init_6 15 rfl) (byt chX9_init_7 0 rfl) rfl
theorem dX9_init_113 : decode cX9_init 113 = .ok (.return_, 1) := oq_177 (byt chX9_init_7 1 rfl)
abbrev mX9_init : MI := (yX9_init, cX9_init, 3, none, noE)
theorem okX9_init : cok mX9_init 2 := ⟨tw313, tw8, by decide, by decide, by decide, by decide +kernel⟩
def fX9_init (M : Mem) (a0 a1 a2 : Int) : Option Mem :=
  if (0 : Int) ≤ a0 then bM (mnew M 12 30) fun M2 => if M2.2.1 a0 = 8 then if (-1 : Int) ≤ (M.2.2.2 : Int) then bM (mst M2 a0 2 (M.2.2.2 : Int)) fun M6 => bM (mnew M6 12 20) fun M8 => if M8.2.1 a0 = 8 then if (-1 : Int) ≤ (M6.2.2.2 : Int) then bM (mst M8 a0 3 (M6.2.2.2 : Int)) fun M12 => bM (mnew M12 12 120) fun M14 => if M14.2.1 a0 = 8 then if (-1 : Int) ≤ (M12.2.2.2 : Int) then bM (mst M14 a0 4 (M12.2.2.2 : Int)) fun M18 => bM (mnew M18 12 120) fun M20 => if M20.2.1 a0 = 8 then if (-1 : Int) ≤ (M18.2.2.2 : Int) then bM (mst M20 a0 5 (M18.2.2.2 : Int)) fun M24 => bM (mnew M24 12 4) fun M26 => if M26.2.1 a0 = 8 then if (-1 : Int) ≤ (M24.2.2.2 : Int) then bM (mst M26 a0 6 (M24.2.2.2 : Int)) fun M30 => bM (mnew M30 12 4) fun M32 => if M32.2.1 a0 = 8 then if (-1 : Int) ≤ (M30.2.2.2 : Int) then bM (mst M32 a0 7 (M30.2.2.2 : Int)) fun M36 => bM (mnew M36 12 4) fun M38 => if M38.2.1 a0 = 8 then if (-1 : Int) ≤ (M36.2.2.2 : Int) then bM (mst M38 a0 8 (M36.2.2.2 : Int)) fun M42 => bM (mnew M42 12 4) fun M44 => if M44.2.1 a0 = 8 then if (-1 : Int) ≤ (M42.2.2.2 : Int) then bM (mst M44 a0 9 (M42.2.2.2 : Int)) fun M48 => bM (mnew M48 12 4) fun M50 => if M50.2.1 a0 = 8 then if (-1 : Int) ≤ (M48.2.2.2 : Int) then bM (mst M50 a0 10 (M48.2.2.2 : Int)) fun M54 => bM (mnew M54 12 4) fun M56 => if M56.2.1 a0 = 8 then if (-1 : Int) ≤ (M54.2.2.2 : Int) then bM (mst M56 a0 11 (M54.2.2.2 : Int)) fun M60 => bM (mst M60 a0 12 0) fun M62 => bM (mst M62 a0 13 0) fun M64 => bM (mst M64 a0 14 0) fun M66 => bM (mst M66 a0 15 0) fun M68 => bM (mst M68 a0 16 0) fun M70 => if (-1 : Int) ≤ a1 then bM (mst M70 a0 0 a1) fun M73 => if (-1 : Int) ≤ a2 then bM (mst M73 a0 1 a2) fun M76 => some M76 else none else none else none else none else none else none else none else none else none else none else none else none else none else none else none else none else none else none else none else none else none else none else none
set_option maxRecDepth 100000 in
set_option maxHeartbeats 4000000 in
theorem kX9_init (d : Nat) (hd : 1 ≤ d) (M : Mem) (a0 a1 a2 : Int) : Ct mX9_init d 10 314 [pA a0, pA a1, pA a2] M dV (fX9_init M a0 a1 a2) := by
  obtain ⟨d, rfl⟩ : ∃ k, d = k + 1 := ⟨d - 1, by omega⟩
  refine Ct.of 0 (fun _ _ _ => trivial) (by decide +kernel) rfl ?_
  unfold fX9_init
  refine v_aload_n dX9_init_0 rfl ?_
  refine v_if (fun h1 => ?_)
  refine v_objInit (mi := mX9_init) h1 tw314 tw26 tw27 (Nat.le_of_ble_eq_true rfl) dX9_init_1 ?_
  refine v_aload_n dX9_init_4 rfl ?_
  refine v_bipush dX9_init_5 (by decide) ?_
  refine v_newarray (t := .int) (n := 30) 12 (by decide) (by decide) tw121 dX9_init_7 ?_
  refine v_bM (fun M2 e3 => ?_)
  refine v_if (fun h4 => ?_)
  refine v_if (fun h5 => ?_)
  refine v_put (x := (M.2.2.2 : Int)) 8 2 rfl inX9 (by decide) tw320 (Or.inr ⟨rfl, rfl, rfl⟩) rfl dX9_init_9 h4 rfl (fun _ => h5) ?_
  refine v_bM (fun M6 e7 => ?_)
  refine v_aload_n dX9_init_12 rfl ?_
  refine v_bipush dX9_init_13 (by decide) ?_
  refine v_newarray (t := .int) (n := 20) 12 (by decide) (by decide) tw121 dX9_init_15 ?_
  refine v_bM (fun M8 e9 => ?_)
  refine v_if (fun h10 => ?_)
  refine v_if (fun h11 => ?_)
  refine v_put (x := (M6.2.2.2 : Int)) 8 3 rfl inX9 (by decide) tw323 (Or.inr ⟨rfl, rfl, rfl⟩) rfl dX9_init_17 h10 rfl (fun _ => h11) ?_
  refine v_bM (fun M12 e13 => ?_)
  refine v_aload_n dX9_init_20 rfl ?_
  refine v_bipush dX9_init_21 (by decide) ?_
  refine v_newarray (t := .int) (n := 120) 12 (by decide) (by decide) tw121 dX9_init_23 ?_
  refine v_bM (fun M14 e15 => ?_)
  refine v_if (fun h16 => ?_)
  refine v_if (fun h17 => ?_)
  refine v_put (x := (M12.2.2.2 : Int)) 8 4 rfl inX9 (by decide) tw326 (Or.inr ⟨rfl, rfl, rfl⟩) rfl dX9_init_25 h16 rfl (fun _ => h17) ?_
  refine v_bM (fun M18 e19 => ?_)
  refine v_aload_n dX9_init_28 rfl ?_
  refine v_bipush dX9_init_29 (by decide) ?_
  refine v_newarray (t := .int) (n := 120) 12 (by decide) (by decide) tw121 dX9_init_31 ?_
  refine v_bM (fun M20 e21 => ?_)
  refine v_if (fun h22 => ?_)
  refine v_if (fun h23 => ?_)
  refine v_put (x := (M18.2.2.2 : Int)) 8 5 rfl inX9 (by decide) tw329 (Or.inr ⟨rfl, rfl, rfl⟩) rfl dX9_init_33 h22 rfl (fun _ => h23) ?_
  refine v_bM (fun M24 e25 => ?_)
  refine v_aload_n dX9_init_36 rfl ?_
  refine v_iconst dX9_init_37 (by decide) ?_
  refine v_newarray (t := .int) (n := 4) 12 (by decide) (by decide) tw121 dX9_init_38 ?_
  refine v_bM (fun M26 e27 => ?_)
  refine v_if (fun h28 => ?_)
  refine v_if (fun h29 => ?_)
  refine v_put (x := (M24.2.2.2 : Int)) 8 6 rfl inX9 (by decide) tw331 (Or.inr ⟨rfl, rfl, rfl⟩) rfl dX9_init_40 h28 rfl (fun _ => h29) ?_
  refine v_bM (fun M30 e31 => ?_)
  refine v_aload_n dX9_init_43 rfl ?_
  refine v_iconst dX9_init_44 (by decide) ?_
  refine v_newarray (t := .int) (n := 4) 12 (by decide) (by decide) tw121 dX9_init_45 ?_
  refine v_bM (fun M32 e33 => ?_)
  refine v_if (fun h34 => ?_)
  refine v_if (fun h35 => ?_)
  refine v_put (x := (M30.2.2.2 : Int)) 8 7 rfl inX9 (by decide) tw333 (Or.inr ⟨rfl, rfl, rfl⟩) rfl dX9_init_47 h34 rfl (fun _ => h35) ?_
  refine v_bM (fun M36 e37 => ?_)
  refine v_aload_n dX9_init_50 rfl ?_
  refine v_iconst dX9_init_51 (by decide) ?_
  refine v_newarray (t := .int) (n := 4) 12 (by decide) (by decide) tw121 dX9_init_52 ?_
  refine v_bM (fun M38 e39 => ?_)
  refine v_if (fun h40 => ?_)
  refine v_if (fun h41 => ?_)
  refine v_put (x := (M36.2.2.2 : Int)) 8 8 rfl inX9 (by decide) tw335 (Or.inr ⟨rfl, rfl, rfl⟩) rfl dX9_init_54 h40 rfl (fun _ => h41) ?_
  refine v_bM (fun M42 e43 => ?_)
  refine v_aload_n dX9_init_57 rfl ?_
  refine v_iconst dX9_init_58 (by decide) ?_
  refine v_newarray (t := .int) (n := 4) 12 (by decide) (by decide) tw121 dX9_init_59 ?_
  refine v_bM (fun M44 e45 => ?_)
  refine v_if (fun h46 => ?_)
  refine v_if (fun h47 => ?_)
  refine v_put (x := (M42.2.2.2 : Int)) 8 9 rfl inX9 (by decide) tw337 (Or.inr ⟨rfl, rfl, rfl⟩) rfl dX9_init_61 h46 rfl (fun _ => h47) ?_
  refine v_bM (fun M48 e49 => ?_)
  refine v_aload_n dX9_init_64 rfl ?_
  refine v_iconst dX9_init_65 (by decide) ?_
  refine v_newarray (t := .int) (n := 4) 12 (by decide) (by decide) tw121 dX9_init_66 ?_
  refine v_bM (fun M50 e51 => ?_)
  refine v_if (fun h52 => ?_)
  refine v_if (fun h53 => ?_)
  refine v_put (x := (M48.2.2.2 : Int)) 8 10 rfl inX9 (by decide) tw338 (Or.inr ⟨rfl, rfl, rfl⟩) rfl dX9_init_68 h52 rfl (fun _ => h53) ?_
  refine v_bM (fun M54 e55 => ?_)
  refine v_aload_n dX9_init_71 rfl ?_
  refine v_iconst dX9_init_72 (by decide) ?_
  refine v_newarray (t := .int) (n := 4) 12 (by decide) (by decide) tw121 dX9_init_73 ?_
  refine v_bM (fun M56 e57 => ?_)
  refine v_if (fun h58 => ?_)
  refine v_if (fun h59 => ?_)
  refine v_put (x := (M54.2.2.2 : Int)) 8 11 rfl inX9 (by decide) tw339 (Or.inr ⟨rfl, rfl, rfl⟩) rfl dX9_init_75 h58 rfl (fun _ => h59) ?_
  refine v_bM (fun M60 e61 => ?_)
  refine v_aload_n dX9_init_78 rfl ?_
  refine v_iconst dX9_init_79 (by decide) ?_
  refine v_put (x := 0) 8 12 rfl inX9 (by decide) tw341 (Or.inl rfl) rfl dX9_init_80 (by rw [e61]; exact h58) rfl id ?_
  refine v_bM (fun M62 e63 => ?_)
  refine v_aload_n dX9_init_83 rfl ?_
  refine v_iconst dX9_init_84 (by decide) ?_
  refine v_put (x := 0) 8 13 rfl inX9 (by decide) tw342 (Or.inl rfl) rfl dX9_init_85 (by rw [e63, e61]; exact h58) rfl id ?_
  refine v_bM (fun M64 e65 => ?_)
  refine v_aload_n dX9_init_88 rfl ?_
  refine v_iconst dX9_init_89 (by decide) ?_
  refine v_put (x := 0) 8 14 rfl inX9 (by decide) tw344 (Or.inl rfl) rfl dX9_init_90 (by rw [e65, e63, e61]; exact h58) rfl id ?_
  refine v_bM (fun M66 e67 => ?_)
  refine v_aload_n dX9_init_93 rfl ?_
  refine v_iconst dX9_init_94 (by decide) ?_
  refine v_put (x := 0) 8 15 rfl inX9 (by decide) tw346 (Or.inl rfl) rfl dX9_init_95 (by rw [e67, e65, e63, e61]; exact h58) rfl id ?_
  refine v_bM (fun M68 e69 => ?_)
  refine v_aload_n dX9_init_98 rfl ?_
  refine v_iconst dX9_init_99 (by decide) ?_
  refine v_put (x := 0) 8 16 rfl inX9 (by decide) tw348 (Or.inl rfl) rfl dX9_init_100 (by rw [e69, e67, e65, e63, e61]; exact h58) rfl id ?_
  refine v_bM (fun M70 e71 => ?_)
  refine v_aload_n dX9_init_103 rfl ?_
  refine v_aload_n dX9_init_104 rfl ?_
  refine v_if (fun h72 => ?_)
  refine v_put (x := a1) 8 0 rfl inX9 (by decide) tw315 (Or.inl rfl) rfl dX9_init_105 (by rw [e71, e69, e67, e65, e63, e61]; exact h58) rfl (fun _ => h72) ?_
  refine v_bM (fun M73 e74 => ?_)
  refine v_aload_n dX9_init_108 rfl ?_
  refine v_aload_n dX9_init_109 rfl ?_
  refine v_if (fun h75 => ?_)
  refine v_put (x := a2) 8 1 rfl inX9 (by decide) tw318 (Or.inl rfl) rfl dX9_init_110 (by rw [e74, e71, e69, e67, e65, e63, e61]; exact h58) rfl (fun _ => h75) ?_
  refine v_bM (fun M76 e77 => ?_)
  exact v_return dX9_init_113 rfl rfl
theorem chX9_begin_0 : (cX9_begin.data.toList.drop 0).take 16 = [42, 43, 181, 0, 58, 42, 44, 181, 0, 62, 43, 180, 0, 66, 42, 180] := by decide +kernel
theorem chX9_begin_1 : (cX9_begin.data.toList.drop 16).take 16 = [0, 9, 184, 0, 69, 42, 180, 0, 15, 3, 184, 0, 73, 42, 180, 0] := by decide +kernel
theorem chX9_begin_2 : (cX9_begin.data.toList.drop 32).take 16 = [18, 3, 184, 0, 73, 42, 180, 0, 21, 3, 184, 0, 73, 42, 180, 0] := by decide +kernel
theorem chX9_begin_3 : (cX9_begin.data.toList.drop 48).take 16 = [24, 3, 184, 0, 73, 42, 180, 0, 27, 3, 184, 0, 73, 42, 180, 0] := by decide +kernel
theorem chX9_begin_4 : (cX9_begin.data.toList.drop 64).take 16 = [30, 3, 184, 0, 73, 42, 180, 0, 33, 3, 184, 0, 73, 42, 180, 0] := by decide +kernel
theorem chX9_begin_5 : (cX9_begin.data.toList.drop 80).take 16 = [36, 3, 184, 0, 73, 42, 180, 0, 39, 2, 184, 0, 73, 42, 3, 181] := by decide +kernel
theorem chX9_begin_6 : (cX9_begin.data.toList.drop 96).take 16 = [0, 42, 42, 3, 181, 0, 46, 42, 3, 181, 0, 49, 42, 3, 181, 0] := by decide +kernel
theorem chX9_begin_7 : (cX9_begin.data.toList.drop 112).take 16 = [52, 177] := by decide +kernel
theorem dX9_begin_0 : decode cX9_begin 0 = .ok (.aload_n 0, 1) := oq_42 (byt chX9_begin_0 0 rfl)
theorem dX9_begin_1 : decode cX9_begin 1 = .ok (.aload_n 1, 1) := oq_43 (byt chX9_begin_0 1 rfl)
theorem dX9_begin_2 : decode cX9_begin 2 = .ok (.putfield 58, 3) := oq_181 (byt chX9_begin_0 2 rfl) (byt chX9_begin_0 3 rfl) (byt chX9_begin_0 4 rfl) rfl
theorem dX9_begin_5 : decode cX9_begin 5 = .ok (.aload_n 0, 1) := oq_42 (byt chX9_begin_0 5 rfl)
theorem dX9_begin_6 : decode cX9_begin 6 = .ok (.aload_n 2, 1) := oq_44 (byt chX9_begin_0 6 rfl)
theorem dX9_begin_7 : decode cX9_begin 7 = .ok (.putfield 62, 3) := oq_181 (byt chX9_begin_0 7 rfl) (byt chX9_begin_0 8 rfl) (byt chX9_begin_0 9 rfl) rfl
theorem dX9_begin_10 : decode cX9_begin 10 = .ok (.aload_n 1, 1) := oq_43 (byt chX9_begin_0 10 rfl)
theorem dX9_begin_11 : decode cX9_begin 11 = .ok (.getfield 66, 3) := oq_180 (byt chX9_begin_0 11 rfl) (byt chX9_begin_0 12 rfl) (byt chX9_begin_0 13 rfl) rfl
theorem dX9_begin_14 : decode cX9_begin 14 = .ok (.aload_n 0, 1) := oq_42 (byt chX9_begin_0 14 rfl)
theorem dX9_begin_15 : decode cX9_begin 15 = .ok (.getfield 9, 3) := oq_180 (byt chX9_begin_0 15 rfl) (byt chX9_begin_1 0 rfl) (byt chX9_begin_1 1 rfl) rfl
theorem dX9_begin_18 : decode cX9_begin 18 = .ok (.invokestatic 69, 3) := oq_184 (byt chX9_begin_1 2 rfl) (byt chX9_begin_1 3 rfl) (byt chX9_begin_1 4 rfl) rfl
theorem dX9_begin_21 : decode cX9_begin 21 = .ok (.aload_n 0, 1) := oq_42 (byt chX9_begin_1 5 rfl)
theorem dX9_begin_22 : decode cX9_begin 22 = .ok (.getfield 15, 3) := oq_180 (byt chX9_begin_1 6 rfl) (byt chX9_begin_1 7 rfl) (byt chX9_begin_1 8 rfl) rfl
theorem dX9_begin_25 : decode cX9_begin 25 = .ok (.iconst 0, 1) := oq_3 (byt chX9_begin_1 9 rfl)
theorem dX9_begin_26 : decode cX9_begin 26 = .ok (.invokestatic 73, 3) := oq_184 (byt chX9_begin_1 10 rfl) (byt chX9_begin_1 11 rfl) (byt chX9_begin_1 12 rfl) rfl
theorem dX9_begin_29 : decode cX9_begin 29 = .ok (.aload_n 0, 1) := oq_42 (byt chX9_begin_1 13 rfl)
theorem dX9_begin_30 : decode cX9_begin 30 = .ok (.getfield 18, 3) := oq_180 (byt chX9_begin_1 14 rfl) (byt chX9_begin_1 15 rfl) (byt chX9_begin_2 0 rfl) rfl
theorem dX9_begin_33 : decode cX9_begin 33 = .ok (.iconst 0, 1) := oq_3 (byt chX9_begin_2 1 rfl)
theorem dX9_begin_34 : decode cX9_begin 34 = .ok (.invokestatic 73, 3) := oq_184 (byt chX9_begin_2 2 rfl) (byt chX9_begin_2 3 rfl) (byt chX9_begin_2 4 rfl) rfl
theorem dX9_begin_37 : decode cX9_begin 37 = .ok (.aload_n 0, 1) := oq_42 (byt chX9_begin_2 5 rfl)
theorem dX9_begin_38 : decode cX9_begin 38 = .ok (.getfield 21, 3) := oq_180 (byt chX9_begin_2 6 rfl) (byt chX9_begin_2 7 rfl) (byt chX9_begin_2 8 rfl) rfl
theorem dX9_begin_41 : decode cX9_begin 41 = .ok (.iconst 0, 1) := oq_3 (byt chX9_begin_2 9 rfl)
theorem dX9_begin_42 : decode cX9_begin 42 = .ok (.invokestatic 73, 3) := oq_184 (byt chX9_begin_2 10 rfl) (byt chX9_begin_2 11 rfl) (byt chX9_begin_2 12 rfl) rfl
theorem dX9_begin_45 : decode cX9_begin 45 = .ok (.aload_n 0, 1) := oq_42 (byt chX9_begin_2 13 rfl)
theorem dX9_begin_46 : decode cX9_begin 46 = .ok (.getfield 24, 3) := oq_180 (byt chX9_begin_2 14 rfl) (byt chX9_begin_2 15 rfl) (byt chX9_begin_3 0 rfl) rfl
theorem dX9_begin_49 : decode cX9_begin 49 = .ok (.iconst 0, 1) := oq_3 (byt chX9_begin_3 1 rfl)
theorem dX9_begin_50 : decode cX9_begin 50 = .ok (.invokestatic 73, 3) := oq_184 (byt chX9_begin_3 2 rfl) (byt chX9_begin_3 3 rfl) (byt chX9_begin_3 4 rfl) rfl
theorem dX9_begin_53 : decode cX9_begin 53 = .ok (.aload_n 0, 1) := oq_42 (byt chX9_begin_3 5 rfl)
theorem dX9_begin_54 : decode cX9_begin 54 = .ok (.getfield 27, 3) := oq_180 (byt chX9_begin_3 6 rfl) (byt chX9_begin_3 7 rfl) (byt chX9_begin_3 8 rfl) rfl
theorem dX9_begin_57 : decode cX9_begin 57 = .ok (.iconst 0, 1) := oq_3 (byt chX9_begin_3 9 rfl)
theorem dX9_begin_58 : decode cX9_begin 58 = .ok (.invokestatic 73, 3) := oq_184 (byt chX9_begin_3 10 rfl) (byt chX9_begin_3 11 rfl) (byt chX9_begin_3 12 rfl) rfl
theorem dX9_begin_61 : decode cX9_begin 61 = .ok (.aload_n 0, 1) := oq_42 (byt chX9_begin_3 13 rfl)
theorem dX9_begin_62 : decode cX9_begin 62 = .ok (.getfield 30, 3) := oq_180 (byt chX9_begin_3 14 rfl) (byt chX9_begin_3 15 rfl) (byt chX9_begin_4 0 rfl) rfl
theorem dX9_begin_65 : decode cX9_begin 65 = .ok (.iconst 0, 1) := oq_3 (byt chX9_begin_4 1 rfl)
theorem dX9_begin_66 : decode cX9_begin 66 = .ok (.invokestatic 73, 3) := oq_184 (byt chX9_begin_4 2 rfl) (byt chX9_begin_4 3 rfl) (byt chX9_begin_4 4 rfl) rfl
theorem dX9_begin_69 : decode cX9_begin 69 = .ok (.aload_n 0, 1) := oq_42 (byt chX9_begin_4 5 rfl)
theorem dX9_begin_70 : decode cX9_begin 70 = .ok (.getfield 33, 3) := oq_180 (byt chX9_begin_4 6 rfl) (byt chX9_begin_4 7 rfl) (byt chX9_begin_4 8 rfl) rfl
theorem dX9_begin_73 : decode cX9_begin 73 = .ok (.iconst 0, 1) := oq_3 (byt chX9_begin_4 9 rfl)
theorem dX9_begin_74 : decode cX9_begin 74 = .ok (.invokestatic 73, 3) := oq_184 (byt chX9_begin_4 10 rfl) (byt chX9_begin_4 11 rfl) (byt chX9_begin_4 12 rfl) rfl
theorem dX9_begin_77 : decode cX9_begin 77 = .ok (.aload_n 0, 1) := oq_42 (byt chX9_begin_4 13 rfl)
theorem dX9_begin_78 : decode cX9_begin 78 = .ok (.getfield 36, 3) := oq_180 (byt chX9_begin_4 14 rfl) (byt chX9_begin_4 15 rfl) (byt chX9_begin_5 0 rfl) rfl
theorem dX9_begin_81 : decode cX9_begin 81 = .ok (.iconst 0, 1) := oq_3 (byt chX9_begin_5 1 rfl)
theorem dX9_begin_82 : decode cX9_begin 82 = .ok (.invokestatic 73, 3) := oq_184 (byt chX9_begin_5 2 rfl) (byt chX9_begin_5 3 rfl) (byt chX9_begin_5 4 rfl) rfl
theorem dX9_begin_85 : decode cX9_begin 85 = .ok (.aload_n 0, 1) := oq_42 (byt chX9_begin_5 5 rfl)
theorem dX9_begin_86 : decode cX9_begin 86 = .ok (.getfield 39, 3) := oq_180 (byt chX9_begin_5 6 rfl) (byt chX9_begin_5 7 rfl) (byt chX9_begin_5 8 rfl) rfl
theorem dX9_begin_89 : decode cX9_begin 89 = .ok (.iconst (-1), 1) := oq_2 (byt chX9_begin_5 9 rfl)
theorem dX9_begin_90 : decode cX9_begin 90 = .ok (.invokestatic 73, 3) := oq_184 (byt chX9_begin_5 10 rfl) (byt chX9_begin_5 11 rfl) (byt chX9_begin_5 12 rfl) rfl
theorem dX9_begin_93 : decode cX9_begin 93 = .ok (.aload_n 0, 1) := oq_42 (byt chX9_begin_5 13 rfl)
theorem dX9_begin_94 : decode cX9_begin 94 = .ok (.iconst 0, 1) := oq_3 (byt chX9_begin_5 14 rfl)
theorem dX9_begin_95 : decode cX9_begin 95 = .ok (.putfield 42, 3) := oq_181 (byt chX9_begin_5 15 rfl) (byt chX9_begin_6 0 rfl) (byt chX9_begin_6 1 rfl) rfl
theorem dX9_begin_98 : decode cX9_begin 98 = .ok (.aload_n 0, 1) := oq_42 (byt chX9_begin_6 2 rfl)
theorem dX9_begin_99 : decode cX9_begin 99 = .ok (.iconst 0, 1) := oq_3 (byt chX9_begin_6 3 rfl)
theorem dX9_begin_100 : decode cX9_begin 100 = .ok (.putfield 46, 3) := oq_181 (byt chX9_begin_6 4 rfl) (byt chX9_begin_6 5 rfl) (byt chX9_begin_6 6 rfl) rfl
theorem dX9_begin_103 : decode cX9_begin 103 = .ok (.aload_n 0, 1) := oq_42 (byt chX9_begin_6 7 rfl)
theorem dX9_begin_104 : decode cX9_begin 104 = .ok (.iconst 0, 1) := oq_3 (byt chX9_begin_6 8 rfl)
theorem dX9_begin_105 : decode cX9_begin 105 = .ok (.putfield 49, 3) := oq_181 (byt chX9_begin_6 9 rfl) (byt chX9_begin_6 10 rfl) (byt chX9_begin_6 11 rfl) rfl
theorem dX9_begin_108 : decode cX9_begin 108 = .ok (.aload_n 0, 1) := oq_42 (byt chX9_begin_6 12 rfl)
theorem dX9_begin_109 : decode cX9_begin 109 = .ok (.iconst 0, 1) := oq_3 (byt chX9_begin_6 13 rfl)
theorem dX9_begin_110 : decode cX9_begin 110 = .ok (.putfield 52, 3) := oq_181 (byt chX9_begin_6 14 rfl) (byt chX9_begin_6 15 rfl) (byt chX9_begin_7 0 rfl) rfl
theorem dX9_begin_113 : decode cX9_begin 113 = .ok (.return_, 1) := oq_177 (byt chX9_begin_7 1 rfl)
abbrev mX9_begin : MI := (yX9_begin, cX9_begin, 3, none, noE)
theorem okX9_begin : cok mX9_begin 2 := ⟨tw741, tw8, by decide, by decide, by decide, by decide +kernel⟩
def fX9_begin (M : Mem) (a0 a1 a2 : Int) : Option Mem :=
  if M.2.1 a0 = 8 then if (-1 : Int) ≤ a1 then bM (mst M a0 0 a1) fun M3 => if (-1 : Int) ≤ a2 then bM (mst M3 a0 1 a2) fun M6 => if M6.2.1 a1 = 7 then (fX10_copyRow M6 (M6.1 a1 2) (M6.1 a0 2)).bind fun r9 => if r9.2.1 a0 = 8 then (fX10_fillRow r9 (r9.1 a0 3) 0).bind fun r12 => if r12.2.1 a0 = 8 then (fX10_fillRow r12 (r12.1 a0 4) 0).bind fun r15 => if r15.2.1 a0 = 8 then (fX10_fillRow r15 (r15.1 a0 5) 0).bind fun r18 => if r18.2.1 a0 = 8 then (fX10_fillRow r18 (r18.1 a0 6) 0).bind fun r21 => if r21.2.1 a0 = 8 then (fX10_fillRow r21 (r21.1 a0 7) 0).bind fun r24 => if r24.2.1 a0 = 8 then (fX10_fillRow r24 (r24.1 a0 8) 0).bind fun r27 => if r27.2.1 a0 = 8 then (fX10_fillRow r27 (r27.1 a0 9) 0).bind fun r30 => if r30.2.1 a0 = 8 then (fX10_fillRow r30 (r30.1 a0 10) 0).bind fun r33 => if r33.2.1 a0 = 8 then (fX10_fillRow r33 (r33.1 a0 11) (-1)).bind fun r36 => if r36.2.1 a0 = 8 then bM (mst r36 a0 12 0) fun M39 => bM (mst M39 a0 13 0) fun M41 => bM (mst M41 a0 14 0) fun M43 => bM (mst M43 a0 15 0) fun M45 => some M45 else none else none else none else none else none else none else none else none else none else none else none else none else none else none
set_option maxRecDepth 100000 in
set_option maxHeartbeats 4000000 in
theorem kX9_begin (d : Nat) (hd : 2 ≤ d) (M : Mem) (a0 a1 a2 : Int) : Ct mX9_begin d 0 0 [pA a0, pA a1, pA a2] M dV (fX9_begin M a0 a1 a2) := by
  obtain ⟨d, rfl⟩ : ∃ k, d = k + 1 := ⟨d - 1, by omega⟩
  refine Ct.of 0 (fun _ _ _ => trivial) (by decide +kernel) rfl ?_
  unfold fX9_begin
  refine v_aload_n dX9_begin_0 rfl ?_
  refine v_aload_n dX9_begin_1 rfl ?_
  refine v_if (fun h1 => ?_)
  refine v_if (fun h2 => ?_)
  refine v_put (x := a1) 8 0 rfl inX9 (by decide) tw315 (Or.inl rfl) rfl dX9_begin_2 h1 rfl (fun _ => h2) ?_
  refine v_bM (fun M3 e4 => ?_)
  refine v_aload_n dX9_begin_5 rfl ?_
  refine v_aload_n dX9_begin_6 rfl ?_
  refine v_if (fun h5 => ?_)
  refine v_put (x := a2) 8 1 rfl inX9 (by decide) tw318 (Or.inl rfl) rfl dX9_begin_7 (by rw [e4]; exact h1) rfl (fun _ => h5) ?_
  refine v_bM (fun M6 e7 => ?_)
  refine v_aload_n dX9_begin_10 rfl ?_
  refine v_if (fun h8 => ?_)
  refine v_get (v := pA (M6.1 a1 2)) 7 2 rfl inX7 (by decide) tw67 dX9_begin_11 h8 rfl ?_
  refine v_aload_n dX9_begin_14 rfl ?_
  refine v_get (v := pA (M6.1 a0 2)) 8 2 rfl inX9 (by decide) tw320 dX9_begin_15 (by rw [e7, e4]; exact h1) rfl ?_
  refine v_cS (mi := mX9_begin) (c0 := 0) (c1 := 0) (As := [pA (M6.1 a1 2), pA (M6.1 a0 2)]) (st := []) (kX10_copyRow d (by omega) _ _ _) okX10_copyRow (Or.inr nw13) tw651 rfl (Nat.le_of_ble_eq_true rfl) dX9_begin_18 (fun r9 => []) (fun r9 => r9) (fun _ => rfl) (fun _ => rfl) (fun r9 h10 => ?_) rfl
  refine v_aload_n dX9_begin_21 rfl ?_
  refine v_if (fun h11 => ?_)
  refine v_get (v := pA (r9.1 a0 3)) 8 3 rfl inX9 (by decide) tw323 dX9_begin_22 h11 rfl ?_
  refine v_iconst dX9_begin_25 (by decide) ?_
  refine v_cS (mi := mX9_begin) (c0 := 0) (c1 := 0) (As := [pA (r9.1 a0 3), pI 0]) (st := []) (kX10_fillRow d (by omega) _ _ _) okX10_fillRow (Or.inr nw14) tw52 rfl (Nat.le_of_ble_eq_true rfl) dX9_begin_26 (fun r12 => []) (fun r12 => r12) (fun _ => rfl) (fun _ => rfl) (fun r12 h13 => ?_) rfl
  refine v_aload_n dX9_begin_29 rfl ?_
  refine v_if (fun h14 => ?_)
  refine v_get (v := pA (r12.1 a0 4)) 8 4 rfl inX9 (by decide) tw326 dX9_begin_30 h14 rfl ?_
  refine v_iconst dX9_begin_33 (by decide) ?_
  refine v_cS (mi := mX9_begin) (c0 := 0) (c1 := 0) (As := [pA (r12.1 a0 4), pI 0]) (st := []) (kX10_fillRow d (by omega) _ _ _) okX10_fillRow (Or.inr nw14) tw52 rfl (Nat.le_of_ble_eq_true rfl) dX9_begin_34 (fun r15 => []) (fun r15 => r15) (fun _ => rfl) (fun _ => rfl) (fun r15 h16 => ?_) rfl
  refine v_aload_n dX9_begin_37 rfl ?_
  refine v_if (fun h17 => ?_)
  refine v_get (v := pA (r15.1 a0 5)) 8 5 rfl inX9 (by decide) tw329 dX9_begin_38 h17 rfl ?_
  refine v_iconst dX9_begin_41 (by decide) ?_
  refine v_cS (mi := mX9_begin) (c0 := 0) (c1 := 0) (As := [pA (r15.1 a0 5), pI 0]) (st := []) (kX10_fillRow d (by omega) _ _ _) okX10_fillRow (Or.inr nw14) tw52 rfl (Nat.le_of_ble_eq_true rfl) dX9_begin_42 (fun r18 => []) (fun r18 => r18) (fun _ => rfl) (fun _ => rfl) (fun r18 h19 => ?_) rfl
  refine v_aload_n dX9_begin_45 rfl ?_
  refine v_if (fun h20 => ?_)
  refine v_get (v := pA (r18.1 a0 6)) 8 6 rfl inX9 (by decide) tw331 dX9_begin_46 h20 rfl ?_
  refine v_iconst dX9_begin_49 (by decide) ?_
  refine v_cS (mi := mX9_begin) (c0 := 0) (c1 := 0) (As := [pA (r18.1 a0 6), pI 0]) (st := []) (kX10_fillRow d (by omega) _ _ _) okX10_fillRow (Or.inr nw14) tw52 rfl (Nat.le_of_ble_eq_true rfl) dX9_begin_50 (fun r21 => []) (fun r21 => r21) (fun _ => rfl) (fun _ => rfl) (fun r21 h22 => ?_) rfl
  refine v_aload_n dX9_begin_53 rfl ?_
  refine v_if (fun h23 => ?_)
  refine v_get (v := pA (r21.1 a0 7)) 8 7 rfl inX9 (by decide) tw333 dX9_begin_54 h23 rfl ?_
  refine v_iconst dX9_begin_57 (by decide) ?_
  refine v_cS (mi := mX9_begin) (c0 := 0) (c1 := 0) (As := [pA (r21.1 a0 7), pI 0]) (st := []) (kX10_fillRow d (by omega) _ _ _) okX10_fillRow (Or.inr nw14) tw52 rfl (Nat.le_of_ble_eq_true rfl) dX9_begin_58 (fun r24 => []) (fun r24 => r24) (fun _ => rfl) (fun _ => rfl) (fun r24 h25 => ?_) rfl
  refine v_aload_n dX9_begin_61 rfl ?_
  refine v_if (fun h26 => ?_)
  refine v_get (v := pA (r24.1 a0 8)) 8 8 rfl inX9 (by decide) tw335 dX9_begin_62 h26 rfl ?_
  refine v_iconst dX9_begin_65 (by decide) ?_
  refine v_cS (mi := mX9_begin) (c0 := 0) (c1 := 0) (As := [pA (r24.1 a0 8), pI 0]) (st := []) (kX10_fillRow d (by omega) _ _ _) okX10_fillRow (Or.inr nw14) tw52 rfl (Nat.le_of_ble_eq_true rfl) dX9_begin_66 (fun r27 => []) (fun r27 => r27) (fun _ => rfl) (fun _ => rfl) (fun r27 h28 => ?_) rfl
  refine v_aload_n dX9_begin_69 rfl ?_
  refine v_if (fun h29 => ?_)
  refine v_get (v := pA (r27.1 a0 9)) 8 9 rfl inX9 (by decide) tw337 dX9_begin_70 h29 rfl ?_
  refine v_iconst dX9_begin_73 (by decide) ?_
  refine v_cS (mi := mX9_begin) (c0 := 0) (c1 := 0) (As := [pA (r27.1 a0 9), pI 0]) (st := []) (kX10_fillRow d (by omega) _ _ _) okX10_fillRow (Or.inr nw14) tw52 rfl (Nat.le_of_ble_eq_true rfl) dX9_begin_74 (fun r30 => []) (fun r30 => r30) (fun _ => rfl) (fun _ => rfl) (fun r30 h31 => ?_) rfl
  refine v_aload_n dX9_begin_77 rfl ?_
  refine v_if (fun h32 => ?_)
  refine v_get (v := pA (r30.1 a0 10)) 8 10 rfl inX9 (by decide) tw338 dX9_begin_78 h32 rfl ?_
  refine v_iconst dX9_begin_81 (by decide) ?_
  refine v_cS (mi := mX9_begin) (c0 := 0) (c1 := 0) (As := [pA (r30.1 a0 10), pI 0]) (st := []) (kX10_fillRow d (by omega) _ _ _) okX10_fillRow (Or.inr nw14) tw52 rfl (Nat.le_of_ble_eq_true rfl) dX9_begin_82 (fun r33 => []) (fun r33 => r33) (fun _ => rfl) (fun _ => rfl) (fun r33 h34 => ?_) rfl
  refine v_aload_n dX9_begin_85 rfl ?_
  refine v_if (fun h35 => ?_)
  refine v_get (v := pA (r33.1 a0 11)) 8 11 rfl inX9 (by decide) tw339 dX9_begin_86 h35 rfl ?_
  refine v_iconst dX9_begin_89 (by decide) ?_
  refine v_cS (mi := mX9_begin) (c0 := 0) (c1 := 0) (As := [pA (r33.1 a0 11), pI (-1)]) (st := []) (kX10_fillRow d (by omega) _ _ _) okX10_fillRow (Or.inr nw14) tw52 rfl (Nat.le_of_ble_eq_true rfl) dX9_begin_90 (fun r36 => []) (fun r36 => r36) (fun _ => rfl) (fun _ => rfl) (fun r36 h37 => ?_) rfl
  refine v_aload_n dX9_begin_93 rfl ?_
  refine v_iconst dX9_begin_94 (by decide) ?_
  refine v_if (fun h38 => ?_)
  refine v_put (x := 0) 8 12 rfl inX9 (by decide) tw341 (Or.inl rfl) rfl dX9_begin_95 h38 rfl id ?_
  refine v_bM (fun M39 e40 => ?_)
  refine v_aload_n dX9_begin_98 rfl ?_
  refine v_iconst dX9_begin_99 (by decide) ?_
  refine v_put (x := 0) 8 13 rfl inX9 (by decide) tw342 (Or.inl rfl) rfl dX9_begin_100 (by rw [e40]; exact h38) rfl id ?_
  refine v_bM (fun M41 e42 => ?_)
  refine v_aload_n dX9_begin_103 rfl ?_
  refine v_iconst dX9_begin_104 (by decide) ?_
  refine v_put (x := 0) 8 14 rfl inX9 (by decide) tw344 (Or.inl rfl) rfl dX9_begin_105 (by rw [e42, e40]; exact h38) rfl id ?_
  refine v_bM (fun M43 e44 => ?_)
  refine v_aload_n dX9_begin_108 rfl ?_
  refine v_iconst dX9_begin_109 (by decide) ?_
  refine v_put (x := 0) 8 15 rfl inX9 (by decide) tw346 (Or.inl rfl) rfl dX9_begin_110 (by rw [e44, e42, e40]; exact h38) rfl id ?_
  refine v_bM (fun M45 e46 => ?_)
  exact v_return dX9_begin_113 rfl rfl
theorem chX9_isFree_0 : (cX9_isFree.data.toList.drop 0).take 16 = [42, 180, 0, 58, 27, 182, 0, 117, 153, 0, 18, 42, 180, 0, 46, 27] := by decide +kernel
theorem chX9_isFree_1 : (cX9_isFree.data.toList.drop 16).take 16 = [122, 4, 126, 154, 0, 7, 4, 167, 0, 4, 3, 172] := by decide +kernel
theorem dX9_isFree_0 : decode cX9_isFree 0 = .ok (.aload_n 0, 1) := oq_42 (byt chX9_isFree_0 0 rfl)
theorem dX9_isFree_1 : decode cX9_isFree 1 = .ok (.getfield 58, 3) := oq_180 (byt chX9_isFree_0 1 rfl) (byt chX9_isFree_0 2 rfl) (byt chX9_isFree_0 3 rfl) rfl
theorem dX9_isFree_4 : decode cX9_isFree 4 = .ok (.iload_n 1, 1) := oq_27 (byt chX9_isFree_0 4 rfl)
theorem dX9_isFree_5 : decode cX9_isFree 5 = .ok (.invokevirtual 117, 3) := oq_182 (byt chX9_isFree_0 5 rfl) (byt chX9_isFree_0 6 rfl) (byt chX9_isFree_0 7 rfl) rfl
theorem dX9_isFree_8 : decode cX9_isFree 8 = .ok (.ifCond .eq 18, 3) := oq_153 (byt chX9_isFree_0 8 rfl) (byt chX9_isFree_0 9 rfl) (byt chX9_isFree_0 10 rfl) (by decide +kernel)
theorem dX9_isFree_11 : decode cX9_isFree 11 = .ok (.aload_n 0, 1) := oq_42 (byt chX9_isFree_0 11 rfl)
theorem dX9_isFree_12 : decode cX9_isFree 12 = .ok (.getfield 46, 3) := oq_180 (byt chX9_isFree_0 12 rfl) (byt chX9_isFree_0 13 rfl) (byt chX9_isFree_0 14 rfl) rfl
theorem dX9_isFree_15 : decode cX9_isFree 15 = .ok (.iload_n 1, 1) := oq_27 (byt chX9_isFree_0 15 rfl)
theorem dX9_isFree_16 : decode cX9_isFree 16 = .ok (.ishr, 1) := oq_122 (byt chX9_isFree_1 0 rfl)
theorem dX9_isFree_17 : decode cX9_isFree 17 = .ok (.iconst 1, 1) := oq_4 (byt chX9_isFree_1 1 rfl)
theorem dX9_isFree_18 : decode cX9_isFree 18 = .ok (.iand, 1) := oq_126 (byt chX9_isFree_1 2 rfl)
theorem dX9_isFree_19 : decode cX9_isFree 19 = .ok (.ifCond .ne 7, 3) := oq_154 (byt chX9_isFree_1 3 rfl) (byt chX9_isFree_1 4 rfl) (byt chX9_isFree_1 5 rfl) (by decide +kernel)
theorem dX9_isFree_22 : decode cX9_isFree 22 = .ok (.iconst 1, 1) := oq_4 (byt chX9_isFree_1 6 rfl)
theorem dX9_isFree_23 : decode cX9_isFree 23 = .ok (.goto 4, 3) := oq_167 (byt chX9_isFree_1 7 rfl) (byt chX9_isFree_1 8 rfl) (byt chX9_isFree_1 9 rfl) (by decide +kernel)
theorem dX9_isFree_26 : decode cX9_isFree 26 = .ok (.iconst 0, 1) := oq_3 (byt chX9_isFree_1 10 rfl)
theorem dX9_isFree_27 : decode cX9_isFree 27 = .ok (.ireturn, 1) := oq_172 (byt chX9_isFree_1 11 rfl)
abbrev mX9_isFree : MI := (yX9_isFree, cX9_isFree, 2, (some .boolean), noE)
theorem okX9_isFree : cok mX9_isFree 1 := ⟨tw760, tw8, by decide, by decide, by decide, by decide +kernel⟩
def fX9_isFree (M : Mem) (a0 a1 : Int) : Option Int :=
  if M.2.1 a0 = 8 then if M.2.1 (M.1 a0 0) = 7 then (fX7_isThief M (M.1 a0 0) a1).bind fun r2 => if r2 = 0 then (some 0) else (if bAnd (bShr (M.1 a0 13) a1) 1 = 0 then (some 1) else (some 0)) else none else none
set_option maxRecDepth 100000 in
set_option maxHeartbeats 4000000 in
theorem kX9_isFree (d : Nat) (hd : 1 ≤ d) (M : Mem) (a0 a1 : Int) : Ct mX9_isFree d 0 0 [pA a0, pI a1] M (dI M) (fX9_isFree M a0 a1) := by
  obtain ⟨d, rfl⟩ : ∃ k, d = k + 1 := ⟨d - 1, by omega⟩
  refine Ct.of 0 (fun _ _ _ => trivial) (by decide +kernel) rfl ?_
  unfold fX9_isFree
  refine v_aload_n dX9_isFree_0 rfl ?_
  refine v_if (fun h1 => ?_)
  refine v_get (v := pA (M.1 a0 0)) 8 0 rfl inX9 (by decide) tw315 dX9_isFree_1 h1 rfl ?_
  refine v_iload_n dX9_isFree_4 rfl ?_
  refine v_if (fun h4 => ?_)
  refine v_cV (mi := mX9_isFree) (c0 := 0) (c1 := 0) (As := [pI a1]) (st := []) (kX7_isThief d (by omega) _ _ _) rfl h4 rfl okX7_isThief (Or.inl tw761) tw692 tw693 rfl (Nat.le_of_ble_eq_true rfl) dX9_isFree_5 (fun r2 => [pI r2]) (fun r2 => M) (fun _ => rfl) (fun _ => rfl) (fun r2 h3 => ?_) rfl
  refine v_if_eq (tgt := 26) dX9_isFree_8 (by decide) (fun c5 => ?_) (fun c5 => ?_)
  · refine v_iconst dX9_isFree_26 (by decide) ?_
    exact v_breturn dX9_isFree_27 rfl (by decide) rfl
  · refine v_aload_n dX9_isFree_11 rfl ?_
    refine v_get (v := pI (M.1 a0 13)) 8 13 rfl inX9 (by decide) tw342 dX9_isFree_12 h1 rfl ?_
    refine v_iload_n dX9_isFree_15 rfl ?_
    refine v_ishr dX9_isFree_16 ?_
    refine v_iconst dX9_isFree_17 (by decide) ?_
    refine v_iand dX9_isFree_18 ?_
    refine v_if_ne (tgt := 26) dX9_isFree_19 (by decide) (fun c6 => ?_) (fun c6 => ?_)
    · refine v_iconst dX9_isFree_22 (by decide) ?_
      refine v_goto (tgt := 27) dX9_isFree_23 (by decide) ?_
      exact v_breturn dX9_isFree_27 rfl (by decide) rfl
    · refine v_iconst dX9_isFree_26 (by decide) ?_
      exact v_breturn dX9_isFree_27 rfl (by decide) rfl
theorem chX10_isGood_0 : (cX10_isGood.data.toList.drop 0).take 16 = [26, 155, 0, 12, 26, 8, 162, 0, 7, 4, 167, 0, 4, 3, 172] := by decide +kernel
theorem dX10_isGood_0 : decode cX10_isGood 0 = .ok (.iload_n 0, 1) := oq_26 (byt chX10_isGood_0 0 rfl)
theorem dX10_isGood_1 : decode cX10_isGood 1 = .ok (.ifCond .lt 12, 3) := oq_155 (byt chX10_isGood_0 1 rfl) (byt chX10_isGood_0 2 rfl) (byt chX10_isGood_0 3 rfl) (by decide +kernel)
theorem dX10_isGood_4 : decode cX10_isGood 4 = .ok (.iload_n 0, 1) := oq_26 (byt chX10_isGood_0 4 rfl)
theorem dX10_isGood_5 : decode cX10_isGood 5 = .ok (.iconst 5, 1) := oq_8 (byt chX10_isGood_0 5 rfl)
theorem dX10_isGood_6 : decode cX10_isGood 6 = .ok (.if_icmp .ge 7, 3) := oq_162 (byt chX10_isGood_0 6 rfl) (byt chX10_isGood_0 7 rfl) (byt chX10_isGood_0 8 rfl) (by decide +kernel)
theorem dX10_isGood_9 : decode cX10_isGood 9 = .ok (.iconst 1, 1) := oq_4 (byt chX10_isGood_0 9 rfl)
theorem dX10_isGood_10 : decode cX10_isGood 10 = .ok (.goto 4, 3) := oq_167 (byt chX10_isGood_0 10 rfl) (byt chX10_isGood_0 11 rfl) (byt chX10_isGood_0 12 rfl) (by decide +kernel)
theorem dX10_isGood_13 : decode cX10_isGood 13 = .ok (.iconst 0, 1) := oq_3 (byt chX10_isGood_0 13 rfl)
theorem dX10_isGood_14 : decode cX10_isGood 14 = .ok (.ireturn, 1) := oq_172 (byt chX10_isGood_0 14 rfl)
abbrev mX10_isGood : MI := (yX10_isGood, cX10_isGood, 1, (some .boolean), noE)
theorem okX10_isGood : cok mX10_isGood 1 := ⟨tw690, tw1, by decide, by decide, by decide, by decide +kernel⟩
def fX10_isGood (M : Mem) (a0 : Int) : Option Int :=
  if a0 < 0 then (some 0) else (if a0 < 5 then (some 1) else (some 0))
set_option maxRecDepth 100000 in
set_option maxHeartbeats 4000000 in
theorem kX10_isGood (d : Nat) (hd : 0 ≤ d) (M : Mem) (a0 : Int) : Ct mX10_isGood d 0 0 [pI a0] M (dI M) (fX10_isGood M a0) := by
  refine Ct.of 0 (fun _ _ _ => trivial) (by decide +kernel) rfl ?_
  unfold fX10_isGood
  refine v_iload_n dX10_isGood_0 rfl ?_
  refine v_if_lt (tgt := 13) dX10_isGood_1 (by decide) (fun c1 => ?_) (fun c1 => ?_)
  · refine v_iconst dX10_isGood_13 (by decide) ?_
    exact v_breturn dX10_isGood_14 rfl (by decide) rfl
  · refine v_iload_n dX10_isGood_4 rfl ?_
    refine v_iconst dX10_isGood_5 (by decide) ?_
    refine v_icmp_ge (tgt := 13) dX10_isGood_6 (by decide) (fun c2 => ?_) (fun c2 => ?_)
    · refine v_iconst dX10_isGood_9 (by decide) ?_
      refine v_goto (tgt := 14) dX10_isGood_10 (by decide) ?_
      exact v_breturn dX10_isGood_14 rfl (by decide) rfl
    · refine v_iconst dX10_isGood_13 (by decide) ?_
      exact v_breturn dX10_isGood_14 rfl (by decide) rfl
theorem chX9_takeOne_0 : (cX9_takeOne.data.toList.drop 0).take 16 = [42, 27, 182, 0, 139, 153, 0, 21, 42, 180, 0, 58, 28, 182, 0, 142] := by decide +kernel
theorem chX9_takeOne_1 : (cX9_takeOne.data.toList.drop 16).take 16 = [153, 0, 10, 29, 184, 0, 145, 154, 0, 5, 3, 172, 42, 180, 0, 9] := by decide +kernel
theorem chX9_takeOne_2 : (cX9_takeOne.data.toList.drop 32).take 16 = [28, 29, 184, 0, 130, 46, 4, 161, 0, 21, 42, 180, 0, 33, 27, 46] := by decide +kernel
theorem chX9_takeOne_3 : (cX9_takeOne.data.toList.drop 48).take 16 = [42, 180, 0, 58, 180, 0, 148, 27, 46, 161, 0, 5, 3, 172, 42, 180] := by decide +kernel
theorem chX9_takeOne_4 : (cX9_takeOne.data.toList.drop 64).take 16 = [0, 9, 28, 29, 184, 0, 130, 92, 46, 4, 100, 79, 42, 180, 0, 15] := by decide +kernel
theorem chX9_takeOne_5 : (cX9_takeOne.data.toList.drop 80).take 16 = [8, 27, 104, 29, 96, 92, 46, 4, 96, 79, 42, 180, 0, 18, 27, 28] := by decide +kernel
theorem chX9_takeOne_6 : (cX9_takeOne.data.toList.drop 96).take 16 = [29, 184, 0, 136, 92, 46, 4, 96, 79, 42, 180, 0, 24, 27, 92, 46] := by decide +kernel
theorem chX9_takeOne_7 : (cX9_takeOne.data.toList.drop 112).take 16 = [4, 96, 79, 42, 180, 0, 33, 27, 92, 46, 4, 96, 79, 42, 180, 0] := by decide +kernel
theorem chX9_takeOne_8 : (cX9_takeOne.data.toList.drop 128).take 16 = [39, 27, 42, 180, 0, 42, 79, 42, 89, 180, 0, 42, 4, 96, 181, 0] := by decide +kernel
theorem chX9_takeOne_9 : (cX9_takeOne.data.toList.drop 144).take 16 = [42, 4, 172] := by decide +kernel
theorem dX9_takeOne_0 : decode cX9_takeOne 0 = .ok (.aload_n 0, 1) := oq_42 (byt chX9_takeOne_0 0 rfl)
theorem dX9_takeOne_1 : decode cX9_takeOne 1 = .ok (.iload_n 1, 1) := oq_27 (byt chX9_takeOne_0 1 rfl)
theorem dX9_takeOne_2 : decode cX9_takeOne 2 = .ok (.invokevirtual 139, 3) := oq_182 (byt chX9_takeOne_0 2 rfl) (byt chX9_takeOne_0 3 rfl) (byt chX9_takeOne_0 4 rfl) rfl
theorem dX9_takeOne_5 : decode cX9_takeOne 5 = .ok (.ifCond .eq 21, 3) := oq_153 (byt chX9_takeOne_0 5 rfl) (byt chX9_takeOne_0 6 rfl) (byt chX9_takeOne_0 7 rfl) (by decide +kernel)
theorem dX9_takeOne_8 : decode cX9_takeOne 8 = .ok (.aload_n 0, 1) := oq_42 (byt chX9_takeOne_0 8 rfl)
theorem dX9_takeOne_9 : decode cX9_takeOne 9 = .ok (.getfield 58, 3) := oq_180 (byt chX9_takeOne_0 9 rfl) (byt chX9_takeOne_0 10 rfl) (byt chX9_takeOne_0 11 rfl) rfl
theorem dX9_takeOne_12 : decode cX9_takeOne 12 = .ok (.iload_n 2, 1) := oq_28 (byt chX9_takeOne_0 12 rfl)
theorem dX9_takeOne_13 : decode cX9_takeOne 13 = .ok (.invokevirtual 142, 3) := oq_182 (byt chX9_takeOne_0 13 rfl) (byt chX9_takeOne_0 14 rfl) (byt chX9_takeOne_0 15 rfl) rfl
theorem dX9_takeOne_16 : decode cX9_takeOne 16 = .ok (.ifCond .eq 10, 3) := oq_153 (byt chX9_takeOne_1 0 rfl) (byt chX9_takeOne_1 1 rfl) (byt chX9_takeOne_1 2 rfl) (by decide +kernel)
theorem dX9_takeOne_19 : decode cX9_takeOne 19 = .ok (.iload_n 3, 1) := oq_29 (byt chX9_takeOne_1 3 rfl)
theorem dX9_takeOne_20 : decode cX9_takeOne 20 = .ok (.invokestatic 145, 3) := oq_184 (byt chX9_takeOne_1 4 rfl) (byt chX9_takeOne_1 5 rfl) (byt chX9_takeOne_1 6 rfl) rfl
theorem dX9_takeOne_23 : decode cX9_takeOne 23 = .ok (.ifCond .ne 5, 3) := oq_154 (byt chX9_takeOne_1 7 rfl) (byt chX9_takeOne_1 8 rfl) (byt chX9_takeOne_1 9 rfl) (by decide +kernel)
theorem dX9_takeOne_26 : decode cX9_takeOne 26 = .ok (.iconst 0, 1) := oq_3 (byt chX9_takeOne_1 10 rfl)
theorem dX9_takeOne_27 : decode cX9_takeOne 27 = .ok (.ireturn, 1) := oq_172 (byt chX9_takeOne_1 11 rfl)
theorem dX9_takeOne_28 : decode cX9_takeOne 28 = .ok (.aload_n 0, 1) := oq_42 (byt chX9_takeOne_1 12 rfl)
theorem dX9_takeOne_29 : decode cX9_takeOne 29 = .ok (.getfield 9, 3) := oq_180 (byt chX9_takeOne_1 13 rfl) (byt chX9_takeOne_1 14 rfl) (byt chX9_takeOne_1 15 rfl) rfl
theorem dX9_takeOne_32 : decode cX9_takeOne 32 = .ok (.iload_n 2, 1) := oq_28 (byt chX9_takeOne_2 0 rfl)
theorem dX9_takeOne_33 : decode cX9_takeOne 33 = .ok (.iload_n 3, 1) := oq_29 (byt chX9_takeOne_2 1 rfl)
theorem dX9_takeOne_34 : decode cX9_takeOne 34 = .ok (.invokestatic 130, 3) := oq_184 (byt chX9_takeOne_2 2 rfl) (byt chX9_takeOne_2 3 rfl) (byt chX9_takeOne_2 4 rfl) rfl
theorem dX9_takeOne_37 : decode cX9_takeOne 37 = .ok (.iaload, 1) := oq_46 (byt chX9_takeOne_2 5 rfl)
theorem dX9_takeOne_38 : decode cX9_takeOne 38 = .ok (.iconst 1, 1) := oq_4 (byt chX9_takeOne_2 6 rfl)
theorem dX9_takeOne_39 : decode cX9_takeOne 39 = .ok (.if_icmp .lt 21, 3) := oq_161 (byt chX9_takeOne_2 7 rfl) (byt chX9_takeOne_2 8 rfl) (byt chX9_takeOne_2 9 rfl) (by decide +kernel)
theorem dX9_takeOne_42 : decode cX9_takeOne 42 = .ok (.aload_n 0, 1) := oq_42 (byt chX9_takeOne_2 10 rfl)
theorem dX9_takeOne_43 : decode cX9_takeOne 43 = .ok (.getfield 33, 3) := oq_180 (byt chX9_takeOne_2 11 rfl) (byt chX9_takeOne_2 12 rfl) (byt chX9_takeOne_2 13 rfl) rfl
theorem dX9_takeOne_46 : decode cX9_takeOne 46 = .ok (.iload_n 1, 1) := oq_27 (byt chX9_takeOne_2 14 rfl)
theorem dX9_takeOne_47 : decode cX9_takeOne 47 = .ok (.iaload, 1) := oq_46 (byt chX9_takeOne_2 15 rfl)
theorem dX9_takeOne_48 : decode cX9_takeOne 48 = .ok (.aload_n 0, 1) := oq_42 (byt chX9_takeOne_3 0 rfl)
theorem dX9_takeOne_49 : decode cX9_takeOne 49 = .ok (.getfield 58, 3) := oq_180 (byt chX9_takeOne_3 1 rfl) (byt chX9_takeOne_3 2 rfl) (byt chX9_takeOne_3 3 rfl) rfl
theorem dX9_takeOne_52 : decode cX9_takeOne 52 = .ok (.getfield 148, 3) := oq_180 (byt chX9_takeOne_3 4 rfl) (byt chX9_takeOne_3 5 rfl) (byt chX9_takeOne_3 6 rfl) rfl
theorem dX9_takeOne_55 : decode cX9_takeOne 55 = .ok (.iload_n 1, 1) := oq_27 (byt chX9_takeOne_3 7 rfl)
theorem dX9_takeOne_56 : decode cX9_takeOne 56 = .ok (.iaload, 1) := oq_46 (byt chX9_takeOne_3 8 rfl)
theorem dX9_takeOne_57 : decode cX9_takeOne 57 = .ok (.if_icmp .lt 5, 3) := oq_161 (byt chX9_takeOne_3 9 rfl) (byt chX9_takeOne_3 10 rfl) (byt chX9_takeOne_3 11 rfl) (by decide +kernel)
theorem dX9_takeOne_60 : decode cX9_takeOne 60 = .ok (.iconst 0, 1) := oq_3 (byt chX9_takeOne_3 12 rfl)
theorem dX9_takeOne_61 : decode cX9_takeOne 61 = .ok (.ireturn, 1) := oq_172 (byt chX9_takeOne_3 13 rfl)
theorem dX9_takeOne_62 : decode cX9_takeOne 62 = .ok (.aload_n 0, 1) := oq_42 (byt chX9_takeOne_3 14 rfl)
theorem dX9_takeOne_63 : decode cX9_takeOne 63 = .ok (.getfield 9, 3) := oq_180 (byt chX9_takeOne_3 15 rfl) (byt chX9_takeOne_4 0 rfl) (byt chX9_takeOne_4 1 rfl) rfl
theorem dX9_takeOne_66 : decode cX9_takeOne 66 = .ok (.iload_n 2, 1) := oq_28 (byt chX9_takeOne_4 2 rfl)
theorem dX9_takeOne_67 : decode cX9_takeOne 67 = .ok (.iload_n 3, 1) := oq_29 (byt chX9_takeOne_4 3 rfl)
theorem dX9_takeOne_68 : decode cX9_takeOne 68 = .ok (.invokestatic 130, 3) := oq_184 (byt chX9_takeOne_4 4 rfl) (byt chX9_takeOne_4 5 rfl) (byt chX9_takeOne_4 6 rfl) rfl
theorem dX9_takeOne_71 : decode cX9_takeOne 71 = .ok (.dup2, 1) := oq_92 (byt chX9_takeOne_4 7 rfl)
theorem dX9_takeOne_72 : decode cX9_takeOne 72 = .ok (.iaload, 1) := oq_46 (byt chX9_takeOne_4 8 rfl)
theorem dX9_takeOne_73 : decode cX9_takeOne 73 = .ok (.iconst 1, 1) := oq_4 (byt chX9_takeOne_4 9 rfl)
theorem dX9_takeOne_74 : decode cX9_takeOne 74 = .ok (.isub, 1) := oq_100 (byt chX9_takeOne_4 10 rfl)
theorem dX9_takeOne_75 : decode cX9_takeOne 75 = .ok (.iastore, 1) := oq_79 (byt chX9_takeOne_4 11 rfl)
theorem dX9_takeOne_76 : decode cX9_takeOne 76 = .ok (.aload_n 0, 1) := oq_42 (byt chX9_takeOne_4 12 rfl)
theorem dX9_takeOne_77 : decode cX9_takeOne 77 = .ok (.getfield 15, 3) := oq_180 (byt chX9_takeOne_4 13 rfl) (byt chX9_takeOne_4 14 rfl) (byt chX9_takeOne_4 15 rfl) rfl
theorem dX9_takeOne_80 : decode cX9_takeOne 80 = .ok (.iconst 5, 1) := oq_8 (byt chX9_takeOne_5 0 rfl)
theorem dX9_takeOne_81 : decode cX9_takeOne 81 = .ok (.iload_n 1, 1) := oq_27 (byt chX9_takeOne_5 1 rfl)
theorem dX9_takeOne_82 : decode cX9_takeOne 82 = .ok (.imul, 1) := oq_104 (byt chX9_takeOne_5 2 rfl)
theorem dX9_takeOne_83 : decode cX9_takeOne 83 = .ok (.iload_n 3, 1) := oq_29 (byt chX9_takeOne_5 3 rfl)
theorem dX9_takeOne_84 : decode cX9_takeOne 84 = .ok (.iadd, 1) := oq_96 (byt chX9_takeOne_5 4 rfl)
theorem dX9_takeOne_85 : decode cX9_takeOne 85 = .ok (.dup2, 1) := oq_92 (byt chX9_takeOne_5 5 rfl)
theorem dX9_takeOne_86 : decode cX9_takeOne 86 = .ok (.iaload, 1) := oq_46 (byt chX9_takeOne_5 6 rfl)
theorem dX9_takeOne_87 : decode cX9_takeOne 87 = .ok (.iconst 1, 1) := oq_4 (byt chX9_takeOne_5 7 rfl)
theorem dX9_takeOne_88 : decode cX9_takeOne 88 = .ok (.iadd, 1) := oq_96 (byt chX9_takeOne_5 8 rfl)
theorem dX9_takeOne_89 : decode cX9_takeOne 89 = .ok (.iastore, 1) := oq_79 (byt chX9_takeOne_5 9 rfl)
theorem dX9_takeOne_90 : decode cX9_takeOne 90 = .ok (.aload_n 0, 1) := oq_42 (byt chX9_takeOne_5 10 rfl)
theorem dX9_takeOne_91 : decode cX9_takeOne 91 = .ok (.getfield 18, 3) := oq_180 (byt chX9_takeOne_5 11 rfl) (byt chX9_takeOne_5 12 rfl) (byt chX9_takeOne_5 13 rfl) rfl
theorem dX9_takeOne_94 : decode cX9_takeOne 94 = .ok (.iload_n 1, 1) := oq_27 (byt chX9_takeOne_5 14 rfl)
theorem dX9_takeOne_95 : decode cX9_takeOne 95 = .ok (.iload_n 2, 1) := oq_28 (byt chX9_takeOne_5 15 rfl)
theorem dX9_takeOne_96 : decode cX9_takeOne 96 = .ok (.iload_n 3, 1) := oq_29 (byt chX9_takeOne_6 0 rfl)
theorem dX9_takeOne_97 : decode cX9_takeOne 97 = .ok (.invokestatic 136, 3) := oq_184 (byt chX9_takeOne_6 1 rfl) (byt chX9_takeOne_6 2 rfl) (byt chX9_takeOne_6 3 rfl) rfl
theorem dX9_takeOne_100 : decode cX9_takeOne 100 = .ok (.dup2, 1) := oq_92 (byt chX9_takeOne_6 4 rfl)
theorem dX9_takeOne_101 : decode cX9_takeOne 101 = .ok (.iaload, 1) := oq_46 (byt chX9_takeOne_6 5 rfl)
theorem dX9_takeOne_102 : decode cX9_takeOne 102 = .ok (.iconst 1, 1) := oq_4 (byt chX9_takeOne_6 6 rfl)
theorem dX9_takeOne_103 : decode cX9_takeOne 103 = .ok (.iadd, 1) := oq_96 (byt chX9_takeOne_6 7 rfl)
theorem dX9_takeOne_104 : decode cX9_takeOne 104 = .ok (.iastore, 1) := oq_79 (byt chX9_takeOne_6 8 rfl)
theorem dX9_takeOne_105 : decode cX9_takeOne 105 = .ok (.aload_n 0, 1) := oq_42 (byt chX9_takeOne_6 9 rfl)
theorem dX9_takeOne_106 : decode cX9_takeOne 106 = .ok (.getfield 24, 3) := oq_180 (byt chX9_takeOne_6 10 rfl) (byt chX9_takeOne_6 11 rfl) (byt chX9_takeOne_6 12 rfl) rfl
theorem dX9_takeOne_109 : decode cX9_takeOne 109 = .ok (.iload_n 1, 1) := oq_27 (byt chX9_takeOne_6 13 rfl)
theorem dX9_takeOne_110 : decode cX9_takeOne 110 = .ok (.dup2, 1) := oq_92 (byt chX9_takeOne_6 14 rfl)
theorem dX9_takeOne_111 : decode cX9_takeOne 111 = .ok (.iaload, 1) := oq_46 (byt chX9_takeOne_6 15 rfl)
theorem dX9_takeOne_112 : decode cX9_takeOne 112 = .ok (.iconst 1, 1) := oq_4 (byt chX9_takeOne_7 0 rfl)
theorem dX9_takeOne_113 : decode cX9_takeOne 113 = .ok (.iadd, 1) := oq_96 (byt chX9_takeOne_7 1 rfl)
theorem dX9_takeOne_114 : decode cX9_takeOne 114 = .ok (.iastore, 1) := oq_79 (byt chX9_takeOne_7 2 rfl)
theorem dX9_takeOne_115 : decode cX9_takeOne 115 = .ok (.aload_n 0, 1) := oq_42 (byt chX9_takeOne_7 3 rfl)
theorem dX9_takeOne_116 : decode cX9_takeOne 116 = .ok (.getfield 33, 3) := oq_180 (byt chX9_takeOne_7 4 rfl) (byt chX9_takeOne_7 5 rfl) (byt chX9_takeOne_7 6 rfl) rfl
theorem dX9_takeOne_119 : decode cX9_takeOne 119 = .ok (.iload_n 1, 1) := oq_27 (byt chX9_takeOne_7 7 rfl)
theorem dX9_takeOne_120 : decode cX9_takeOne 120 = .ok (.dup2, 1) := oq_92 (byt chX9_takeOne_7 8 rfl)
theorem dX9_takeOne_121 : decode cX9_takeOne 121 = .ok (.iaload, 1) := oq_46 (byt chX9_takeOne_7 9 rfl)
theorem dX9_takeOne_122 : decode cX9_takeOne 122 = .ok (.iconst 1, 1) := oq_4 (byt chX9_takeOne_7 10 rfl)
theorem dX9_takeOne_123 : decode cX9_takeOne 123 = .ok (.iadd, 1) := oq_96 (byt chX9_takeOne_7 11 rfl)
theorem dX9_takeOne_124 : decode cX9_takeOne 124 = .ok (.iastore, 1) := oq_79 (byt chX9_takeOne_7 12 rfl)
theorem dX9_takeOne_125 : decode cX9_takeOne 125 = .ok (.aload_n 0, 1) := oq_42 (byt chX9_takeOne_7 13 rfl)
theorem dX9_takeOne_126 : decode cX9_takeOne 126 = .ok (.getfield 39, 3) := oq_180 (byt chX9_takeOne_7 14 rfl) (byt chX9_takeOne_7 15 rfl) (byt chX9_takeOne_8 0 rfl) rfl
theorem dX9_takeOne_129 : decode cX9_takeOne 129 = .ok (.iload_n 1, 1) := oq_27 (byt chX9_takeOne_8 1 rfl)
theorem dX9_takeOne_130 : decode cX9_takeOne 130 = .ok (.aload_n 0, 1) := oq_42 (byt chX9_takeOne_8 2 rfl)
theorem dX9_takeOne_131 : decode cX9_takeOne 131 = .ok (.getfield 42, 3) := oq_180 (byt chX9_takeOne_8 3 rfl) (byt chX9_takeOne_8 4 rfl) (byt chX9_takeOne_8 5 rfl) rfl
theorem dX9_takeOne_134 : decode cX9_takeOne 134 = .ok (.iastore, 1) := oq_79 (byt chX9_takeOne_8 6 rfl)
theorem dX9_takeOne_135 : decode cX9_takeOne 135 = .ok (.aload_n 0, 1) := oq_42 (byt chX9_takeOne_8 7 rfl)
theorem dX9_takeOne_136 : decode cX9_takeOne 136 = .ok (.dup, 1) := oq_89 (byt chX9_takeOne_8 8 rfl)
theorem dX9_takeOne_137 : decode cX9_takeOne 137 = .ok (.getfield 42, 3) := oq_180 (byt chX9_takeOne_8 9 rfl) (byt chX9_takeOne_8 10 rfl) (byt chX9_takeOne_8 11 rfl) rfl
theorem dX9_takeOne_140 : decode cX9_takeOne 140 = .ok (.iconst 1, 1) := oq_4 (byt chX9_takeOne_8 12 rfl)
theorem dX9_takeOne_141 : decode cX9_takeOne 141 = .ok (.iadd, 1) := oq_96 (byt chX9_takeOne_8 13 rfl)
theorem dX9_takeOne_142 : decode cX9_takeOne 142 = .ok (.putfield 42, 3) := oq_181 (byt chX9_takeOne_8 14 rfl) (byt chX9_takeOne_8 15 rfl) (byt chX9_takeOne_9 0 rfl) rfl
theorem dX9_takeOne_145 : decode cX9_takeOne 145 = .ok (.iconst 1, 1) := oq_4 (byt chX9_takeOne_9 1 rfl)
theorem dX9_takeOne_146 : decode cX9_takeOne 146 = .ok (.ireturn, 1) := oq_172 (byt chX9_takeOne_9 2 rfl)
abbrev mX9_takeOne : MI := (yX9_takeOne, cX9_takeOne, 4, (some .boolean), noE)
theorem okX9_takeOne : cok mX9_takeOne 3 := ⟨tw756, tw8, by decide, by decide, by decide, by decide +kernel⟩
def fX9_takeOne (M : Mem) (a0 a1 a2 a3 : Int) : Option (Int × Mem) :=
  if M.2.1 a0 = 8 then (fX9_isFree M a0 a1).bind fun r1 => if r1 = 0 then (some (0, M)) else (if M.2.1 (M.1 a0 0) = 7 then (fX7_isHouse M (M.1 a0 0) a2).bind fun r5 => if r5 = 0 then (some (0, M)) else ((fX10_isGood M a3).bind fun r9 => if r9 = 0 then (some (0, M)) else ((fX10_cell M a2 a3).bind fun r12 => if M.2.1 (M.1 a0 2) = 12 ∧ (0 : Int) ≤ r12 ∧ r12 < M.2.2.1 (M.1 a0 2) then if M.1 (M.1 a0 2) r12 < 1 then (some (0, M)) else (if M.2.1 (M.1 a0 9) = 12 ∧ (0 : Int) ≤ a1 ∧ a1 < M.2.2.1 (M.1 a0 9) then if M.2.1 (M.1 (M.1 a0 0) 8) = 12 ∧ (0 : Int) ≤ a1 ∧ a1 < M.2.2.1 (M.1 (M.1 a0 0) 8) then if M.1 (M.1 a0 9) a1 < M.1 (M.1 (M.1 a0 0) 8) a1 then ((fX10_cell M a2 a3).bind fun r19 => if M.2.1 (M.1 a0 2) = 12 ∧ (0 : Int) ≤ r19 ∧ r19 < M.2.2.1 (M.1 a0 2) then if M.2.1 (M.1 a0 2) = 12 ∧ (0 : Int) ≤ r19 ∧ r19 < M.2.2.1 (M.1 a0 2) then bM (mst M (M.1 a0 2) r19 (w32 ((M.1 (M.1 a0 2) r19) - 1))) fun M23 => if M23.2.1 (M23.1 a0 3) = 12 ∧ (0 : Int) ≤ (w32 ((w32 (5 * a1)) + a3)) ∧ (w32 ((w32 (5 * a1)) + a3)) < M23.2.2.1 (M23.1 a0 3) then if M23.2.1 (M23.1 a0 3) = 12 ∧ (0 : Int) ≤ (w32 ((w32 (5 * a1)) + a3)) ∧ (w32 ((w32 (5 * a1)) + a3)) < M23.2.2.1 (M23.1 a0 3) then bM (mst M23 (M23.1 a0 3) (w32 ((w32 (5 * a1)) + a3)) (w32 ((M23.1 (M23.1 a0 3) (w32 ((w32 (5 * a1)) + a3))) + 1))) fun M27 => (fX10_cell_ M27 a1 a2 a3).bind fun r29 => if M27.2.1 (M27.1 a0 4) = 12 ∧ (0 : Int) ≤ r29 ∧ r29 < M27.2.2.1 (M27.1 a0 4) then if M27.2.1 (M27.1 a0 4) = 12 ∧ (0 : Int) ≤ r29 ∧ r29 < M27.2.2.1 (M27.1 a0 4) then bM (mst M27 (M27.1 a0 4) r29 (w32 ((M27.1 (M27.1 a0 4) r29) + 1))) fun M33 => if M33.2.1 (M33.1 a0 6) = 12 ∧ (0 : Int) ≤ a1 ∧ a1 < M33.2.2.1 (M33.1 a0 6) then if M33.2.1 (M33.1 a0 6) = 12 ∧ (0 : Int) ≤ a1 ∧ a1 < M33.2.2.1 (M33.1 a0 6) then bM (mst M33 (M33.1 a0 6) a1 (w32 ((M33.1 (M33.1 a0 6) a1) + 1))) fun M37 => if M37.2.1 (M37.1 a0 9) = 12 ∧ (0 : Int) ≤ a1 ∧ a1 < M37.2.2.1 (M37.1 a0 9) then if M37.2.1 (M37.1 a0 9) = 12 ∧ (0 : Int) ≤ a1 ∧ a1 < M37.2.2.1 (M37.1 a0 9) then bM (mst M37 (M37.1 a0 9) a1 (w32 ((M37.1 (M37.1 a0 9) a1) + 1))) fun M41 => if M41.2.1 (M41.1 a0 11) = 12 ∧ (0 : Int) ≤ a1 ∧ a1 < M41.2.2.1 (M41.1 a0 11) then bM (mst M41 (M41.1 a0 11) a1 (M41.1 a0 12)) fun M44 => bM (mst M44 a0 12 (w32 ((M44.1 a0 12) + 1))) fun M46 => some (1, M46) else none else none else none else none else none else none else none else none else none else none else none) else (some (0, M)) else none else none) else none)) else none) else none
set_option maxRecDepth 100000 in
set_option maxHeartbeats 4000000 in
theorem kX9_takeOne (d : Nat) (hd : 2 ≤ d) (M : Mem) (a0 a1 a2 a3 : Int) : Ct mX9_takeOne d 0 0 [pA a0, pI a1, pI a2, pI a3] M dIM (fX9_takeOne M a0 a1 a2 a3) := by
  obtain ⟨d, rfl⟩ : ∃ k, d = k + 1 := ⟨d - 1, by omega⟩
  refine Ct.of 0 (fun _ _ _ => trivial) (by decide +kernel) rfl ?_
  unfold fX9_takeOne
  refine v_aload_n dX9_takeOne_0 rfl ?_
  refine v_iload_n dX9_takeOne_1 rfl ?_
  refine v_if (fun h3 => ?_)
  refine v_cV (mi := mX9_takeOne) (c0 := 0) (c1 := 0) (As := [pI a1]) (st := []) (kX9_isFree d (by omega) _ _ _) rfl h3 rfl okX9_isFree (Or.inl tw757) tw758 tw759 rfl (Nat.le_of_ble_eq_true rfl) dX9_takeOne_2 (fun r1 => [pI r1]) (fun r1 => M) (fun _ => rfl) (fun _ => rfl) (fun r1 h2 => ?_) rfl
  refine v_if_eq (tgt := 26) dX9_takeOne_5 (by decide) (fun c4 => ?_) (fun c4 => ?_)
  · refine v_iconst dX9_takeOne_26 (by decide) ?_
    exact v_breturn dX9_takeOne_27 rfl (by decide) rfl
  · refine v_aload_n dX9_takeOne_8 rfl ?_
    refine v_get (v := pA (M.1 a0 0)) 8 0 rfl inX9 (by decide) tw315 dX9_takeOne_9 h3 rfl ?_
    refine v_iload_n dX9_takeOne_12 rfl ?_
    refine v_if (fun h7 => ?_)
    refine v_cV (mi := mX9_takeOne) (c0 := 0) (c1 := 0) (As := [pI a2]) (st := []) (kX7_isHouse d (by omega) _ _ _) rfl h7 rfl okX7_isHouse (Or.inl tw762) tw685 tw686 rfl (Nat.le_of_ble_eq_true rfl) dX9_takeOne_13 (fun r5 => [pI r5]) (fun r5 => M) (fun _ => rfl) (fun _ => rfl) (fun r5 h6 => ?_) rfl
    refine v_if_eq (tgt := 26) dX9_takeOne_16 (by decide) (fun c8 => ?_) (fun c8 => ?_)
    · refine v_iconst dX9_takeOne_26 (by decide) ?_
      exact v_breturn dX9_takeOne_27 rfl (by decide) rfl
    · refine v_iload_n dX9_takeOne_19 rfl ?_
      refine v_cS (mi := mX9_takeOne) (c0 := 0) (c1 := 0) (As := [pI a3]) (st := []) (kX10_isGood d (by omega) _ _) okX10_isGood (Or.inr nw15) tw689 rfl (Nat.le_of_ble_eq_true rfl) dX9_takeOne_20 (fun r9 => [pI r9]) (fun r9 => M) (fun _ => rfl) (fun _ => rfl) (fun r9 h10 => ?_) rfl
      refine v_if_ne (tgt := 28) dX9_takeOne_23 (by decide) (fun c11 => ?_) (fun c11 => ?_)
      · refine v_iconst dX9_takeOne_26 (by decide) ?_
        exact v_breturn dX9_takeOne_27 rfl (by decide) rfl
      · refine v_aload_n dX9_takeOne_28 rfl ?_
        refine v_get (v := pA (M.1 a0 2)) 8 2 rfl inX9 (by decide) tw320 dX9_takeOne_29 h3 rfl ?_
        refine v_iload_n dX9_takeOne_32 rfl ?_
        refine v_iload_n dX9_takeOne_33 rfl ?_
        refine v_cS (mi := mX9_takeOne) (c0 := 0) (c1 := 0) (As := [pI a2, pI a3]) (st := [pA (M.1 a0 2)]) (kX10_cell d (by omega) _ _ _) okX10_cell (Or.inr nw16) tw621 rfl (Nat.le_of_ble_eq_true rfl) dX9_takeOne_34 (fun r12 => [pI r12, pA (M.1 a0 2)]) (fun r12 => M) (fun _ => rfl) (fun _ => rfl) (fun r12 h13 => ?_) rfl
        refine v_if (fun h14 => ?_)
        refine v_iaload h14 dX9_takeOne_37 ?_
        refine v_iconst dX9_takeOne_38 (by decide) ?_
        refine v_icmp_lt (tgt := 60) dX9_takeOne_39 (by decide) (fun c15 => ?_) (fun c15 => ?_)
        · refine v_iconst dX9_takeOne_60 (by decide) ?_
          exact v_breturn dX9_takeOne_61 rfl (by decide) rfl
        · refine v_aload_n dX9_takeOne_42 rfl ?_
          refine v_get (v := pA (M.1 a0 9)) 8 9 rfl inX9 (by decide) tw337 dX9_takeOne_43 h3 rfl ?_
          refine v_iload_n dX9_takeOne_46 rfl ?_
          refine v_if (fun h16 => ?_)
          refine v_iaload h16 dX9_takeOne_47 ?_
          refine v_aload_n dX9_takeOne_48 rfl ?_
          refine v_get (v := pA (M.1 a0 0)) 8 0 rfl inX9 (by decide) tw315 dX9_takeOne_49 h3 rfl ?_
          refine v_get (v := pA (M.1 (M.1 a0 0) 8)) 7 8 rfl inX7 (by decide) tw95 dX9_takeOne_52 h7 rfl ?_
          refine v_iload_n dX9_takeOne_55 rfl ?_
          refine v_if (fun h17 => ?_)
          refine v_iaload h17 dX9_takeOne_56 ?_
          refine v_icmp_lt (tgt := 62) dX9_takeOne_57 (by decide) (fun c18 => ?_) (fun c18 => ?_)
          · refine v_aload_n dX9_takeOne_62 rfl ?_
            refine v_get (v := pA (M.1 a0 2)) 8 2 rfl inX9 (by decide) tw320 dX9_takeOne_63 h3 rfl ?_
            refine v_iload_n dX9_takeOne_66 rfl ?_
            refine v_iload_n dX9_takeOne_67 rfl ?_
            refine v_cS (mi := mX9_takeOne) (c0 := 0) (c1 := 0) (As := [pI a2, pI a3]) (st := [pA (M.1 a0 2)]) (kX10_cell d (by omega) _ _ _) okX10_cell (Or.inr nw16) tw621 rfl (Nat.le_of_ble_eq_true rfl) dX9_takeOne_68 (fun r19 => [pI r19, pA (M.1 a0 2)]) (fun r19 => M) (fun _ => rfl) (fun _ => rfl) (fun r19 h20 => ?_) rfl
            refine v_dup2 dX9_takeOne_71 (by intro z hz; cases hz) (by intro z hz; cases hz) ?_
            refine v_if (fun h21 => ?_)
            refine v_iaload h21 dX9_takeOne_72 ?_
            refine v_iconst dX9_takeOne_73 (by decide) ?_
            refine v_isub dX9_takeOne_74 ?_
            refine v_if (fun h22 => ?_)
            refine v_iastore h22 dX9_takeOne_75 ?_
            refine v_bM (fun M23 e24 => ?_)
            refine v_aload_n dX9_takeOne_76 rfl ?_
            refine v_get (v := pA (M23.1 a0 3)) 8 3 rfl inX9 (by decide) tw323 dX9_takeOne_77 (by rw [e24]; exact h3) rfl ?_
            refine v_iconst dX9_takeOne_80 (by decide) ?_
            refine v_iload_n dX9_takeOne_81 rfl ?_
            refine v_imul dX9_takeOne_82 ?_
            refine v_iload_n dX9_takeOne_83 rfl ?_
            refine v_iadd dX9_takeOne_84 ?_
            refine v_dup2 dX9_takeOne_85 (by intro z hz; cases hz) (by intro z hz; cases hz) ?_
            refine v_if (fun h25 => ?_)
            refine v_iaload h25 dX9_takeOne_86 ?_
            refine v_iconst dX9_takeOne_87 (by decide) ?_
            refine v_iadd dX9_takeOne_88 ?_
            refine v_if (fun h26 => ?_)
            refine v_iastore h26 dX9_takeOne_89 ?_
            refine v_bM (fun M27 e28 => ?_)
            refine v_aload_n dX9_takeOne_90 rfl ?_
            refine v_get (v := pA (M27.1 a0 4)) 8 4 rfl inX9 (by decide) tw326 dX9_takeOne_91 (by rw [e28, e24]; exact h3) rfl ?_
            refine v_iload_n dX9_takeOne_94 rfl ?_
            refine v_iload_n dX9_takeOne_95 rfl ?_
            refine v_iload_n dX9_takeOne_96 rfl ?_
            refine v_cS (mi := mX9_takeOne) (c0 := 0) (c1 := 0) (As := [pI a1, pI a2, pI a3]) (st := [pA (M27.1 a0 4)]) (kX10_cell_ d (by omega) _ _ _ _) okX10_cell_ (Or.inr nw17) tw766 rfl (Nat.le_of_ble_eq_true rfl) dX9_takeOne_97 (fun r29 => [pI r29, pA (M27.1 a0 4)]) (fun r29 => M27) (fun _ => rfl) (fun _ => rfl) (fun r29 h30 => ?_) rfl
            refine v_dup2 dX9_takeOne_100 (by intro z hz; cases hz) (by intro z hz; cases hz) ?_
            refine v_if (fun h31 => ?_)
            refine v_iaload h31 dX9_takeOne_101 ?_
            refine v_iconst dX9_takeOne_102 (by decide) ?_
            refine v_iadd dX9_takeOne_103 ?_
            refine v_if (fun h32 => ?_)
            refine v_iastore h32 dX9_takeOne_104 ?_
            refine v_bM (fun M33 e34 => ?_)
            refine v_aload_n dX9_takeOne_105 rfl ?_
            refine v_get (v := pA (M33.1 a0 6)) 8 6 rfl inX9 (by decide) tw331 dX9_takeOne_106 (by rw [e34, e28, e24]; exact h3) rfl ?_
            refine v_iload_n dX9_takeOne_109 rfl ?_
            refine v_dup2 dX9_takeOne_110 (by intro z hz; cases hz) (by intro z hz; cases hz) ?_
            refine v_if (fun h35 => ?_)
            refine v_iaload h35 dX9_takeOne_111 ?_
            refine v_iconst dX9_takeOne_112 (by decide) ?_
            refine v_iadd dX9_takeOne_113 ?_
            refine v_if (fun h36 => ?_)
            refine v_iastore h36 dX9_takeOne_114 ?_
            refine v_bM (fun M37 e38 => ?_)
            refine v_aload_n dX9_takeOne_115 rfl ?_
            refine v_get (v := pA (M37.1 a0 9)) 8 9 rfl inX9 (by decide) tw337 dX9_takeOne_116 (by rw [e38, e34, e28, e24]; exact h3) rfl ?_
            refine v_iload_n dX9_takeOne_119 rfl ?_
            refine v_dup2 dX9_takeOne_120 (by intro z hz; cases hz) (by intro z hz; cases hz) ?_
            refine v_if (fun h39 => ?_)
            refine v_iaload h39 dX9_takeOne_121 ?_
            refine v_iconst dX9_takeOne_122 (by decide) ?_
            refine v_iadd dX9_takeOne_123 ?_
            refine v_if (fun h40 => ?_)
            refine v_iastore h40 dX9_takeOne_124 ?_
            refine v_bM (fun M41 e42 => ?_)
            refine v_aload_n dX9_takeOne_125 rfl ?_
            refine v_get (v := pA (M41.1 a0 11)) 8 11 rfl inX9 (by decide) tw339 dX9_takeOne_126 (by rw [e42, e38, e34, e28, e24]; exact h3) rfl ?_
            refine v_iload_n dX9_takeOne_129 rfl ?_
            refine v_aload_n dX9_takeOne_130 rfl ?_
            refine v_get (v := pI (M41.1 a0 12)) 8 12 rfl inX9 (by decide) tw341 dX9_takeOne_131 (by rw [e42, e38, e34, e28, e24]; exact h3) rfl ?_
            refine v_if (fun h43 => ?_)
            refine v_iastore h43 dX9_takeOne_134 ?_
            refine v_bM (fun M44 e45 => ?_)
            refine v_aload_n dX9_takeOne_135 rfl ?_
            refine v_dup dX9_takeOne_136 (by intro z hz; cases hz) ?_
            refine v_get (v := pI (M44.1 a0 12)) 8 12 rfl inX9 (by decide) tw341 dX9_takeOne_137 (by rw [e45, e42, e38, e34, e28, e24]; exact h3) rfl ?_
            refine v_iconst dX9_takeOne_140 (by decide) ?_
            refine v_iadd dX9_takeOne_141 ?_
            refine v_put (x := w32 ((M44.1 a0 12) + 1)) 8 12 rfl inX9 (by decide) tw341 (Or.inl rfl) rfl dX9_takeOne_142 (by rw [e45, e42, e38, e34, e28, e24]; exact h3) rfl id ?_
            refine v_bM (fun M46 e47 => ?_)
            refine v_iconst dX9_takeOne_145 (by decide) ?_
            exact v_breturn dX9_takeOne_146 rfl (by decide) rfl
          · refine v_iconst dX9_takeOne_60 (by decide) ?_
            exact v_breturn dX9_takeOne_61 rfl (by decide) rfl
theorem chX9_takesGift_0 : (cX9_takesGift.data.toList.drop 0).take 16 = [28, 29, 184, 0, 130, 54, 4, 42, 180, 0, 58, 180, 0, 127, 21, 4] := by decide +kernel
theorem chX9_takesGift_1 : (cX9_takesGift.data.toList.drop 16).take 16 = [46, 42, 180, 0, 9, 21, 4, 46, 164, 0, 21, 42, 180, 0, 18, 27] := by decide +kernel
theorem chX9_takesGift_2 : (cX9_takesGift.data.toList.drop 32).take 16 = [28, 29, 184, 0, 136, 46, 154, 0, 7, 4, 167, 0, 4, 3, 172] := by decide +kernel
theorem dX9_takesGift_0 : decode cX9_takesGift 0 = .ok (.iload_n 2, 1) := oq_28 (byt chX9_takesGift_0 0 rfl)
theorem dX9_takesGift_1 : decode cX9_takesGift 1 = .ok (.iload_n 3, 1) := oq_29 (byt chX9_takesGift_0 1 rfl)
theorem dX9_takesGift_2 : decode cX9_takesGift 2 = .ok (.invokestatic 130, 3) := oq_184 (byt chX9_takesGift_0 2 rfl) (byt chX9_takesGift_0 3 rfl) (byt chX9_takesGift_0 4 rfl) rfl
theorem dX9_takesGift_5 : decode cX9_takesGift 5 = .ok (.istore 4, 2) := oq_54 (byt chX9_takesGift_0 5 rfl) (byt chX9_takesGift_0 6 rfl) rfl
theorem dX9_takesGift_7 : decode cX9_takesGift 7 = .ok (.aload_n 0, 1) := oq_42 (byt chX9_takesGift_0 7 rfl)
theorem dX9_takesGift_8 : decode cX9_takesGift 8 = .ok (.getfield 58, 3) := oq_180 (byt chX9_takesGift_0 8 rfl) (byt chX9_takesGift_0 9 rfl) (byt chX9_takesGift_0 10 rfl) rfl
theorem dX9_takesGift_11 : decode cX9_takesGift 11 = .ok (.getfield 127, 3) := oq_180 (byt chX9_takesGift_0 11 rfl) (byt chX9_takesGift_0 12 rfl) (byt chX9_takesGift_0 13 rfl) rfl
theorem dX9_takesGift_14 : decode cX9_takesGift 14 = .ok (.iload 4, 2) := oq_21 (byt chX9_takesGift_0 14 rfl) (byt chX9_takesGift_0 15 rfl) rfl
theorem dX9_takesGift_16 : decode cX9_takesGift 16 = .ok (.iaload, 1) := oq_46 (byt chX9_takesGift_1 0 rfl)
theorem dX9_takesGift_17 : decode cX9_takesGift 17 = .ok (.aload_n 0, 1) := oq_42 (byt chX9_takesGift_1 1 rfl)
theorem dX9_takesGift_18 : decode cX9_takesGift 18 = .ok (.getfield 9, 3) := oq_180 (byt chX9_takesGift_1 2 rfl) (byt chX9_takesGift_1 3 rfl) (byt chX9_takesGift_1 4 rfl) rfl
theorem dX9_takesGift_21 : decode cX9_takesGift 21 = .ok (.iload 4, 2) := oq_21 (byt chX9_takesGift_1 5 rfl) (byt chX9_takesGift_1 6 rfl) rfl
theorem dX9_takesGift_23 : decode cX9_takesGift 23 = .ok (.iaload, 1) := oq_46 (byt chX9_takesGift_1 7 rfl)
theorem dX9_takesGift_24 : decode cX9_takesGift 24 = .ok (.if_icmp .le 21, 3) := oq_164 (byt chX9_takesGift_1 8 rfl) (byt chX9_takesGift_1 9 rfl) (byt chX9_takesGift_1 10 rfl) (by decide +kernel)
theorem dX9_takesGift_27 : decode cX9_takesGift 27 = .ok (.aload_n 0, 1) := oq_42 (byt chX9_takesGift_1 11 rfl)
theorem dX9_takesGift_28 : decode cX9_takesGift 28 = .ok (.getfield 18, 3) := oq_180 (byt chX9_takesGift_1 12 rfl) (byt chX9_takesGift_1 13 rfl) (byt chX9_takesGift_1 14 rfl) rfl
theorem dX9_takesGift_31 : decode cX9_takesGift 31 = .ok (.iload_n 1, 1) := oq_27 (byt chX9_takesGift_1 15 rfl)
theorem dX9_takesGift_32 : decode cX9_takesGift 32 = .ok (.iload_n 2, 1) := oq_28 (byt chX9_takesGift_2 0 rfl)
theorem dX9_takesGift_33 : decode cX9_takesGift 33 = .ok (.iload_n 3, 1) := oq_29 (byt chX9_takesGift_2 1 rfl)
theorem dX9_takesGift_34 : decode cX9_takesGift 34 = .ok (.invokestatic 136, 3) := oq_184 (byt chX9_takesGift_2 2 rfl) (byt chX9_takesGift_2 3 rfl) (byt chX9_takesGift_2 4 rfl) rfl
theorem dX9_takesGift_37 : decode cX9_takesGift 37 = .ok (.iaload, 1) := oq_46 (byt chX9_takesGift_2 5 rfl)
theorem dX9_takesGift_38 : decode cX9_takesGift 38 = .ok (.ifCond .ne 7, 3) := oq_154 (byt chX9_takesGift_2 6 rfl) (byt chX9_takesGift_2 7 rfl) (byt chX9_takesGift_2 8 rfl) (by decide +kernel)
theorem dX9_takesGift_41 : decode cX9_takesGift 41 = .ok (.iconst 1, 1) := oq_4 (byt chX9_takesGift_2 9 rfl)
theorem dX9_takesGift_42 : decode cX9_takesGift 42 = .ok (.goto 4, 3) := oq_167 (byt chX9_takesGift_2 10 rfl) (byt chX9_takesGift_2 11 rfl) (byt chX9_takesGift_2 12 rfl) (by decide +kernel)
theorem dX9_takesGift_45 : decode cX9_takesGift 45 = .ok (.iconst 0, 1) := oq_3 (byt chX9_takesGift_2 13 rfl)
theorem dX9_takesGift_46 : decode cX9_takesGift 46 = .ok (.ireturn, 1) := oq_172 (byt chX9_takesGift_2 14 rfl)
abbrev mX9_takesGift : MI := (yX9_takesGift, cX9_takesGift, 5, (some .boolean), noE)
theorem okX9_takesGift : cok mX9_takesGift 3 := ⟨tw775, tw8, by decide, by decide, by decide, by decide +kernel⟩
def fX9_takesGift (M : Mem) (a0 a1 a2 a3 : Int) : Option Int :=
  (fX10_cell M a2 a3).bind fun r1 => if M.2.1 a0 = 8 then if M.2.1 (M.1 a0 0) = 7 then if M.2.1 (M.1 (M.1 a0 0) 3) = 12 ∧ (0 : Int) ≤ r1 ∧ r1 < M.2.2.1 (M.1 (M.1 a0 0) 3) then if M.2.1 (M.1 a0 2) = 12 ∧ (0 : Int) ≤ r1 ∧ r1 < M.2.2.1 (M.1 a0 2) then if M.1 (M.1 a0 2) r1 < M.1 (M.1 (M.1 a0 0) 3) r1 then ((fX10_cell_ M a1 a2 a3).bind fun r8 => if M.2.1 (M.1 a0 4) = 12 ∧ (0 : Int) ≤ r8 ∧ r8 < M.2.2.1 (M.1 a0 4) then if M.1 (M.1 a0 4) r8 = 0 then (some 1) else (some 0) else none) else (some 0) else none else none else none else none
set_option maxRecDepth 100000 in
set_option maxHeartbeats 4000000 in
theorem kX9_takesGift (d : Nat) (hd : 1 ≤ d) (M : Mem) (a0 a1 a2 a3 : Int) : Ct mX9_takesGift d 0 0 [pA a0, pI a1, pI a2, pI a3] M (dI M) (fX9_takesGift M a0 a1 a2 a3) := by
  obtain ⟨d, rfl⟩ : ∃ k, d = k + 1 := ⟨d - 1, by omega⟩
  refine Ct.of 1 (fun _ _ _ => trivial) (by decide +kernel) rfl ?_
  unfold fX9_takesGift
  refine v_iload_n dX9_takesGift_0 rfl ?_
  refine v_iload_n dX9_takesGift_1 rfl ?_
  refine v_cS (mi := mX9_takesGift) (c0 := 0) (c1 := 0) (As := [pI a2, pI a3]) (st := []) (kX10_cell d (by omega) _ _ _) okX10_cell (Or.inr nw16) tw621 rfl (Nat.le_of_ble_eq_true rfl) dX9_takesGift_2 (fun r1 => [pI r1]) (fun r1 => M) (fun _ => rfl) (fun _ => rfl) (fun r1 h2 => ?_) rfl
  refine v_istore (ls' := [some (pA a0), some (pI a1), some (pI a2), some (pI a3), some (pI r1)]) dX9_takesGift_5 (by decide) rfl ?_
  refine v_aload_n dX9_takesGift_7 rfl ?_
  refine v_if (fun h3 => ?_)
  refine v_get (v := pA (M.1 a0 0)) 8 0 rfl inX9 (by decide) tw315 dX9_takesGift_8 h3 rfl ?_
  refine v_if (fun h4 => ?_)
  refine v_get (v := pA (M.1 (M.1 a0 0) 3)) 7 3 rfl inX7 (by decide) tw73 dX9_takesGift_11 h4 rfl ?_
  refine v_iload dX9_takesGift_14 rfl ?_
  refine v_if (fun h5 => ?_)
  refine v_iaload h5 dX9_takesGift_16 ?_
  refine v_aload_n dX9_takesGift_17 rfl ?_
  refine v_get (v := pA (M.1 a0 2)) 8 2 rfl inX9 (by decide) tw320 dX9_takesGift_18 h3 rfl ?_
  refine v_iload dX9_takesGift_21 rfl ?_
  refine v_if (fun h6 => ?_)
  refine v_iaload h6 dX9_takesGift_23 ?_
  refine v_icmp_le (tgt := 45) dX9_takesGift_24 (by decide) (fun c7 => ?_) (fun c7 => ?_)
  · refine v_aload_n dX9_takesGift_27 rfl ?_
    refine v_get (v := pA (M.1 a0 4)) 8 4 rfl inX9 (by decide) tw326 dX9_takesGift_28 h3 rfl ?_
    refine v_iload_n dX9_takesGift_31 rfl ?_
    refine v_iload_n dX9_takesGift_32 rfl ?_
    refine v_iload_n dX9_takesGift_33 rfl ?_
    refine v_cS (mi := mX9_takesGift) (c0 := 0) (c1 := 0) (As := [pI a1, pI a2, pI a3]) (st := [pA (M.1 a0 4)]) (kX10_cell_ d (by omega) _ _ _ _) okX10_cell_ (Or.inr nw17) tw766 rfl (Nat.le_of_ble_eq_true rfl) dX9_takesGift_34 (fun r8 => [pI r8, pA (M.1 a0 4)]) (fun r8 => M) (fun _ => rfl) (fun _ => rfl) (fun r8 h9 => ?_) rfl
    refine v_if (fun h10 => ?_)
    refine v_iaload h10 dX9_takesGift_37 ?_
    refine v_if_ne (tgt := 45) dX9_takesGift_38 (by decide) (fun c11 => ?_) (fun c11 => ?_)
    · refine v_iconst dX9_takesGift_41 (by decide) ?_
      refine v_goto (tgt := 46) dX9_takesGift_42 (by decide) ?_
      exact v_breturn dX9_takesGift_46 rfl (by decide) rfl
    · refine v_iconst dX9_takesGift_45 (by decide) ?_
      exact v_breturn dX9_takesGift_46 rfl (by decide) rfl
  · refine v_iconst dX9_takesGift_45 (by decide) ?_
    exact v_breturn dX9_takesGift_46 rfl (by decide) rfl
theorem chX9_giveOne_0 : (cX9_giveOne.data.toList.drop 0).take 16 = [42, 27, 182, 0, 139, 153, 0, 21, 42, 180, 0, 58, 28, 182, 0, 142] := by decide +kernel
theorem chX9_giveOne_1 : (cX9_giveOne.data.toList.drop 16).take 16 = [153, 0, 10, 29, 184, 0, 145, 154, 0, 5, 3, 172, 42, 180, 0, 15] := by decide +kernel
theorem chX9_giveOne_2 : (cX9_giveOne.data.toList.drop 32).take 16 = [8, 27, 104, 29, 96, 46, 4, 161, 0, 13, 42, 27, 28, 29, 182, 0] := by decide +kernel
theorem chX9_giveOne_3 : (cX9_giveOne.data.toList.drop 48).take 16 = [151, 154, 0, 5, 3, 172, 42, 180, 0, 15, 8, 27, 104, 29, 96, 92] := by decide +kernel
theorem chX9_giveOne_4 : (cX9_giveOne.data.toList.drop 64).take 16 = [46, 4, 100, 79, 42, 180, 0, 9, 28, 29, 184, 0, 130, 92, 46, 4] := by decide +kernel
theorem chX9_giveOne_5 : (cX9_giveOne.data.toList.drop 80).take 16 = [96, 79, 42, 180, 0, 21, 27, 28, 29, 184, 0, 136, 92, 46, 4, 96] := by decide +kernel
theorem chX9_giveOne_6 : (cX9_giveOne.data.toList.drop 96).take 16 = [79, 42, 180, 0, 27, 27, 92, 46, 42, 180, 0, 62, 42, 180, 0, 49] := by decide +kernel
theorem chX9_giveOne_7 : (cX9_giveOne.data.toList.drop 112).take 16 = [182, 0, 154, 96, 79, 42, 180, 0, 36, 27, 92, 46, 42, 180, 0, 58] := by decide +kernel
theorem chX9_giveOne_8 : (cX9_giveOne.data.toList.drop 128).take 16 = [180, 0, 157, 28, 46, 96, 79, 4, 172] := by decide +kernel
theorem dX9_giveOne_0 : decode cX9_giveOne 0 = .ok (.aload_n 0, 1) := oq_42 (byt chX9_giveOne_0 0 rfl)
theorem dX9_giveOne_1 : decode cX9_giveOne 1 = .ok (.iload_n 1, 1) := oq_27 (byt chX9_giveOne_0 1 rfl)
theorem dX9_giveOne_2 : decode cX9_giveOne 2 = .ok (.invokevirtual 139, 3) := oq_182 (byt chX9_giveOne_0 2 rfl) (byt chX9_giveOne_0 3 rfl) (byt chX9_giveOne_0 4 rfl) rfl
theorem dX9_giveOne_5 : decode cX9_giveOne 5 = .ok (.ifCond .eq 21, 3) := oq_153 (byt chX9_giveOne_0 5 rfl) (byt chX9_giveOne_0 6 rfl) (byt chX9_giveOne_0 7 rfl) (by decide +kernel)
theorem dX9_giveOne_8 : decode cX9_giveOne 8 = .ok (.aload_n 0, 1) := oq_42 (byt chX9_giveOne_0 8 rfl)
theorem dX9_giveOne_9 : decode cX9_giveOne 9 = .ok (.getfield 58, 3) := oq_180 (byt chX9_giveOne_0 9 rfl) (byt chX9_giveOne_0 10 rfl) (byt chX9_giveOne_0 11 rfl) rfl
theorem dX9_giveOne_12 : decode cX9_giveOne 12 = .ok (.iload_n 2, 1) := oq_28 (byt chX9_giveOne_0 12 rfl)
theorem dX9_giveOne_13 : decode cX9_giveOne 13 = .ok (.invokevirtual 142, 3) := oq_182 (byt chX9_giveOne_0 13 rfl) (byt chX9_giveOne_0 14 rfl) (byt chX9_giveOne_0 15 rfl) rfl
theorem dX9_giveOne_16 : decode cX9_giveOne 16 = .ok (.ifCond .eq 10, 3) := oq_153 (byt chX9_giveOne_1 0 rfl) (byt chX9_giveOne_1 1 rfl) (byt chX9_giveOne_1 2 rfl) (by decide +kernel)
theorem dX9_giveOne_19 : decode cX9_giveOne 19 = .ok (.iload_n 3, 1) := oq_29 (byt chX9_giveOne_1 3 rfl)
theorem dX9_giveOne_20 : decode cX9_giveOne 20 = .ok (.invokestatic 145, 3) := oq_184 (byt chX9_giveOne_1 4 rfl) (byt chX9_giveOne_1 5 rfl) (byt chX9_giveOne_1 6 rfl) rfl
theorem dX9_giveOne_23 : decode cX9_giveOne 23 = .ok (.ifCond .ne 5, 3) := oq_154 (byt chX9_giveOne_1 7 rfl) (byt chX9_giveOne_1 8 rfl) (byt chX9_giveOne_1 9 rfl) (by decide +kernel)
theorem dX9_giveOne_26 : decode cX9_giveOne 26 = .ok (.iconst 0, 1) := oq_3 (byt chX9_giveOne_1 10 rfl)
theorem dX9_giveOne_27 : decode cX9_giveOne 27 = .ok (.ireturn, 1) := oq_172 (byt chX9_giveOne_1 11 rfl)
theorem dX9_giveOne_28 : decode cX9_giveOne 28 = .ok (.aload_n 0, 1) := oq_42 (byt chX9_giveOne_1 12 rfl)
theorem dX9_giveOne_29 : decode cX9_giveOne 29 = .ok (.getfield 15, 3) := oq_180 (byt chX9_giveOne_1 13 rfl) (byt chX9_giveOne_1 14 rfl) (byt chX9_giveOne_1 15 rfl) rfl
theorem dX9_giveOne_32 : decode cX9_giveOne 32 = .ok (.iconst 5, 1) := oq_8 (byt chX9_giveOne_2 0 rfl)
theorem dX9_giveOne_33 : decode cX9_giveOne 33 = .ok (.iload_n 1, 1) := oq_27 (byt chX9_giveOne_2 1 rfl)
theorem dX9_giveOne_34 : decode cX9_giveOne 34 = .ok (.imul, 1) := oq_104 (byt chX9_giveOne_2 2 rfl)
theorem dX9_giveOne_35 : decode cX9_giveOne 35 = .ok (.iload_n 3, 1) := oq_29 (byt chX9_giveOne_2 3 rfl)
theorem dX9_giveOne_36 : decode cX9_giveOne 36 = .ok (.iadd, 1) := oq_96 (byt chX9_giveOne_2 4 rfl)
theorem dX9_giveOne_37 : decode cX9_giveOne 37 = .ok (.iaload, 1) := oq_46 (byt chX9_giveOne_2 5 rfl)
theorem dX9_giveOne_38 : decode cX9_giveOne 38 = .ok (.iconst 1, 1) := oq_4 (byt chX9_giveOne_2 6 rfl)
theorem dX9_giveOne_39 : decode cX9_giveOne 39 = .ok (.if_icmp .lt 13, 3) := oq_161 (byt chX9_giveOne_2 7 rfl) (byt chX9_giveOne_2 8 rfl) (byt chX9_giveOne_2 9 rfl) (by decide +kernel)
theorem dX9_giveOne_42 : decode cX9_giveOne 42 = .ok (.aload_n 0, 1) := oq_42 (byt chX9_giveOne_2 10 rfl)
theorem dX9_giveOne_43 : decode cX9_giveOne 43 = .ok (.iload_n 1, 1) := oq_27 (byt chX9_giveOne_2 11 rfl)
theorem dX9_giveOne_44 : decode cX9_giveOne 44 = .ok (.iload_n 2, 1) := oq_28 (byt chX9_giveOne_2 12 rfl)
theorem dX9_giveOne_45 : decode cX9_giveOne 45 = .ok (.iload_n 3, 1) := oq_29 (byt chX9_giveOne_2 13 rfl)
theorem dX9_giveOne_46 : decode cX9_giveOne 46 = .ok (.invokevirtual 151, 3) := oq_182 (byt chX9_giveOne_2 14 rfl) (byt chX9_giveOne_2 15 rfl) (byt chX9_giveOne_3 0 rfl) rfl
theorem dX9_giveOne_49 : decode cX9_giveOne 49 = .ok (.ifCond .ne 5, 3) := oq_154 (byt chX9_giveOne_3 1 rfl) (byt chX9_giveOne_3 2 rfl) (byt chX9_giveOne_3 3 rfl) (by decide +kernel)
theorem dX9_giveOne_52 : decode cX9_giveOne 52 = .ok (.iconst 0, 1) := oq_3 (byt chX9_giveOne_3 4 rfl)
theorem dX9_giveOne_53 : decode cX9_giveOne 53 = .ok (.ireturn, 1) := oq_172 (byt chX9_giveOne_3 5 rfl)
theorem dX9_giveOne_54 : decode cX9_giveOne 54 = .ok (.aload_n 0, 1) := oq_42 (byt chX9_giveOne_3 6 rfl)
theorem dX9_giveOne_55 : decode cX9_giveOne 55 = .ok (.getfield 15, 3) := oq_180 (byt chX9_giveOne_3 7 rfl) (byt chX9_giveOne_3 8 rfl) (byt chX9_giveOne_3 9 rfl) rfl
theorem dX9_giveOne_58 : decode cX9_giveOne 58 = .ok (.iconst 5, 1) := oq_8 (byt chX9_giveOne_3 10 rfl)
theorem dX9_giveOne_59 : decode cX9_giveOne 59 = .ok (.iload_n 1, 1) := oq_27 (byt chX9_giveOne_3 11 rfl)
theorem dX9_giveOne_60 : decode cX9_giveOne 60 = .ok (.imul, 1) := oq_104 (byt chX9_giveOne_3 12 rfl)
theorem dX9_giveOne_61 : decode cX9_giveOne 61 = .ok (.iload_n 3, 1) := oq_29 (byt chX9_giveOne_3 13 rfl)
theorem dX9_giveOne_62 : decode cX9_giveOne 62 = .ok (.iadd, 1) := oq_96 (byt chX9_giveOne_3 14 rfl)
theorem dX9_giveOne_63 : decode cX9_giveOne 63 = .ok (.dup2, 1) := oq_92 (byt chX9_giveOne_3 15 rfl)
theorem dX9_giveOne_64 : decode cX9_giveOne 64 = .ok (.iaload, 1) := oq_46 (byt chX9_giveOne_4 0 rfl)
theorem dX9_giveOne_65 : decode cX9_giveOne 65 = .ok (.iconst 1, 1) := oq_4 (byt chX9_giveOne_4 1 rfl)
theorem dX9_giveOne_66 : decode cX9_giveOne 66 = .ok (.isub, 1) := oq_100 (byt chX9_giveOne_4 2 rfl)
theorem dX9_giveOne_67 : decode cX9_giveOne 67 = .ok (.iastore, 1) := oq_79 (byt chX9_giveOne_4 3 rfl)
theorem dX9_giveOne_68 : decode cX9_giveOne 68 = .ok (.aload_n 0, 1) := oq_42 (byt chX9_giveOne_4 4 rfl)
theorem dX9_giveOne_69 : decode cX9_giveOne 69 = .ok (.getfield 9, 3) := oq_180 (byt chX9_giveOne_4 5 rfl) (byt chX9_giveOne_4 6 rfl) (byt chX9_giveOne_4 7 rfl) rfl
theorem dX9_giveOne_72 : decode cX9_giveOne 72 = .ok (.iload_n 2, 1) := oq_28 (byt chX9_giveOne_4 8 rfl)
theorem dX9_giveOne_73 : decode cX9_giveOne 73 = .ok (.iload_n 3, 1) := oq_29 (byt chX9_giveOne_4 9 rfl)
theorem dX9_giveOne_74 : decode cX9_giveOne 74 = .ok (.invokestatic 130, 3) := oq_184 (byt chX9_giveOne_4 10 rfl) (byt chX9_giveOne_4 11 rfl) (byt chX9_giveOne_4 12 rfl) rfl
theorem dX9_giveOne_77 : decode cX9_giveOne 77 = .ok (.dup2, 1) := oq_92 (byt chX9_giveOne_4 13 rfl)
theorem dX9_giveOne_78 : decode cX9_giveOne 78 = .ok (.iaload, 1) := oq_46 (byt chX9_giveOne_4 14 rfl)
theorem dX9_giveOne_79 : decode cX9_giveOne 79 = .ok (.iconst 1, 1) := oq_4 (byt chX9_giveOne_4 15 rfl)
theorem dX9_giveOne_80 : decode cX9_giveOne 80 = .ok (.iadd, 1) := oq_96 (byt chX9_giveOne_5 0 rfl)
theorem dX9_giveOne_81 : decode cX9_giveOne 81 = .ok (.iastore, 1) := oq_79 (byt chX9_giveOne_5 1 rfl)
theorem dX9_giveOne_82 : decode cX9_giveOne 82 = .ok (.aload_n 0, 1) := oq_42 (byt chX9_giveOne_5 2 rfl)
theorem dX9_giveOne_83 : decode cX9_giveOne 83 = .ok (.getfield 21, 3) := oq_180 (byt chX9_giveOne_5 3 rfl) (byt chX9_giveOne_5 4 rfl) (byt chX9_giveOne_5 5 rfl) rfl
theorem dX9_giveOne_86 : decode cX9_giveOne 86 = .ok (.iload_n 1, 1) := oq_27 (byt chX9_giveOne_5 6 rfl)
theorem dX9_giveOne_87 : decode cX9_giveOne 87 = .ok (.iload_n 2, 1) := oq_28 (byt chX9_giveOne_5 7 rfl)
theorem dX9_giveOne_88 : decode cX9_giveOne 88 = .ok (.iload_n 3, 1) := oq_29 (byt chX9_giveOne_5 8 rfl)
theorem dX9_giveOne_89 : decode cX9_giveOne 89 = .ok (.invokestatic 136, 3) := oq_184 (byt chX9_giveOne_5 9 rfl) (byt chX9_giveOne_5 10 rfl) (byt chX9_giveOne_5 11 rfl) rfl
theorem dX9_giveOne_92 : decode cX9_giveOne 92 = .ok (.dup2, 1) := oq_92 (byt chX9_giveOne_5 12 rfl)
theorem dX9_giveOne_93 : decode cX9_giveOne 93 = .ok (.iaload, 1) := oq_46 (byt chX9_giveOne_5 13 rfl)
theorem dX9_giveOne_94 : decode cX9_giveOne 94 = .ok (.iconst 1, 1) := oq_4 (byt chX9_giveOne_5 14 rfl)
theorem dX9_giveOne_95 : decode cX9_giveOne 95 = .ok (.iadd, 1) := oq_96 (byt chX9_giveOne_5 15 rfl)
theorem dX9_giveOne_96 : decode cX9_giveOne 96 = .ok (.iastore, 1) := oq_79 (byt chX9_giveOne_6 0 rfl)
theorem dX9_giveOne_97 : decode cX9_giveOne 97 = .ok (.aload_n 0, 1) := oq_42 (byt chX9_giveOne_6 1 rfl)
theorem dX9_giveOne_98 : decode cX9_giveOne 98 = .ok (.getfield 27, 3) := oq_180 (byt chX9_giveOne_6 2 rfl) (byt chX9_giveOne_6 3 rfl) (byt chX9_giveOne_6 4 rfl) rfl
theorem dX9_giveOne_101 : decode cX9_giveOne 101 = .ok (.iload_n 1, 1) := oq_27 (byt chX9_giveOne_6 5 rfl)
theorem dX9_giveOne_102 : decode cX9_giveOne 102 = .ok (.dup2, 1) := oq_92 (byt chX9_giveOne_6 6 rfl)
theorem dX9_giveOne_103 : decode cX9_giveOne 103 = .ok (.iaload, 1) := oq_46 (byt chX9_giveOne_6 7 rfl)
theorem dX9_giveOne_104 : decode cX9_giveOne 104 = .ok (.aload_n 0, 1) := oq_42 (byt chX9_giveOne_6 8 rfl)
theorem dX9_giveOne_105 : decode cX9_giveOne 105 = .ok (.getfield 62, 3) := oq_180 (byt chX9_giveOne_6 9 rfl) (byt chX9_giveOne_6 10 rfl) (byt chX9_giveOne_6 11 rfl) rfl
theorem dX9_giveOne_108 : decode cX9_giveOne 108 = .ok (.aload_n 0, 1) := oq_42 (byt chX9_giveOne_6 12 rfl)
theorem dX9_giveOne_109 : decode cX9_giveOne 109 = .ok (.getfield 49, 3) := oq_180 (byt chX9_giveOne_6 13 rfl) (byt chX9_giveOne_6 14 rfl) (byt chX9_giveOne_6 15 rfl) rfl
theorem dX9_giveOne_112 : decode cX9_giveOne 112 = .ok (.invokevirtual 154, 3) := oq_182 (byt chX9_giveOne_7 0 rfl) (byt chX9_giveOne_7 1 rfl) (byt chX9_giveOne_7 2 rfl) rfl
theorem dX9_giveOne_115 : decode cX9_giveOne 115 = .ok (.iadd, 1) := oq_96 (byt chX9_giveOne_7 3 rfl)
theorem dX9_giveOne_116 : decode cX9_giveOne 116 = .ok (.iastore, 1) := oq_79 (byt chX9_giveOne_7 4 rfl)
theorem dX9_giveOne_117 : decode cX9_giveOne 117 = .ok (.aload_n 0, 1) := oq_42 (byt chX9_giveOne_7 5 rfl)
theorem dX9_giveOne_118 : decode cX9_giveOne 118 = .ok (.getfield 36, 3) := oq_180 (byt chX9_giveOne_7 6 rfl) (byt chX9_giveOne_7 7 rfl) (byt chX9_giveOne_7 8 rfl) rfl
theorem dX9_giveOne_121 : decode cX9_giveOne 121 = .ok (.iload_n 1, 1) := oq_27 (byt chX9_giveOne_7 9 rfl)
theorem dX9_giveOne_122 : decode cX9_giveOne 122 = .ok (.dup2, 1) := oq_92 (byt chX9_giveOne_7 10 rfl)
theorem dX9_giveOne_123 : decode cX9_giveOne 123 = .ok (.iaload, 1) := oq_46 (byt chX9_giveOne_7 11 rfl)
theorem dX9_giveOne_124 : decode cX9_giveOne 124 = .ok (.aload_n 0, 1) := oq_42 (byt chX9_giveOne_7 12 rfl)
theorem dX9_giveOne_125 : decode cX9_giveOne 125 = .ok (.getfield 58, 3) := oq_180 (byt chX9_giveOne_7 13 rfl) (byt chX9_giveOne_7 14 rfl) (byt chX9_giveOne_7 15 rfl) rfl
theorem dX9_giveOne_128 : decode cX9_giveOne 128 = .ok (.getfield 157, 3) := oq_180 (byt chX9_giveOne_8 0 rfl) (byt chX9_giveOne_8 1 rfl) (byt chX9_giveOne_8 2 rfl) rfl
theorem dX9_giveOne_131 : decode cX9_giveOne 131 = .ok (.iload_n 2, 1) := oq_28 (byt chX9_giveOne_8 3 rfl)
theorem dX9_giveOne_132 : decode cX9_giveOne 132 = .ok (.iaload, 1) := oq_46 (byt chX9_giveOne_8 4 rfl)
theorem dX9_giveOne_133 : decode cX9_giveOne 133 = .ok (.iadd, 1) := oq_96 (byt chX9_giveOne_8 5 rfl)
theorem dX9_giveOne_134 : decode cX9_giveOne 134 = .ok (.iastore, 1) := oq_79 (byt chX9_giveOne_8 6 rfl)
theorem dX9_giveOne_135 : decode cX9_giveOne 135 = .ok (.iconst 1, 1) := oq_4 (byt chX9_giveOne_8 7 rfl)
theorem dX9_giveOne_136 : decode cX9_giveOne 136 = .ok (.ireturn, 1) := oq_172 (byt chX9_giveOne_8 8 rfl)
abbrev mX9_giveOne : MI := (yX9_giveOne, cX9_giveOne, 4, (some .boolean), noE)
theorem okX9_giveOne : cok mX9_giveOne 3 := ⟨tw771, tw8, by decide, by decide, by decide, by decide +kernel⟩
def fX9_giveOne (M : Mem) (a0 a1 a2 a3 : Int) : Option (Int × Mem) :=
  if M.2.1 a0 = 8 then (fX9_isFree M a0 a1).bind fun r1 => if r1 = 0 then (some (0, M)) else (if M.2.1 (M.1 a0 0) = 7 then (fX7_isHouse M (M.1 a0 0) a2).bind fun r5 => if r5 = 0 then (some (0, M)) else ((fX10_isGood M a3).bind fun r9 => if r9 = 0 then (some (0, M)) else (if M.2.1 (M.1 a0 3) = 12 ∧ (0 : Int) ≤ (w32 ((w32 (5 * a1)) + a3)) ∧ (w32 ((w32 (5 * a1)) + a3)) < M.2.2.1 (M.1 a0 3) then if M.1 (M.1 a0 3) (w32 ((w32 (5 * a1)) + a3)) < 1 then (some (0, M)) else ((fX9_takesGift M a0 a1 a2 a3).bind fun r14 => if r14 = 0 then (some (0, M)) else (if M.2.1 (M.1 a0 3) = 12 ∧ (0 : Int) ≤ (w32 ((w32 (5 * a1)) + a3)) ∧ (w32 ((w32 (5 * a1)) + a3)) < M.2.2.1 (M.1 a0 3) then if M.2.1 (M.1 a0 3) = 12 ∧ (0 : Int) ≤ (w32 ((w32 (5 * a1)) + a3)) ∧ (w32 ((w32 (5 * a1)) + a3)) < M.2.2.1 (M.1 a0 3) then bM (mst M (M.1 a0 3) (w32 ((w32 (5 * a1)) + a3)) (w32 ((M.1 (M.1 a0 3) (w32 ((w32 (5 * a1)) + a3))) - 1))) fun M19 => (fX10_cell M19 a2 a3).bind fun r21 => if M19.2.1 (M19.1 a0 2) = 12 ∧ (0 : Int) ≤ r21 ∧ r21 < M19.2.2.1 (M19.1 a0 2) then if M19.2.1 (M19.1 a0 2) = 12 ∧ (0 : Int) ≤ r21 ∧ r21 < M19.2.2.1 (M19.1 a0 2) then bM (mst M19 (M19.1 a0 2) r21 (w32 ((M19.1 (M19.1 a0 2) r21) + 1))) fun M25 => (fX10_cell_ M25 a1 a2 a3).bind fun r27 => if M25.2.1 (M25.1 a0 5) = 12 ∧ (0 : Int) ≤ r27 ∧ r27 < M25.2.2.1 (M25.1 a0 5) then if M25.2.1 (M25.1 a0 5) = 12 ∧ (0 : Int) ≤ r27 ∧ r27 < M25.2.2.1 (M25.1 a0 5) then bM (mst M25 (M25.1 a0 5) r27 (w32 ((M25.1 (M25.1 a0 5) r27) + 1))) fun M31 => if M31.2.1 (M31.1 a0 7) = 12 ∧ (0 : Int) ≤ a1 ∧ a1 < M31.2.2.1 (M31.1 a0 7) then if M31.2.1 (M31.1 a0 1) = 0 then (fX0_counts M31 (M31.1 a0 1) (M31.1 a0 14)).bind fun r34 => if M31.2.1 (M31.1 a0 7) = 12 ∧ (0 : Int) ≤ a1 ∧ a1 < M31.2.2.1 (M31.1 a0 7) then bM (mst M31 (M31.1 a0 7) a1 (w32 ((M31.1 (M31.1 a0 7) a1) + r34))) fun M38 => if M38.2.1 (M38.1 a0 10) = 12 ∧ (0 : Int) ≤ a1 ∧ a1 < M38.2.2.1 (M38.1 a0 10) then if M38.2.1 (M38.1 a0 0) = 7 then if M38.2.1 (M38.1 (M38.1 a0 0) 4) = 12 ∧ (0 : Int) ≤ a2 ∧ a2 < M38.2.2.1 (M38.1 (M38.1 a0 0) 4) then if M38.2.1 (M38.1 a0 10) = 12 ∧ (0 : Int) ≤ a1 ∧ a1 < M38.2.2.1 (M38.1 a0 10) then bM (mst M38 (M38.1 a0 10) a1 (w32 ((M38.1 (M38.1 a0 10) a1) + (M38.1 (M38.1 (M38.1 a0 0) 4) a2)))) fun M44 => some (1, M44) else none else none else none else none else none else none else none else none else none else none else none else none else none)) else none)) else none) else none
set_option maxRecDepth 100000 in
set_option maxHeartbeats 4000000 in
theorem kX9_giveOne (d : Nat) (hd : 2 ≤ d) (M : Mem) (a0 a1 a2 a3 : Int) : Ct mX9_giveOne d 0 0 [pA a0, pI a1, pI a2, pI a3] M dIM (fX9_giveOne M a0 a1 a2 a3) := by
  obtain ⟨d, rfl⟩ : ∃ k, d = k + 1 := ⟨d - 1, by omega⟩
  refine Ct.of 0 (fun _ _ _ => trivial) (by decide +kernel) rfl ?_
  unfold fX9_giveOne
  refine v_aload_n dX9_giveOne_0 rfl ?_
  refine v_iload_n dX9_giveOne_1 rfl ?_
  refine v_if (fun h3 => ?_)
  refine v_cV (mi := mX9_giveOne) (c0 := 0) (c1 := 0) (As := [pI a1]) (st := []) (kX9_isFree d (by omega) _ _ _) rfl h3 rfl okX9_isFree (Or.inl tw757) tw758 tw759 rfl (Nat.le_of_ble_eq_true rfl) dX9_giveOne_2 (fun r1 => [pI r1]) (fun r1 => M) (fun _ => rfl) (fun _ => rfl) (fun r1 h2 => ?_) rfl
  refine v_if_eq (tgt := 26) dX9_giveOne_5 (by decide) (fun c4 => ?_) (fun c4 => ?_)
  · refine v_iconst dX9_giveOne_26 (by decide) ?_
    exact v_breturn dX9_giveOne_27 rfl (by decide) rfl
  · refine v_aload_n dX9_giveOne_8 rfl ?_
    refine v_get (v := pA (M.1 a0 0)) 8 0 rfl inX9 (by decide) tw315 dX9_giveOne_9 h3 rfl ?_
    refine v_iload_n dX9_giveOne_12 rfl ?_
    refine v_if (fun h7 => ?_)
    refine v_cV (mi := mX9_giveOne) (c0 := 0) (c1 := 0) (As := [pI a2]) (st := []) (kX7_isHouse d (by omega) _ _ _) rfl h7 rfl okX7_isHouse (Or.inl tw762) tw685 tw686 rfl (Nat.le_of_ble_eq_true rfl) dX9_giveOne_13 (fun r5 => [pI r5]) (fun r5 => M) (fun _ => rfl) (fun _ => rfl) (fun r5 h6 => ?_) rfl
    refine v_if_eq (tgt := 26) dX9_giveOne_16 (by decide) (fun c8 => ?_) (fun c8 => ?_)
    · refine v_iconst dX9_giveOne_26 (by decide) ?_
      exact v_breturn dX9_giveOne_27 rfl (by decide) rfl
    · refine v_iload_n dX9_giveOne_19 rfl ?_
      refine v_cS (mi := mX9_giveOne) (c0 := 0) (c1 := 0) (As := [pI a3]) (st := []) (kX10_isGood d (by omega) _ _) okX10_isGood (Or.inr nw15) tw689 rfl (Nat.le_of_ble_eq_true rfl) dX9_giveOne_20 (fun r9 => [pI r9]) (fun r9 => M) (fun _ => rfl) (fun _ => rfl) (fun r9 h10 => ?_) rfl
      refine v_if_ne (tgt := 28) dX9_giveOne_23 (by decide) (fun c11 => ?_) (fun c11 => ?_)
      · refine v_iconst dX9_giveOne_26 (by decide) ?_
        exact v_breturn dX9_giveOne_27 rfl (by decide) rfl
      · refine v_aload_n dX9_giveOne_28 rfl ?_
        refine v_get (v := pA (M.1 a0 3)) 8 3 rfl inX9 (by decide) tw323 dX9_giveOne_29 h3 rfl ?_
        refine v_iconst dX9_giveOne_32 (by decide) ?_
        refine v_iload_n dX9_giveOne_33 rfl ?_
        refine v_imul dX9_giveOne_34 ?_
        refine v_iload_n dX9_giveOne_35 rfl ?_
        refine v_iadd dX9_giveOne_36 ?_
        refine v_if (fun h12 => ?_)
        refine v_iaload h12 dX9_giveOne_37 ?_
        refine v_iconst dX9_giveOne_38 (by decide) ?_
        refine v_icmp_lt (tgt := 52) dX9_giveOne_39 (by decide) (fun c13 => ?_) (fun c13 => ?_)
        · refine v_iconst dX9_giveOne_52 (by decide) ?_
          exact v_breturn dX9_giveOne_53 rfl (by decide) rfl
        · refine v_aload_n dX9_giveOne_42 rfl ?_
          refine v_iload_n dX9_giveOne_43 rfl ?_
          refine v_iload_n dX9_giveOne_44 rfl ?_
          refine v_iload_n dX9_giveOne_45 rfl ?_
          refine v_cV (mi := mX9_giveOne) (c0 := 0) (c1 := 0) (As := [pI a1, pI a2, pI a3]) (st := []) (kX9_takesGift d (by omega) _ _ _ _ _) rfl h3 rfl okX9_takesGift (Or.inl tw772) tw773 tw774 rfl (Nat.le_of_ble_eq_true rfl) dX9_giveOne_46 (fun r14 => [pI r14]) (fun r14 => M) (fun _ => rfl) (fun _ => rfl) (fun r14 h15 => ?_) rfl
          refine v_if_ne (tgt := 54) dX9_giveOne_49 (by decide) (fun c16 => ?_) (fun c16 => ?_)
          · refine v_iconst dX9_giveOne_52 (by decide) ?_
            exact v_breturn dX9_giveOne_53 rfl (by decide) rfl
          · refine v_aload_n dX9_giveOne_54 rfl ?_
            refine v_get (v := pA (M.1 a0 3)) 8 3 rfl inX9 (by decide) tw323 dX9_giveOne_55 h3 rfl ?_
            refine v_iconst dX9_giveOne_58 (by decide) ?_
            refine v_iload_n dX9_giveOne_59 rfl ?_
            refine v_imul dX9_giveOne_60 ?_
            refine v_iload_n dX9_giveOne_61 rfl ?_
            refine v_iadd dX9_giveOne_62 ?_
            refine v_dup2 dX9_giveOne_63 (by intro z hz; cases hz) (by intro z hz; cases hz) ?_
            refine v_if (fun h17 => ?_)
            refine v_iaload h17 dX9_giveOne_64 ?_
            refine v_iconst dX9_giveOne_65 (by decide) ?_
            refine v_isub dX9_giveOne_66 ?_
            refine v_if (fun h18 => ?_)
            refine v_iastore h18 dX9_giveOne_67 ?_
            refine v_bM (fun M19 e20 => ?_)
            refine v_aload_n dX9_giveOne_68 rfl ?_
            refine v_get (v := pA (M19.1 a0 2)) 8 2 rfl inX9 (by decide) tw320 dX9_giveOne_69 (by rw [e20]; exact h3) rfl ?_
            refine v_iload_n dX9_giveOne_72 rfl ?_
            refine v_iload_n dX9_giveOne_73 rfl ?_
            refine v_cS (mi := mX9_giveOne) (c0 := 0) (c1 := 0) (As := [pI a2, pI a3]) (st := [pA (M19.1 a0 2)]) (kX10_cell d (by omega) _ _ _) okX10_cell (Or.inr nw16) tw621 rfl (Nat.le_of_ble_eq_true rfl) dX9_giveOne_74 (fun r21 => [pI r21, pA (M19.1 a0 2)]) (fun r21 => M19) (fun _ => rfl) (fun _ => rfl) (fun r21 h22 => ?_) rfl
            refine v_dup2 dX9_giveOne_77 (by intro z hz; cases hz) (by intro z hz; cases hz) ?_
            refine v_if (fun h23 => ?_)
            refine v_iaload h23 dX9_giveOne_78 ?_
            refine v_iconst dX9_giveOne_79 (by decide) ?_
            refine v_iadd dX9_giveOne_80 ?_
            refine v_if (fun h24 => ?_)
            refine v_iastore h24 dX9_giveOne_81 ?_
            refine v_bM (fun M25 e26 => ?_)
            refine v_aload_n dX9_giveOne_82 rfl ?_
            refine v_get (v := pA (M25.1 a0 5)) 8 5 rfl inX9 (by decide) tw329 dX9_giveOne_83 (by rw [e26, e20]; exact h3) rfl ?_
            refine v_iload_n dX9_giveOne_86 rfl ?_
            refine v_iload_n dX9_giveOne_87 rfl ?_
            refine v_iload_n dX9_giveOne_88 rfl ?_
            refine v_cS (mi := mX9_giveOne) (c0 := 0) (c1 := 0) (As := [pI a1, pI a2, pI a3]) (st := [pA (M25.1 a0 5)]) (kX10_cell_ d (by omega) _ _ _ _) okX10_cell_ (Or.inr nw17) tw766 rfl (Nat.le_of_ble_eq_true rfl) dX9_giveOne_89 (fun r27 => [pI r27, pA (M25.1 a0 5)]) (fun r27 => M25) (fun _ => rfl) (fun _ => rfl) (fun r27 h28 => ?_) rfl
            refine v_dup2 dX9_giveOne_92 (by intro z hz; cases hz) (by intro z hz; cases hz) ?_
            refine v_if (fun h29 => ?_)
            refine v_iaload h29 dX9_giveOne_93 ?_
            refine v_iconst dX9_giveOne_94 (by decide) ?_
            refine v_iadd dX9_giveOne_95 ?_
            refine v_if (fun h30 => ?_)
            refine v_iastore h30 dX9_giveOne_96 ?_
            refine v_bM (fun M31 e32 => ?_)
            refine v_aload_n dX9_giveOne_97 rfl ?_
            refine v_get (v := pA (M31.1 a0 7)) 8 7 rfl inX9 (by decide) tw333 dX9_giveOne_98 (by rw [e32, e26, e20]; exact h3) rfl ?_
            refine v_iload_n dX9_giveOne_101 rfl ?_
            refine v_dup2 dX9_giveOne_102 (by intro z hz; cases hz) (by intro z hz; cases hz) ?_
            refine v_if (fun h33 => ?_)
            refine v_iaload h33 dX9_giveOne_103 ?_
            refine v_aload_n dX9_giveOne_104 rfl ?_
            refine v_get (v := pA (M31.1 a0 1)) 8 1 rfl inX9 (by decide) tw318 dX9_giveOne_105 (by rw [e32, e26, e20]; exact h3) rfl ?_
            refine v_aload_n dX9_giveOne_108 rfl ?_
            refine v_get (v := pI (M31.1 a0 14)) 8 14 rfl inX9 (by decide) tw344 dX9_giveOne_109 (by rw [e32, e26, e20]; exact h3) rfl ?_
            refine v_if (fun h36 => ?_)
            refine v_cV (mi := mX9_giveOne) (c0 := 0) (c1 := 0) (As := [pI (M31.1 a0 14)]) (st := [pI (M31.1 (M31.1 a0 7) a1), pI a1, pA (M31.1 a0 7)]) (kX0_counts d (by omega) _ _ _) rfl h36 rfl okX0_counts (Or.inl tw776) tw719 tw720 rfl (Nat.le_of_ble_eq_true rfl) dX9_giveOne_112 (fun r34 => [pI r34, pI (M31.1 (M31.1 a0 7) a1), pI a1, pA (M31.1 a0 7)]) (fun r34 => M31) (fun _ => rfl) (fun _ => rfl) (fun r34 h35 => ?_) rfl
            refine v_iadd dX9_giveOne_115 ?_
            refine v_if (fun h37 => ?_)
            refine v_iastore h37 dX9_giveOne_116 ?_
            refine v_bM (fun M38 e39 => ?_)
            refine v_aload_n dX9_giveOne_117 rfl ?_
            refine v_get (v := pA (M38.1 a0 10)) 8 10 rfl inX9 (by decide) tw338 dX9_giveOne_118 (by rw [e39, e32, e26, e20]; exact h3) rfl ?_
            refine v_iload_n dX9_giveOne_121 rfl ?_
            refine v_dup2 dX9_giveOne_122 (by intro z hz; cases hz) (by intro z hz; cases hz) ?_
            refine v_if (fun h40 => ?_)
            refine v_iaload h40 dX9_giveOne_123 ?_
            refine v_aload_n dX9_giveOne_124 rfl ?_
            refine v_get (v := pA (M38.1 a0 0)) 8 0 rfl inX9 (by decide) tw315 dX9_giveOne_125 (by rw [e39, e32, e26, e20]; exact h3) rfl ?_
            refine v_if (fun h41 => ?_)
            refine v_get (v := pA (M38.1 (M38.1 a0 0) 4)) 7 4 rfl inX7 (by decide) tw79 dX9_giveOne_128 h41 rfl ?_
            refine v_iload_n dX9_giveOne_131 rfl ?_
            refine v_if (fun h42 => ?_)
            refine v_iaload h42 dX9_giveOne_132 ?_
            refine v_iadd dX9_giveOne_133 ?_
            refine v_if (fun h43 => ?_)
            refine v_iastore h43 dX9_giveOne_134 ?_
            refine v_bM (fun M44 e45 => ?_)
            refine v_iconst dX9_giveOne_135 (by decide) ?_
            exact v_breturn dX9_giveOne_136 rfl (by decide) rfl
theorem chX9_owesOf_0 : (cX9_owesOf.data.toList.drop 0).take 16 = [42, 180, 0, 62, 42, 180, 0, 24, 27, 46, 182, 0, 121, 42, 180, 0] := by decide +kernel
theorem chX9_owesOf_1 : (cX9_owesOf.data.toList.drop 16).take 16 = [27, 27, 46, 100, 172] := by decide +kernel
theorem dX9_owesOf_0 : decode cX9_owesOf 0 = .ok (.aload_n 0, 1) := oq_42 (byt chX9_owesOf_0 0 rfl)
theorem dX9_owesOf_1 : decode cX9_owesOf 1 = .ok (.getfield 62, 3) := oq_180 (byt chX9_owesOf_0 1 rfl) (byt chX9_owesOf_0 2 rfl) (byt chX9_owesOf_0 3 rfl) rfl
theorem dX9_owesOf_4 : decode cX9_owesOf 4 = .ok (.aload_n 0, 1) := oq_42 (byt chX9_owesOf_0 4 rfl)
theorem dX9_owesOf_5 : decode cX9_owesOf 5 = .ok (.getfield 24, 3) := oq_180 (byt chX9_owesOf_0 5 rfl) (byt chX9_owesOf_0 6 rfl) (byt chX9_owesOf_0 7 rfl) rfl
theorem dX9_owesOf_8 : decode cX9_owesOf 8 = .ok (.iload_n 1, 1) := oq_27 (byt chX9_owesOf_0 8 rfl)
theorem dX9_owesOf_9 : decode cX9_owesOf 9 = .ok (.iaload, 1) := oq_46 (byt chX9_owesOf_0 9 rfl)
theorem dX9_owesOf_10 : decode cX9_owesOf 10 = .ok (.invokevirtual 121, 3) := oq_182 (byt chX9_owesOf_0 10 rfl) (byt chX9_owesOf_0 11 rfl) (byt chX9_owesOf_0 12 rfl) rfl
theorem dX9_owesOf_13 : decode cX9_owesOf 13 = .ok (.aload_n 0, 1) := oq_42 (byt chX9_owesOf_0 13 rfl)
theorem dX9_owesOf_14 : decode cX9_owesOf 14 = .ok (.getfield 27, 3) := oq_180 (byt chX9_owesOf_0 14 rfl) (byt chX9_owesOf_0 15 rfl) (byt chX9_owesOf_1 0 rfl) rfl
theorem dX9_owesOf_17 : decode cX9_owesOf 17 = .ok (.iload_n 1, 1) := oq_27 (byt chX9_owesOf_1 1 rfl)
theorem dX9_owesOf_18 : decode cX9_owesOf 18 = .ok (.iaload, 1) := oq_46 (byt chX9_owesOf_1 2 rfl)
theorem dX9_owesOf_19 : decode cX9_owesOf 19 = .ok (.isub, 1) := oq_100 (byt chX9_owesOf_1 3 rfl)
theorem dX9_owesOf_20 : decode cX9_owesOf 20 = .ok (.ireturn, 1) := oq_172 (byt chX9_owesOf_1 4 rfl)
abbrev mX9_owesOf : MI := (yX9_owesOf, cX9_owesOf, 2, (some .int), noE)
theorem okX9_owesOf : cok mX9_owesOf 1 := ⟨tw788, tw8, by decide, by decide, by decide, by decide +kernel⟩
def fX9_owesOf (M : Mem) (a0 a1 : Int) : Option Int :=
  if M.2.1 a0 = 8 then if M.2.1 (M.1 a0 6) = 12 ∧ (0 : Int) ≤ a1 ∧ a1 < M.2.2.1 (M.1 a0 6) then if M.2.1 (M.1 a0 1) = 0 then (fX0_dueOf M (M.1 a0 1) (M.1 (M.1 a0 6) a1)).bind fun r3 => if M.2.1 (M.1 a0 7) = 12 ∧ (0 : Int) ≤ a1 ∧ a1 < M.2.2.1 (M.1 a0 7) then some (w32 (r3 - (M.1 (M.1 a0 7) a1))) else none else none else none else none
set_option maxRecDepth 100000 in
set_option maxHeartbeats 4000000 in
theorem kX9_owesOf (d : Nat) (hd : 1 ≤ d) (M : Mem) (a0 a1 : Int) : Ct mX9_owesOf d 0 0 [pA a0, pI a1] M (dI M) (fX9_owesOf M a0 a1) := by
  obtain ⟨d, rfl⟩ : ∃ k, d = k + 1 := ⟨d - 1, by omega⟩
  refine Ct.of 0 (fun _ _ _ => trivial) (by decide +kernel) rfl ?_
  unfold fX9_owesOf
  refine v_aload_n dX9_owesOf_0 rfl ?_
  refine v_if (fun h1 => ?_)
  refine v_get (v := pA (M.1 a0 1)) 8 1 rfl inX9 (by decide) tw318 dX9_owesOf_1 h1 rfl ?_
  refine v_aload_n dX9_owesOf_4 rfl ?_
  refine v_get (v := pA (M.1 a0 6)) 8 6 rfl inX9 (by decide) tw331 dX9_owesOf_5 h1 rfl ?_
  refine v_iload_n dX9_owesOf_8 rfl ?_
  refine v_if (fun h2 => ?_)
  refine v_iaload h2 dX9_owesOf_9 ?_
  refine v_if (fun h5 => ?_)
  refine v_cV (mi := mX9_owesOf) (c0 := 0) (c1 := 0) (As := [pI (M.1 (M.1 a0 6) a1)]) (st := []) (kX0_dueOf d (by omega) _ _ _) rfl h5 rfl okX0_dueOf (Or.inl tw789) tw790 tw791 rfl (Nat.le_of_ble_eq_true rfl) dX9_owesOf_10 (fun r3 => [pI r3]) (fun r3 => M) (fun _ => rfl) (fun _ => rfl) (fun r3 h4 => ?_) rfl
  refine v_aload_n dX9_owesOf_13 rfl ?_
  refine v_get (v := pA (M.1 a0 7)) 8 7 rfl inX9 (by decide) tw333 dX9_owesOf_14 h1 rfl ?_
  refine v_iload_n dX9_owesOf_17 rfl ?_
  refine v_if (fun h6 => ?_)
  refine v_iaload h6 dX9_owesOf_18 ?_
  refine v_isub dX9_owesOf_19 ?_
  exact v_ireturn dX9_owesOf_20 rfl rfl
theorem chX9_setOff_0 : (cX9_setOff.data.toList.drop 0).take 16 = [42, 27, 182, 0, 139, 153, 0, 28, 42, 28, 182, 0, 139, 153, 0, 20] := by decide +kernel
theorem chX9_setOff_1 : (cX9_setOff.data.toList.drop 16).take 16 = [27, 28, 159, 0, 15, 42, 180, 0, 58, 27, 28, 182, 0, 160, 153, 0] := by decide +kernel
theorem chX9_setOff_2 : (cX9_setOff.data.toList.drop 32).take 16 = [5, 3, 172, 29, 4, 161, 0, 22, 42, 27, 182, 0, 164, 29, 161, 0] := by decide +kernel
theorem chX9_setOff_3 : (cX9_setOff.data.toList.drop 48).take 16 = [13, 42, 28, 182, 0, 164, 116, 29, 162, 0, 5, 3, 172, 42, 180, 0] := by decide +kernel
theorem chX9_setOff_4 : (cX9_setOff.data.toList.drop 64).take 16 = [27, 27, 92, 46, 29, 96, 79, 42, 180, 0, 27, 28, 92, 46, 29, 100] := by decide +kernel
theorem chX9_setOff_5 : (cX9_setOff.data.toList.drop 80).take 16 = [79, 4, 172] := by decide +kernel
theorem dX9_setOff_0 : decode cX9_setOff 0 = .ok (.aload_n 0, 1) := oq_42 (byt chX9_setOff_0 0 rfl)
theorem dX9_setOff_1 : decode cX9_setOff 1 = .ok (.iload_n 1, 1) := oq_27 (byt chX9_setOff_0 1 rfl)
theorem dX9_setOff_2 : decode cX9_setOff 2 = .ok (.invokevirtual 139, 3) := oq_182 (byt chX9_setOff_0 2 rfl) (byt chX9_setOff_0 3 rfl) (byt chX9_setOff_0 4 rfl) rfl
theorem dX9_setOff_5 : decode cX9_setOff 5 = .ok (.ifCond .eq 28, 3) := oq_153 (byt chX9_setOff_0 5 rfl) (byt chX9_setOff_0 6 rfl) (byt chX9_setOff_0 7 rfl) (by decide +kernel)
theorem dX9_setOff_8 : decode cX9_setOff 8 = .ok (.aload_n 0, 1) := oq_42 (byt chX9_setOff_0 8 rfl)
theorem dX9_setOff_9 : decode cX9_setOff 9 = .ok (.iload_n 2, 1) := oq_28 (byt chX9_setOff_0 9 rfl)
theorem dX9_setOff_10 : decode cX9_setOff 10 = .ok (.invokevirtual 139, 3) := oq_182 (byt chX9_setOff_0 10 rfl) (byt chX9_setOff_0 11 rfl) (byt chX9_setOff_0 12 rfl) rfl
theorem dX9_setOff_13 : decode cX9_setOff 13 = .ok (.ifCond .eq 20, 3) := oq_153 (byt chX9_setOff_0 13 rfl) (byt chX9_setOff_0 14 rfl) (byt chX9_setOff_0 15 rfl) (by decide +kernel)
theorem dX9_setOff_16 : decode cX9_setOff 16 = .ok (.iload_n 1, 1) := oq_27 (byt chX9_setOff_1 0 rfl)
theorem dX9_setOff_17 : decode cX9_setOff 17 = .ok (.iload_n 2, 1) := oq_28 (byt chX9_setOff_1 1 rfl)
theorem dX9_setOff_18 : decode cX9_setOff 18 = .ok (.if_icmp .eq 15, 3) := oq_159 (byt chX9_setOff_1 2 rfl) (byt chX9_setOff_1 3 rfl) (byt chX9_setOff_1 4 rfl) (by decide +kernel)
theorem dX9_setOff_21 : decode cX9_setOff 21 = .ok (.aload_n 0, 1) := oq_42 (byt chX9_setOff_1 5 rfl)
theorem dX9_setOff_22 : decode cX9_setOff 22 = .ok (.getfield 58, 3) := oq_180 (byt chX9_setOff_1 6 rfl) (byt chX9_setOff_1 7 rfl) (byt chX9_setOff_1 8 rfl) rfl
theorem dX9_setOff_25 : decode cX9_setOff 25 = .ok (.iload_n 1, 1) := oq_27 (byt chX9_setOff_1 9 rfl)
theorem dX9_setOff_26 : decode cX9_setOff 26 = .ok (.iload_n 2, 1) := oq_28 (byt chX9_setOff_1 10 rfl)
theorem dX9_setOff_27 : decode cX9_setOff 27 = .ok (.invokevirtual 160, 3) := oq_182 (byt chX9_setOff_1 11 rfl) (byt chX9_setOff_1 12 rfl) (byt chX9_setOff_1 13 rfl) rfl
theorem dX9_setOff_30 : decode cX9_setOff 30 = .ok (.ifCond .eq 5, 3) := oq_153 (byt chX9_setOff_1 14 rfl) (byt chX9_setOff_1 15 rfl) (byt chX9_setOff_2 0 rfl) (by decide +kernel)
theorem dX9_setOff_33 : decode cX9_setOff 33 = .ok (.iconst 0, 1) := oq_3 (byt chX9_setOff_2 1 rfl)
theorem dX9_setOff_34 : decode cX9_setOff 34 = .ok (.ireturn, 1) := oq_172 (byt chX9_setOff_2 2 rfl)
theorem dX9_setOff_35 : decode cX9_setOff 35 = .ok (.iload_n 3, 1) := oq_29 (byt chX9_setOff_2 3 rfl)
theorem dX9_setOff_36 : decode cX9_setOff 36 = .ok (.iconst 1, 1) := oq_4 (byt chX9_setOff_2 4 rfl)
theorem dX9_setOff_37 : decode cX9_setOff 37 = .ok (.if_icmp .lt 22, 3) := oq_161 (byt chX9_setOff_2 5 rfl) (byt chX9_setOff_2 6 rfl) (byt chX9_setOff_2 7 rfl) (by decide +kernel)
theorem dX9_setOff_40 : decode cX9_setOff 40 = .ok (.aload_n 0, 1) := oq_42 (byt chX9_setOff_2 8 rfl)
theorem dX9_setOff_41 : decode cX9_setOff 41 = .ok (.iload_n 1, 1) := oq_27 (byt chX9_setOff_2 9 rfl)
theorem dX9_setOff_42 : decode cX9_setOff 42 = .ok (.invokevirtual 164, 3) := oq_182 (byt chX9_setOff_2 10 rfl) (byt chX9_setOff_2 11 rfl) (byt chX9_setOff_2 12 rfl) rfl
theorem dX9_setOff_45 : decode cX9_setOff 45 = .ok (.iload_n 3, 1) := oq_29 (byt chX9_setOff_2 13 rfl)
theorem dX9_setOff_46 : decode cX9_setOff 46 = .ok (.if_icmp .lt 13, 3) := oq_161 (byt chX9_setOff_2 14 rfl) (byt chX9_setOff_2 15 rfl) (byt chX9_setOff_3 0 rfl) (by decide +kernel)
theorem dX9_setOff_49 : decode cX9_setOff 49 = .ok (.aload_n 0, 1) := oq_42 (byt chX9_setOff_3 1 rfl)
theorem dX9_setOff_50 : decode cX9_setOff 50 = .ok (.iload_n 2, 1) := oq_28 (byt chX9_setOff_3 2 rfl)
theorem dX9_setOff_51 : decode cX9_setOff 51 = .ok (.invokevirtual 164, 3) := oq_182 (byt chX9_setOff_3 3 rfl) (byt chX9_setOff_3 4 rfl) (byt chX9_setOff_3 5 rfl) rfl
theorem dX9_setOff_54 : decode cX9_setOff 54 = .ok (.ineg, 1) := oq_116 (byt chX9_setOff_3 6 rfl)
theorem dX9_setOff_55 : decode cX9_setOff 55 = .ok (.iload_n 3, 1) := oq_29 (byt chX9_setOff_3 7 rfl)
theorem dX9_setOff_56 : decode cX9_setOff 56 = .ok (.if_icmp .ge 5, 3) := oq_162 (byt chX9_setOff_3 8 rfl) (byt chX9_setOff_3 9 rfl) (byt chX9_setOff_3 10 rfl) (by decide +kernel)
theorem dX9_setOff_59 : decode cX9_setOff 59 = .ok (.iconst 0, 1) := oq_3 (byt chX9_setOff_3 11 rfl)
theorem dX9_setOff_60 : decode cX9_setOff 60 = .ok (.ireturn, 1) := oq_172 (byt chX9_setOff_3 12 rfl)
theorem dX9_setOff_61 : decode cX9_setOff 61 = .ok (.aload_n 0, 1) := oq_42 (byt chX9_setOff_3 13 rfl)
theorem dX9_setOff_62 : decode cX9_setOff 62 = .ok (.getfield 27, 3) := oq_180 (byt chX9_setOff_3 14 rfl) (byt chX9_setOff_3 15 rfl) (byt chX9_setOff_4 0 rfl) rfl
theorem dX9_setOff_65 : decode cX9_setOff 65 = .ok (.iload_n 1, 1) := oq_27 (byt chX9_setOff_4 1 rfl)
theorem dX9_setOff_66 : decode cX9_setOff 66 = .ok (.dup2, 1) := oq_92 (byt chX9_setOff_4 2 rfl)
theorem dX9_setOff_67 : decode cX9_setOff 67 = .ok (.iaload, 1) := oq_46 (byt chX9_setOff_4 3 rfl)
theorem dX9_setOff_68 : decode cX9_setOff 68 = .ok (.iload_n 3, 1) := oq_29 (byt chX9_setOff_4 4 rfl)
theorem dX9_setOff_69 : decode cX9_setOff 69 = .ok (.iadd, 1) := oq_96 (byt chX9_setOff_4 5 rfl)
theorem dX9_setOff_70 : decode cX9_setOff 70 = .ok (.iastore, 1) := oq_79 (byt chX9_setOff_4 6 rfl)
theorem dX9_setOff_71 : decode cX9_setOff 71 = .ok (.aload_n 0, 1) := oq_42 (byt chX9_setOff_4 7 rfl)
theorem dX9_setOff_72 : decode cX9_setOff 72 = .ok (.getfield 27, 3) := oq_180 (byt chX9_setOff_4 8 rfl) (byt chX9_setOff_4 9 rfl) (byt chX9_setOff_4 10 rfl) rfl
theorem dX9_setOff_75 : decode cX9_setOff 75 = .ok (.iload_n 2, 1) := oq_28 (byt chX9_setOff_4 11 rfl)
theorem dX9_setOff_76 : decode cX9_setOff 76 = .ok (.dup2, 1) := oq_92 (byt chX9_setOff_4 12 rfl)
theorem dX9_setOff_77 : decode cX9_setOff 77 = .ok (.iaload, 1) := oq_46 (byt chX9_setOff_4 13 rfl)
theorem dX9_setOff_78 : decode cX9_setOff 78 = .ok (.iload_n 3, 1) := oq_29 (byt chX9_setOff_4 14 rfl)
theorem dX9_setOff_79 : decode cX9_setOff 79 = .ok (.isub, 1) := oq_100 (byt chX9_setOff_4 15 rfl)
theorem dX9_setOff_80 : decode cX9_setOff 80 = .ok (.iastore, 1) := oq_79 (byt chX9_setOff_5 0 rfl)
theorem dX9_setOff_81 : decode cX9_setOff 81 = .ok (.iconst 1, 1) := oq_4 (byt chX9_setOff_5 1 rfl)
theorem dX9_setOff_82 : decode cX9_setOff 82 = .ok (.ireturn, 1) := oq_172 (byt chX9_setOff_5 2 rfl)
abbrev mX9_setOff : MI := (yX9_setOff, cX9_setOff, 4, (some .boolean), noE)
theorem okX9_setOff : cok mX9_setOff 3 := ⟨tw780, tw8, by decide, by decide, by decide, by decide +kernel⟩
def fX9_setOff (M : Mem) (a0 a1 a2 a3 : Int) : Option (Int × Mem) :=
  if M.2.1 a0 = 8 then (fX9_isFree M a0 a1).bind fun r1 => if r1 = 0 then (some (0, M)) else ((fX9_isFree M a0 a2).bind fun r5 => if r5 = 0 then (some (0, M)) else (if a1 = a2 then (some (0, M)) else (if M.2.1 (M.1 a0 0) = 7 then (fX7_areKin M (M.1 a0 0) a1 a2).bind fun r9 => if r9 = 0 then (if a3 < 1 then (some (0, M)) else ((fX9_owesOf M a0 a1).bind fun r14 => if r14 < a3 then (some (0, M)) else ((fX9_owesOf M a0 a2).bind fun r17 => if w32 (-r17) < a3 then (some (0, M)) else (if M.2.1 (M.1 a0 7) = 12 ∧ (0 : Int) ≤ a1 ∧ a1 < M.2.2.1 (M.1 a0 7) then if M.2.1 (M.1 a0 7) = 12 ∧ (0 : Int) ≤ a1 ∧ a1 < M.2.2.1 (M.1 a0 7) then bM (mst M (M.1 a0 7) a1 (w32 ((M.1 (M.1 a0 7) a1) + a3))) fun M22 => if M22.2.1 (M22.1 a0 7) = 12 ∧ (0 : Int) ≤ a2 ∧ a2 < M22.2.2.1 (M22.1 a0 7) then if M22.2.1 (M22.1 a0 7) = 12 ∧ (0 : Int) ≤ a2 ∧ a2 < M22.2.2.1 (M22.1 a0 7) then bM (mst M22 (M22.1 a0 7) a2 (w32 ((M22.1 (M22.1 a0 7) a2) - a3))) fun M26 => some (1, M26) else none else none else none else none)))) else (some (0, M)) else none))) else none
set_option maxRecDepth 100000 in
set_option maxHeartbeats 4000000 in
theorem kX9_setOff (d : Nat) (hd : 2 ≤ d) (M : Mem) (a0 a1 a2 a3 : Int) : Ct mX9_setOff d 0 0 [pA a0, pI a1, pI a2, pI a3] M dIM (fX9_setOff M a0 a1 a2 a3) := by
  obtain ⟨d, rfl⟩ : ∃ k, d = k + 1 := ⟨d - 1, by omega⟩
  refine Ct.of 0 (fun _ _ _ => trivial) (by decide +kernel) rfl ?_
  unfold fX9_setOff
  refine v_aload_n dX9_setOff_0 rfl ?_
  refine v_iload_n dX9_setOff_1 rfl ?_
  refine v_if (fun h3 => ?_)
  refine v_cV (mi := mX9_setOff) (c0 := 0) (c1 := 0) (As := [pI a1]) (st := []) (kX9_isFree d (by omega) _ _ _) rfl h3 rfl okX9_isFree (Or.inl tw757) tw758 tw759 rfl (Nat.le_of_ble_eq_true rfl) dX9_setOff_2 (fun r1 => [pI r1]) (fun r1 => M) (fun _ => rfl) (fun _ => rfl) (fun r1 h2 => ?_) rfl
  refine v_if_eq (tgt := 33) dX9_setOff_5 (by decide) (fun c4 => ?_) (fun c4 => ?_)
  · refine v_iconst dX9_setOff_33 (by decide) ?_
    exact v_breturn dX9_setOff_34 rfl (by decide) rfl
  · refine v_aload_n dX9_setOff_8 rfl ?_
    refine v_iload_n dX9_setOff_9 rfl ?_
    refine v_cV (mi := mX9_setOff) (c0 := 0) (c1 := 0) (As := [pI a2]) (st := []) (kX9_isFree d (by omega) _ _ _) rfl h3 rfl okX9_isFree (Or.inl tw757) tw758 tw759 rfl (Nat.le_of_ble_eq_true rfl) dX9_setOff_10 (fun r5 => [pI r5]) (fun r5 => M) (fun _ => rfl) (fun _ => rfl) (fun r5 h6 => ?_) rfl
    refine v_if_eq (tgt := 33) dX9_setOff_13 (by decide) (fun c7 => ?_) (fun c7 => ?_)
    · refine v_iconst dX9_setOff_33 (by decide) ?_
      exact v_breturn dX9_setOff_34 rfl (by decide) rfl
    · refine v_iload_n dX9_setOff_16 rfl ?_
      refine v_iload_n dX9_setOff_17 rfl ?_
      refine v_icmp_eq (tgt := 33) dX9_setOff_18 (by decide) (fun c8 => ?_) (fun c8 => ?_)
      · refine v_iconst dX9_setOff_33 (by decide) ?_
        exact v_breturn dX9_setOff_34 rfl (by decide) rfl
      · refine v_aload_n dX9_setOff_21 rfl ?_
        refine v_get (v := pA (M.1 a0 0)) 8 0 rfl inX9 (by decide) tw315 dX9_setOff_22 h3 rfl ?_
        refine v_iload_n dX9_setOff_25 rfl ?_
        refine v_iload_n dX9_setOff_26 rfl ?_
        refine v_if (fun h11 => ?_)
        refine v_cV (mi := mX9_setOff) (c0 := 0) (c1 := 0) (As := [pI a1, pI a2]) (st := []) (kX7_areKin d (by omega) _ _ _ _) rfl h11 rfl okX7_areKin (Or.inl tw781) tw782 tw783 rfl (Nat.le_of_ble_eq_true rfl) dX9_setOff_27 (fun r9 => [pI r9]) (fun r9 => M) (fun _ => rfl) (fun _ => rfl) (fun r9 h10 => ?_) rfl
        refine v_if_eq (tgt := 35) dX9_setOff_30 (by decide) (fun c12 => ?_) (fun c12 => ?_)
        · refine v_iload_n dX9_setOff_35 rfl ?_
          refine v_iconst dX9_setOff_36 (by decide) ?_
          refine v_icmp_lt (tgt := 59) dX9_setOff_37 (by decide) (fun c13 => ?_) (fun c13 => ?_)
          · refine v_iconst dX9_setOff_59 (by decide) ?_
            exact v_breturn dX9_setOff_60 rfl (by decide) rfl
          · refine v_aload_n dX9_setOff_40 rfl ?_
            refine v_iload_n dX9_setOff_41 rfl ?_
            refine v_cV (mi := mX9_setOff) (c0 := 0) (c1 := 0) (As := [pI a1]) (st := []) (kX9_owesOf d (by omega) _ _ _) rfl h3 rfl okX9_owesOf (Or.inl tw785) tw786 tw787 rfl (Nat.le_of_ble_eq_true rfl) dX9_setOff_42 (fun r14 => [pI r14]) (fun r14 => M) (fun _ => rfl) (fun _ => rfl) (fun r14 h15 => ?_) rfl
            refine v_iload_n dX9_setOff_45 rfl ?_
            refine v_icmp_lt (tgt := 59) dX9_setOff_46 (by decide) (fun c16 => ?_) (fun c16 => ?_)
            · refine v_iconst dX9_setOff_59 (by decide) ?_
              exact v_breturn dX9_setOff_60 rfl (by decide) rfl
            · refine v_aload_n dX9_setOff_49 rfl ?_
              refine v_iload_n dX9_setOff_50 rfl ?_
              refine v_cV (mi := mX9_setOff) (c0 := 0) (c1 := 0) (As := [pI a2]) (st := []) (kX9_owesOf d (by omega) _ _ _) rfl h3 rfl okX9_owesOf (Or.inl tw785) tw786 tw787 rfl (Nat.le_of_ble_eq_true rfl) dX9_setOff_51 (fun r17 => [pI r17]) (fun r17 => M) (fun _ => rfl) (fun _ => rfl) (fun r17 h18 => ?_) rfl
              refine v_ineg dX9_setOff_54 ?_
              refine v_iload_n dX9_setOff_55 rfl ?_
              refine v_icmp_ge (tgt := 61) dX9_setOff_56 (by decide) (fun c19 => ?_) (fun c19 => ?_)
              · refine v_iconst dX9_setOff_59 (by decide) ?_
                exact v_breturn dX9_setOff_60 rfl (by decide) rfl
              · refine v_aload_n dX9_setOff_61 rfl ?_
                refine v_get (v := pA (M.1 a0 7)) 8 7 rfl inX9 (by decide) tw333 dX9_setOff_62 h3 rfl ?_
                refine v_iload_n dX9_setOff_65 rfl ?_
                refine v_dup2 dX9_setOff_66 (by intro z hz; cases hz) (by intro z hz; cases hz) ?_
                refine v_if (fun h20 => ?_)
                refine v_iaload h20 dX9_setOff_67 ?_
                refine v_iload_n dX9_setOff_68 rfl ?_
                refine v_iadd dX9_setOff_69 ?_
                refine v_if (fun h21 => ?_)
                refine v_iastore h21 dX9_setOff_70 ?_
                refine v_bM (fun M22 e23 => ?_)
                refine v_aload_n dX9_setOff_71 rfl ?_
                refine v_get (v := pA (M22.1 a0 7)) 8 7 rfl inX9 (by decide) tw333 dX9_setOff_72 (by rw [e23]; exact h3) rfl ?_
                refine v_iload_n dX9_setOff_75 rfl ?_
                refine v_dup2 dX9_setOff_76 (by intro z hz; cases hz) (by intro z hz; cases hz) ?_
                refine v_if (fun h24 => ?_)
                refine v_iaload h24 dX9_setOff_77 ?_
                refine v_iload_n dX9_setOff_78 rfl ?_
                refine v_isub dX9_setOff_79 ?_
                refine v_if (fun h25 => ?_)
                refine v_iastore h25 dX9_setOff_80 ?_
                refine v_bM (fun M26 e27 => ?_)
                refine v_iconst dX9_setOff_81 (by decide) ?_
                exact v_breturn dX9_setOff_82 rfl (by decide) rfl
        · refine v_iconst dX9_setOff_33 (by decide) ?_
          exact v_breturn dX9_setOff_34 rfl (by decide) rfl
theorem chX9_nightEnds_0 : (cX9_nightEnds.data.toList.drop 0).take 16 = [3, 60, 27, 42, 180, 0, 58, 180, 0, 167, 162, 0, 66, 42, 180, 0] := by decide +kernel
theorem chX9_nightEnds_1 : (cX9_nightEnds.data.toList.drop 16).take 16 = [30, 27, 92, 46, 42, 180, 0, 36, 27, 46, 96, 79, 42, 180, 0, 30] := by decide +kernel
theorem chX9_nightEnds_2 : (cX9_nightEnds.data.toList.drop 32).take 16 = [27, 46, 42, 180, 0, 62, 180, 0, 170, 161, 0, 15, 42, 89, 180, 0] := by decide +kernel
theorem chX9_nightEnds_3 : (cX9_nightEnds.data.toList.drop 48).take 16 = [46, 4, 27, 120, 128, 181, 0, 46, 42, 180, 0, 36, 27, 3, 79, 42] := by decide +kernel
theorem chX9_nightEnds_4 : (cX9_nightEnds.data.toList.drop 64).take 16 = [180, 0, 33, 27, 3, 79, 132, 1, 1, 167, 255, 185, 42, 89, 180, 0] := by decide +kernel
theorem chX9_nightEnds_5 : (cX9_nightEnds.data.toList.drop 80).take 16 = [49, 4, 96, 181, 0, 49, 177] := by decide +kernel
theorem dX9_nightEnds_0 : decode cX9_nightEnds 0 = .ok (.iconst 0, 1) := oq_3 (byt chX9_nightEnds_0 0 rfl)
theorem dX9_nightEnds_1 : decode cX9_nightEnds 1 = .ok (.istore_n 1, 1) := oq_60 (byt chX9_nightEnds_0 1 rfl)
theorem dX9_nightEnds_2 : decode cX9_nightEnds 2 = .ok (.iload_n 1, 1) := oq_27 (byt chX9_nightEnds_0 2 rfl)
theorem dX9_nightEnds_3 : decode cX9_nightEnds 3 = .ok (.aload_n 0, 1) := oq_42 (byt chX9_nightEnds_0 3 rfl)
theorem dX9_nightEnds_4 : decode cX9_nightEnds 4 = .ok (.getfield 58, 3) := oq_180 (byt chX9_nightEnds_0 4 rfl) (byt chX9_nightEnds_0 5 rfl) (byt chX9_nightEnds_0 6 rfl) rfl
theorem dX9_nightEnds_7 : decode cX9_nightEnds 7 = .ok (.getfield 167, 3) := oq_180 (byt chX9_nightEnds_0 7 rfl) (byt chX9_nightEnds_0 8 rfl) (byt chX9_nightEnds_0 9 rfl) rfl
theorem dX9_nightEnds_10 : decode cX9_nightEnds 10 = .ok (.if_icmp .ge 66, 3) := oq_162 (byt chX9_nightEnds_0 10 rfl) (byt chX9_nightEnds_0 11 rfl) (byt chX9_nightEnds_0 12 rfl) (by decide +kernel)
theorem dX9_nightEnds_13 : decode cX9_nightEnds 13 = .ok (.aload_n 0, 1) := oq_42 (byt chX9_nightEnds_0 13 rfl)
theorem dX9_nightEnds_14 : decode cX9_nightEnds 14 = .ok (.getfield 30, 3) := oq_180 (byt chX9_nightEnds_0 14 rfl) (byt chX9_nightEnds_0 15 rfl) (byt chX9_nightEnds_1 0 rfl) rfl
theorem dX9_nightEnds_17 : decode cX9_nightEnds 17 = .ok (.iload_n 1, 1) := oq_27 (byt chX9_nightEnds_1 1 rfl)
theorem dX9_nightEnds_18 : decode cX9_nightEnds 18 = .ok (.dup2, 1) := oq_92 (byt chX9_nightEnds_1 2 rfl)
theorem dX9_nightEnds_19 : decode cX9_nightEnds 19 = .ok (.iaload, 1) := oq_46 (byt chX9_nightEnds_1 3 rfl)
theorem dX9_nightEnds_20 : decode cX9_nightEnds 20 = .ok (.aload_n 0, 1) := oq_42 (byt chX9_nightEnds_1 4 rfl)
theorem dX9_nightEnds_21 : decode cX9_nightEnds 21 = .ok (.getfield 36, 3) := oq_180 (byt chX9_nightEnds_1 5 rfl) (byt chX9_nightEnds_1 6 rfl) (byt chX9_nightEnds_1 7 rfl) rfl
theorem dX9_nightEnds_24 : decode cX9_nightEnds 24 = .ok (.iload_n 1, 1) := oq_27 (byt chX9_nightEnds_1 8 rfl)
theorem dX9_nightEnds_25 : decode cX9_nightEnds 25 = .ok (.iaload, 1) := oq_46 (byt chX9_nightEnds_1 9 rfl)
theorem dX9_nightEnds_26 : decode cX9_nightEnds 26 = .ok (.iadd, 1) := oq_96 (byt chX9_nightEnds_1 10 rfl)
theorem dX9_nightEnds_27 : decode cX9_nightEnds 27 = .ok (.iastore, 1) := oq_79 (byt chX9_nightEnds_1 11 rfl)
theorem dX9_nightEnds_28 : decode cX9_nightEnds 28 = .ok (.aload_n 0, 1) := oq_42 (byt chX9_nightEnds_1 12 rfl)
theorem dX9_nightEnds_29 : decode cX9_nightEnds 29 = .ok (.getfield 30, 3) := oq_180 (byt chX9_nightEnds_1 13 rfl) (byt chX9_nightEnds_1 14 rfl) (byt chX9_nightEnds_1 15 rfl) rfl
theorem dX9_nightEnds_32 : decode cX9_nightEnds 32 = .ok (.iload_n 1, 1) := oq_27 (byt chX9_nightEnds_2 0 rfl)
theorem dX9_nightEnds_33 : decode cX9_nightEnds 33 = .ok (.iaload, 1) := oq_46 (byt chX9_nightEnds_2 1 rfl)
theorem dX9_nightEnds_34 : decode cX9_nightEnds 34 = .ok (.aload_n 0, 1) := oq_42 (byt chX9_nightEnds_2 2 rfl)
theorem dX9_nightEnds_35 : decode cX9_nightEnds 35 = .ok (.getfield 62, 3) := oq_180 (byt chX9_nightEnds_2 3 rfl) (byt chX9_nightEnds_2 4 rfl) (byt chX9_nightEnds_2 5 rfl) rfl
theorem dX9_nightEnds_38 : decode cX9_nightEnds 38 = .ok (.getfield 170, 3) := oq_180 (byt chX9_nightEnds_2 6 rfl) (byt chX9_nightEnds_2 7 rfl) (byt chX9_nightEnds_2 8 rfl) rfl
theorem dX9_nightEnds_41 : decode cX9_nightEnds 41 = .ok (.if_icmp .lt 15, 3) := oq_161 (byt chX9_nightEnds_2 9 rfl) (byt chX9_nightEnds_2 10 rfl) (byt chX9_nightEnds_2 11 rfl) (by decide +kernel)
theorem dX9_nightEnds_44 : decode cX9_nightEnds 44 = .ok (.aload_n 0, 1) := oq_42 (byt chX9_nightEnds_2 12 rfl)
theorem dX9_nightEnds_45 : decode cX9_nightEnds 45 = .ok (.dup, 1) := oq_89 (byt chX9_nightEnds_2 13 rfl)
theorem dX9_nightEnds_46 : decode cX9_nightEnds 46 = .ok (.getfield 46, 3) := oq_180 (byt chX9_nightEnds_2 14 rfl) (byt chX9_nightEnds_2 15 rfl) (byt chX9_nightEnds_3 0 rfl) rfl
theorem dX9_nightEnds_49 : decode cX9_nightEnds 49 = .ok (.iconst 1, 1) := oq_4 (byt chX9_nightEnds_3 1 rfl)
theorem dX9_nightEnds_50 : decode cX9_nightEnds 50 = .ok (.iload_n 1, 1) := oq_27 (byt chX9_nightEnds_3 2 rfl)
theorem dX9_nightEnds_51 : decode cX9_nightEnds 51 = .ok (.ishl, 1) := oq_120 (byt chX9_nightEnds_3 3 rfl)
theorem dX9_nightEnds_52 : decode cX9_nightEnds 52 = .ok (.ior, 1) := oq_128 (byt chX9_nightEnds_3 4 rfl)
theorem dX9_nightEnds_53 : decode cX9_nightEnds 53 = .ok (.putfield 46, 3) := oq_181 (byt chX9_nightEnds_3 5 rfl) (byt chX9_nightEnds_3 6 rfl) (byt chX9_nightEnds_3 7 rfl) rfl
theorem dX9_nightEnds_56 : decode cX9_nightEnds 56 = .ok (.aload_n 0, 1) := oq_42 (byt chX9_nightEnds_3 8 rfl)
theorem dX9_nightEnds_57 : decode cX9_nightEnds 57 = .ok (.getfield 36, 3) := oq_180 (byt chX9_nightEnds_3 9 rfl) (byt chX9_nightEnds_3 10 rfl) (byt chX9_nightEnds_3 11 rfl) rfl
theorem dX9_nightEnds_60 : decode cX9_nightEnds 60 = .ok (.iload_n 1, 1) := oq_27 (byt chX9_nightEnds_3 12 rfl)
theorem dX9_nightEnds_61 : decode cX9_nightEnds 61 = .ok (.iconst 0, 1) := oq_3 (byt chX9_nightEnds_3 13 rfl)
theorem dX9_nightEnds_62 : decode cX9_nightEnds 62 = .ok (.iastore, 1) := oq_79 (byt chX9_nightEnds_3 14 rfl)
theorem dX9_nightEnds_63 : decode cX9_nightEnds 63 = .ok (.aload_n 0, 1) := oq_42 (byt chX9_nightEnds_3 15 rfl)
theorem dX9_nightEnds_64 : decode cX9_nightEnds 64 = .ok (.getfield 33, 3) := oq_180 (byt chX9_nightEnds_4 0 rfl) (byt chX9_nightEnds_4 1 rfl) (byt chX9_nightEnds_4 2 rfl) rfl
theorem dX9_nightEnds_67 : decode cX9_nightEnds 67 = .ok (.iload_n 1, 1) := oq_27 (byt chX9_nightEnds_4 3 rfl)
theorem dX9_nightEnds_68 : decode cX9_nightEnds 68 = .ok (.iconst 0, 1) := oq_3 (byt chX9_nightEnds_4 4 rfl)
theorem dX9_nightEnds_69 : decode cX9_nightEnds 69 = .ok (.iastore, 1) := oq_79 (byt chX9_nightEnds_4 5 rfl)
theorem dX9_nightEnds_70 : decode cX9_nightEnds 70 = .ok (.iinc 1 1, 3) := oq_132 (byt chX9_nightEnds_4 6 rfl) (byt chX9_nightEnds_4 7 rfl) (byt chX9_nightEnds_4 8 rfl) rfl
theorem dX9_nightEnds_73 : decode cX9_nightEnds 73 = .ok (.goto (-71), 3) := oq_167 (byt chX9_nightEnds_4 9 rfl) (byt chX9_nightEnds_4 10 rfl) (byt chX9_nightEnds_4 11 rfl) (by decide +kernel)
theorem dX9_nightEnds_76 : decode cX9_nightEnds 76 = .ok (.aload_n 0, 1) := oq_42 (byt chX9_nightEnds_4 12 rfl)
theorem dX9_nightEnds_77 : decode cX9_nightEnds 77 = .ok (.dup, 1) := oq_89 (byt chX9_nightEnds_4 13 rfl)
theorem dX9_nightEnds_78 : decode cX9_nightEnds 78 = .ok (.getfield 49, 3) := oq_180 (byt chX9_nightEnds_4 14 rfl) (byt chX9_nightEnds_4 15 rfl) (byt chX9_nightEnds_5 0 rfl) rfl
theorem dX9_nightEnds_81 : decode cX9_nightEnds 81 = .ok (.iconst 1, 1) := oq_4 (byt chX9_nightEnds_5 1 rfl)
theorem dX9_nightEnds_82 : decode cX9_nightEnds 82 = .ok (.iadd, 1) := oq_96 (byt chX9_nightEnds_5 2 rfl)
theorem dX9_nightEnds_83 : decode cX9_nightEnds 83 = .ok (.putfield 49, 3) := oq_181 (byt chX9_nightEnds_5 3 rfl) (byt chX9_nightEnds_5 4 rfl) (byt chX9_nightEnds_5 5 rfl) rfl
theorem dX9_nightEnds_86 : decode cX9_nightEnds 86 = .ok (.return_, 1) := oq_177 (byt chX9_nightEnds_5 6 rfl)
abbrev mX9_nightEnds : MI := (yX9_nightEnds, cX9_nightEnds, 2, none, noE)
theorem okX9_nightEnds : cok mX9_nightEnds 0 := ⟨tw796, tw8, by decide, by decide, by decide, by decide +kernel⟩
def fX9_nightEnds (M : Mem) (a0 : Int) : Option Mem :=
  iterC (fun (rec1 : (Int × Mem) → Option Mem) (s2 : Int × Mem) => if s2.2.2.1 a0 = 8 then if s2.2.2.1 (s2.2.1 a0 0) = 7 then if s2.1 < s2.2.1 (s2.2.1 a0 0) 1 then (if s2.2.2.1 (s2.2.1 a0 8) = 12 ∧ (0 : Int) ≤ s2.1 ∧ s2.1 < s2.2.2.2.1 (s2.2.1 a0 8) then if s2.2.2.1 (s2.2.1 a0 10) = 12 ∧ (0 : Int) ≤ s2.1 ∧ s2.1 < s2.2.2.2.1 (s2.2.1 a0 10) then if s2.2.2.1 (s2.2.1 a0 8) = 12 ∧ (0 : Int) ≤ s2.1 ∧ s2.1 < s2.2.2.2.1 (s2.2.1 a0 8) then bM (mst s2.2 (s2.2.1 a0 8) s2.1 (w32 ((s2.2.1 (s2.2.1 a0 8) s2.1) + (s2.2.1 (s2.2.1 a0 10) s2.1)))) fun M9 => if M9.2.1 (M9.1 a0 8) = 12 ∧ (0 : Int) ≤ s2.1 ∧ s2.1 < M9.2.2.1 (M9.1 a0 8) then if M9.2.1 (M9.1 a0 1) = 0 then jn (fun (t14 : Mem) => if t14.2.1 a0 = 8 then if t14.2.1 (t14.1 a0 10) = 12 ∧ (0 : Int) ≤ s2.1 ∧ s2.1 < t14.2.2.1 (t14.1 a0 10) then bM (mst t14 (t14.1 a0 10) s2.1 0) fun M17 => if M17.2.1 (M17.1 a0 9) = 12 ∧ (0 : Int) ≤ s2.1 ∧ s2.1 < M17.2.2.1 (M17.1 a0 9) then bM (mst M17 (M17.1 a0 9) s2.1 0) fun M20 => rec1 (w32 (s2.1 + 1), M20) else none else none else none) (fun (j13 : Mem → Option Mem) => if M9.1 (M9.1 a0 8) s2.1 < M9.1 (M9.1 a0 1) 1 then (j13 M9) else (bM (mst M9 a0 13 (bOr (M9.1 a0 13) (bShl 1 s2.1))) fun M23 => j13 M23)) else none else none else none else none else none) else (bM (mst s2.2 a0 14 (w32 ((s2.2.1 a0 14) + 1))) fun M25 => some M25) else none else none) BIG (0, M)
set_option maxRecDepth 100000 in
set_option maxHeartbeats 4000000 in
theorem kX9_nightEnds (d : Nat) (hd : 0 ≤ d) (M : Mem) (a0 : Int) : Ct mX9_nightEnds d 0 0 [pA a0] M dV (fX9_nightEnds M a0) := by
  refine Ct.of 1 (fun _ _ _ => trivial) (by decide +kernel) rfl ?_
  unfold fX9_nightEnds
  refine v_iconst dX9_nightEnds_0 (by decide) ?_
  refine v_istore_n (ls' := [some (pA a0), some (pI 0)]) dX9_nightEnds_1 (by decide) rfl ?_
  refine v_loop (fun (s2 : Int × Mem) => [some (pA a0), some (pI s2.1)]) (fun (s2 : Int × Mem) => s2.2) (s0 := (0, M)) ?_
  intro rec1 hrec1 s2
  refine v_iload_n dX9_nightEnds_2 rfl ?_
  refine v_aload_n dX9_nightEnds_3 rfl ?_
  refine v_if (fun h3 => ?_)
  refine v_get (v := pA (s2.2.1 a0 0)) 8 0 rfl inX9 (by decide) tw315 dX9_nightEnds_4 h3 rfl ?_
  refine v_if (fun h4 => ?_)
  refine v_get (v := pI (s2.2.1 (s2.2.1 a0 0) 1)) 7 1 rfl inX7 (by decide) tw65 dX9_nightEnds_7 h4 rfl ?_
  refine v_icmp_ge (tgt := 76) dX9_nightEnds_10 (by decide) (fun c5 => ?_) (fun c5 => ?_)
  · refine v_aload_n dX9_nightEnds_13 rfl ?_
    refine v_get (v := pA (s2.2.1 a0 8)) 8 8 rfl inX9 (by decide) tw335 dX9_nightEnds_14 h3 rfl ?_
    refine v_iload_n dX9_nightEnds_17 rfl ?_
    refine v_dup2 dX9_nightEnds_18 (by intro z hz; cases hz) (by intro z hz; cases hz) ?_
    refine v_if (fun h6 => ?_)
    refine v_iaload h6 dX9_nightEnds_19 ?_
    refine v_aload_n dX9_nightEnds_20 rfl ?_
    refine v_get (v := pA (s2.2.1 a0 10)) 8 10 rfl inX9 (by decide) tw338 dX9_nightEnds_21 h3 rfl ?_
    refine v_iload_n dX9_nightEnds_24 rfl ?_
    refine v_if (fun h7 => ?_)
    refine v_iaload h7 dX9_nightEnds_25 ?_
    refine v_iadd dX9_nightEnds_26 ?_
    refine v_if (fun h8 => ?_)
    refine v_iastore h8 dX9_nightEnds_27 ?_
    refine v_bM (fun M9 e10 => ?_)
    refine v_aload_n dX9_nightEnds_28 rfl ?_
    refine v_get (v := pA (M9.1 a0 8)) 8 8 rfl inX9 (by decide) tw335 dX9_nightEnds_29 (by rw [e10]; exact h3) rfl ?_
    refine v_iload_n dX9_nightEnds_32 rfl ?_
    refine v_if (fun h11 => ?_)
    refine v_iaload h11 dX9_nightEnds_33 ?_
    refine v_aload_n dX9_nightEnds_34 rfl ?_
    refine v_get (v := pA (M9.1 a0 1)) 8 1 rfl inX9 (by decide) tw318 dX9_nightEnds_35 (by rw [e10]; exact h3) rfl ?_
    refine v_if (fun h12 => ?_)
    refine v_get (v := pI (M9.1 (M9.1 a0 1) 1)) 0 1 rfl inX0 (by decide) tw132 dX9_nightEnds_38 h12 rfl ?_
    refine v_join (fun (t14 : Mem) => [some (pA a0), some (pI s2.1)]) (fun (t14 : Mem) => []) (fun (t14 : Mem) => t14) 56 (fun t14 => ?_) (fun j13 hj13 => ?_)
    · refine v_aload_n dX9_nightEnds_56 rfl ?_
      refine v_if (fun h15 => ?_)
      refine v_get (v := pA (t14.1 a0 10)) 8 10 rfl inX9 (by decide) tw338 dX9_nightEnds_57 h15 rfl ?_
      refine v_iload_n dX9_nightEnds_60 rfl ?_
      refine v_iconst dX9_nightEnds_61 (by decide) ?_
      refine v_if (fun h16 => ?_)
      refine v_iastore h16 dX9_nightEnds_62 ?_
      refine v_bM (fun M17 e18 => ?_)
      refine v_aload_n dX9_nightEnds_63 rfl ?_
      refine v_get (v := pA (M17.1 a0 9)) 8 9 rfl inX9 (by decide) tw337 dX9_nightEnds_64 (by rw [e18]; exact h15) rfl ?_
      refine v_iload_n dX9_nightEnds_67 rfl ?_
      refine v_iconst dX9_nightEnds_68 (by decide) ?_
      refine v_if (fun h19 => ?_)
      refine v_iastore h19 dX9_nightEnds_69 ?_
      refine v_bM (fun M20 e21 => ?_)
      refine v_iinc (ls' := [some (pA a0), some (pI (w32 (s2.1 + 1)))]) dX9_nightEnds_70 (by decide) rfl rfl ?_
      refine v_goto (tgt := 2) dX9_nightEnds_73 (by decide) ?_
      exact hrec1 (w32 (s2.1 + 1), M20)
    · refine v_icmp_lt (tgt := 56) dX9_nightEnds_41 (by decide) (fun c22 => ?_) (fun c22 => ?_)
      · exact hj13 M9
      · refine v_aload_n dX9_nightEnds_44 rfl ?_
        refine v_dup dX9_nightEnds_45 (by intro z hz; cases hz) ?_
        refine v_get (v := pI (M9.1 a0 13)) 8 13 rfl inX9 (by decide) tw342 dX9_nightEnds_46 (by rw [e10]; exact h3) rfl ?_
        refine v_iconst dX9_nightEnds_49 (by decide) ?_
        refine v_iload_n dX9_nightEnds_50 rfl ?_
        refine v_ishl dX9_nightEnds_51 ?_
        refine v_ior dX9_nightEnds_52 ?_
        refine v_put (x := bOr (M9.1 a0 13) (bShl 1 s2.1)) 8 13 rfl inX9 (by decide) tw342 (Or.inl rfl) rfl dX9_nightEnds_53 (by rw [e10]; exact h3) rfl id ?_
        refine v_bM (fun M23 e24 => ?_)
        exact hj13 M23
  · refine v_aload_n dX9_nightEnds_76 rfl ?_
    refine v_dup dX9_nightEnds_77 (by intro z hz; cases hz) ?_
    refine v_get (v := pI (s2.2.1 a0 14)) 8 14 rfl inX9 (by decide) tw344 dX9_nightEnds_78 h3 rfl ?_
    refine v_iconst dX9_nightEnds_81 (by decide) ?_
    refine v_iadd dX9_nightEnds_82 ?_
    refine v_put (x := w32 ((s2.2.1 a0 14) + 1)) 8 14 rfl inX9 (by decide) tw344 (Or.inl rfl) rfl dX9_nightEnds_83 h3 rfl id ?_
    refine v_bM (fun M25 e26 => ?_)
    exact v_return dX9_nightEnds_86 rfl rfl
