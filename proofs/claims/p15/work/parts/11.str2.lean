section RulesS2
variable {ρ : Type} {mi : MI} {d b0 b1 bc bs pc : Nat} {ls ls' : List (Option PV)} {st : List PV} {M : Mem} {dec : ρ → Option PV × Mem} {X A B : Option ρ}
theorem v_dVS {ρ' : Type} {dec' : ρ' → Option PV × Mem} {X' : Option ρ'} {K : ρ' → Option ρ} {mi' : MI} {c0 c1 index n : Nat} {a : Int} {As : List PV} (i : Nat) (hi : i < 19) (hai : a = -6 - (i : Int)) (hC : Ct mi' d c0 c1 (pA a :: As) M dec' X') (hcls : mi'.1.cls = "java/lang/String") (ho : cok mi' n)
    (hlk : Cond.methodLink mi.1.cls index mi'.1 ∈ GT ∨ (mi.1.cls, index, mi'.1, "OneBack") ∈ NW) (him : Cond.instanceMethod mi'.1 ∈ GT) (hse : Cond.selects "java/lang/String" mi'.1 mi'.1 ∈ GT) (hn : As.length = n) (hst : wsz st ≤ 8) (hd : decode mi.2.1 pc = .ok (.invokevirtual index, 3))
    (k : ∀ r, X' = some r → V mi (d + 1) b0 b1 bc bs (pc + 3) ls ((dec' r).1.toList ++ st) (dec' r).2 dec (K r)) {st0 : List PV} (hs0 : st0 = As.reverse ++ pA a :: st) : V mi (d + 1) b0 b1 (bc + c0) (bs + c1) pc ls st0 M dec (X'.bind K) := by
  subst hs0
  refine v_callR hC (fun h => ⟨fun v hv => h v (by simp only [List.mem_append, List.mem_cons, List.mem_reverse] at hv ⊢; rcases hv with q | q <;> simp [q]), fun v hv => h v (by simp [hv])⟩) k (fun hM G b p l e s m args below meth c r Cc H locs cells slots lsA D mt => ?_)
  obtain ⟨o1, o2, o3, o4, o5, o6⟩ := ho
  have e0 : eR b G.2.2.2.1 a = .ref (G.2.2.2.1 (4 + i)) := eR_k (4 + i) (by omega)
  have hts := Cc.2.2.2.2.2.1
  have hA := Cc.2.2.2.2.2.2.2.2.1
  have hgood : GoodIn GT (.code mi'.1 mi'.2.1 mi'.2.2.1 mi'.2.2.2.1 :: GT) := gIn (fun w hw => (List.mem_cons.mp hw).elim (fun e => by rw [e]; exact o1) id)
  have hp : PreV s H "java/lang/String" (G.2.2.2.1 (4 + i)) (PcR G b (pA a :: As) M) (As.map (eV b G.2.2.2.1)) := ⟨pcR_blind, vk_recv (adK := fun i => G.2.2.2.1 (4 + i)) (i := i) hA.2.2.2.2.2.1 hi D.2.2.1, fun U hU hW => by
    have := pcR_at (As := pA a :: As) hA D U hU hW
    simp only [List.map_cons, eV] at this
    rw [e0] at this
    exact this⟩
  have e9 : ((pA a :: As).map (eV b G.2.2.2.1)).toArray = (Value.ref (G.2.2.2.1 (4 + i)) :: As.map (eV b G.2.2.2.1)).toArray := by simp only [List.map_cons, eV]; rw [e0]
  have e8 : (As.reverse ++ pA a :: st).map (eV b G.2.2.2.1) = (As.map (eV b G.2.2.2.1)).reverse ++ .ref (G.2.2.2.1 (4 + i)) :: st.map (eV b G.2.2.2.1) := by
    rw [List.map_append, List.map_reverse, List.map_cons]; simp only [eV]; rw [e0]
  have hR : (rmD d c0 c1).frames + 1 ≤ (rmD (d + 1) b0 b1).frames ∧ 8 + (mi'.2.2.1 + 11) + (rmD d c0 c1).locals ≤ (rmD (d + 1) b0 b1).locals := ⟨Nat.le_refl _, by show 8 + (mi'.2.2.1 + 11) + 64 * d ≤ 64 * (d + 1); omega⟩
  obtain ⟨D1, D2, D3, D4, D5, D6⟩ := id D
  rw [e9, e8]
  rcases hlk with hlk | hlk
  · refine va_runV (Ts := GT) (nL := mi.2.2.1) (n := n) ⟨Cc.1, Cc.2.1, Cc.2.2.2.1, Cc.2.2.2.2.1, hts⟩ mt (cwV n hts (C := "java/lang/String") (gIn (fun w hw => ?_)) rfl rfl rfl ⟨hcls, o4, o5, o6⟩ hR) hp rfl (by rw [List.length_map]; exact hn) D4.1 rfl (hW_of2 hst) hd ⟨by show cells + c0 ≤ b0; omega, by show slots + c1 ≤ b1; omega⟩
    unfold wsV at hw
    rcases List.mem_append.mp hw with h | h
    · simp only [List.mem_cons, List.not_mem_nil, or_false] at h
      rcases h with rfl | rfl | rfl | rfl
      · exact hlk
      · exact him
      · exact hse
      · rw [← hcls]; exact o2
    · exact (hgood w h).1
  · exact va_runVN (Ts := GT) (nL := mi.2.2.1) (n := n) (C := "java/lang/String") ⟨Cc.1, Cc.2.1, Cc.2.2.2.1, Cc.2.2.2.2.1, hts⟩ mt ⟨va_cnB n hts hgood rfl rfl rfl (hA.2.1 _ hlk) (hts _ o2) ⟨o4, o5, o6⟩ hR, hts _ him, hts _ hse⟩ hp rfl (by rw [List.length_map]; exact hn) D4.1 rfl (hW_of2 hst) hd ⟨by show cells + c0 ≤ b0; omega, by show slots + c1 ≤ b1; omega⟩
end RulesS2
theorem dJ0_coder_7d493_0 : decode cJ0_coder_7d493 0 = .ok (.getstatic 38, 3) := by decide +kernel
theorem dJ0_coder_7d493_3 : decode cJ0_coder_7d493 3 = .ok (.ifCond .eq 10, 3) := by decide +kernel
theorem dJ0_coder_7d493_6 : decode cJ0_coder_7d493 6 = .ok (.aload_n 0, 1) := by decide +kernel
theorem dJ0_coder_7d493_7 : decode cJ0_coder_7d493 7 = .ok (.getfield 15, 3) := by decide +kernel
theorem dJ0_coder_7d493_10 : decode cJ0_coder_7d493 10 = .ok (.goto 4, 3) := by decide +kernel
theorem dJ0_coder_7d493_13 : decode cJ0_coder_7d493 13 = .ok (.iconst 1, 1) := by decide +kernel
theorem dJ0_coder_7d493_14 : decode cJ0_coder_7d493 14 = .ok (.ireturn, 1) := by decide +kernel
abbrev mJ0_coder_7d493 : MI := (yJ0_coder_7d493, cJ0_coder_7d493, 1, (some .byte), noE)
theorem okJ0_coder_7d493 : cok mJ0_coder_7d493 0 := ⟨tw549, tw13, by decide, by decide, by decide, by decide +kernel⟩
theorem dJ0_length_8abf5_0 : decode cJ0_length_8abf5 0 = .ok (.aload_n 0, 1) := by decide +kernel
theorem dJ0_length_8abf5_1 : decode cJ0_length_8abf5 1 = .ok (.getfield 9, 3) := by decide +kernel
theorem dJ0_length_8abf5_4 : decode cJ0_length_8abf5 4 = .ok (.arraylength, 1) := by decide +kernel
theorem dJ0_length_8abf5_5 : decode cJ0_length_8abf5 5 = .ok (.aload_n 0, 1) := by decide +kernel
theorem dJ0_length_8abf5_6 : decode cJ0_length_8abf5 6 = .ok (.invokevirtual 335, 3) := by decide +kernel
theorem dJ0_length_8abf5_9 : decode cJ0_length_8abf5 9 = .ok (.ishr, 1) := by decide +kernel
theorem dJ0_length_8abf5_10 : decode cJ0_length_8abf5 10 = .ok (.ireturn, 1) := by decide +kernel
abbrev mJ0_length_8abf5 : MI := (yJ0_length_8abf5, cJ0_length_8abf5, 1, (some .int), noE)
theorem okJ0_length_8abf5 : cok mJ0_length_8abf5 0 := ⟨tw545, tw13, by decide, by decide, by decide, by decide +kernel⟩
theorem dJ0_isLatin1_aae02_0 : decode cJ0_isLatin1_aae02 0 = .ok (.getstatic 38, 3) := by decide +kernel
theorem dJ0_isLatin1_aae02_3 : decode cJ0_isLatin1_aae02 3 = .ok (.ifCond .eq 14, 3) := by decide +kernel
theorem dJ0_isLatin1_aae02_6 : decode cJ0_isLatin1_aae02 6 = .ok (.aload_n 0, 1) := by decide +kernel
theorem dJ0_isLatin1_aae02_7 : decode cJ0_isLatin1_aae02 7 = .ok (.getfield 15, 3) := by decide +kernel
theorem dJ0_isLatin1_aae02_10 : decode cJ0_isLatin1_aae02 10 = .ok (.ifCond .ne 7, 3) := by decide +kernel
theorem dJ0_isLatin1_aae02_13 : decode cJ0_isLatin1_aae02 13 = .ok (.iconst 1, 1) := by decide +kernel
theorem dJ0_isLatin1_aae02_14 : decode cJ0_isLatin1_aae02 14 = .ok (.goto 4, 3) := by decide +kernel
theorem dJ0_isLatin1_aae02_17 : decode cJ0_isLatin1_aae02 17 = .ok (.iconst 0, 1) := by decide +kernel
theorem dJ0_isLatin1_aae02_18 : decode cJ0_isLatin1_aae02 18 = .ok (.ireturn, 1) := by decide +kernel
abbrev mJ0_isLatin1_aae02 : MI := (yJ0_isLatin1_aae02, cJ0_isLatin1_aae02, 1, (some .boolean), noE)
theorem okJ0_isLatin1_aae02 : cok mJ0_isLatin1_aae02 0 := ⟨tw559, tw13, by decide, by decide, by decide, by decide +kernel⟩
theorem dJ3_checkIndex_8e157_0 : decode cJ3_checkIndex_8e157 0 = .ok (.iload_n 0, 1) := by decide +kernel
theorem dJ3_checkIndex_8e157_1 : decode cJ3_checkIndex_8e157 1 = .ok (.ifCond .lt 8, 3) := by decide +kernel
theorem dJ3_checkIndex_8e157_4 : decode cJ3_checkIndex_8e157 4 = .ok (.iload_n 0, 1) := by decide +kernel
theorem dJ3_checkIndex_8e157_5 : decode cJ3_checkIndex_8e157 5 = .ok (.iload_n 1, 1) := by decide +kernel
theorem dJ3_checkIndex_8e157_6 : decode cJ3_checkIndex_8e157 6 = .ok (.if_icmp .lt 10, 3) := by decide +kernel
theorem dJ3_checkIndex_8e157_9 : decode cJ3_checkIndex_8e157 9 = .ok (.aload_n 2, 1) := by decide +kernel
theorem dJ3_checkIndex_8e157_10 : decode cJ3_checkIndex_8e157 10 = .ok (.iload_n 0, 1) := by decide +kernel
theorem dJ3_checkIndex_8e157_11 : decode cJ3_checkIndex_8e157 11 = .ok (.iload_n 1, 1) := by decide +kernel
theorem dJ3_checkIndex_8e157_12 : decode cJ3_checkIndex_8e157 12 = .ok (.invokestatic 95, 3) := by decide +kernel
theorem dJ3_checkIndex_8e157_15 : decode cJ3_checkIndex_8e157 15 = .ok (.athrow, 1) := by decide +kernel
theorem dJ3_checkIndex_8e157_16 : decode cJ3_checkIndex_8e157 16 = .ok (.iload_n 0, 1) := by decide +kernel
theorem dJ3_checkIndex_8e157_17 : decode cJ3_checkIndex_8e157 17 = .ok (.ireturn, 1) := by decide +kernel
abbrev mJ3_checkIndex_8e157 : MI := (yJ3_checkIndex_8e157, cJ3_checkIndex_8e157, 3, (some .int), noE)
theorem okJ3_checkIndex_8e157 : cok mJ3_checkIndex_8e157 3 := ⟨tw570, tw15, by decide, by decide, by decide, by decide +kernel⟩
theorem dJ0_checkIndex_df160_0 : decode cJ0_checkIndex_df160 0 = .ok (.iload_n 0, 1) := by decide +kernel
theorem dJ0_checkIndex_df160_1 : decode cJ0_checkIndex_df160 1 = .ok (.iload_n 1, 1) := by decide +kernel
theorem dJ0_checkIndex_df160_2 : decode cJ0_checkIndex_df160 2 = .ok (.getstatic 1053, 3) := by decide +kernel
theorem dJ0_checkIndex_df160_5 : decode cJ0_checkIndex_df160 5 = .ok (.invokestatic 1059, 3) := by decide +kernel
theorem dJ0_checkIndex_df160_8 : decode cJ0_checkIndex_df160 8 = .ok (.pop, 1) := by decide +kernel
theorem dJ0_checkIndex_df160_9 : decode cJ0_checkIndex_df160 9 = .ok (.return_, 1) := by decide +kernel
abbrev mJ0_checkIndex_df160 : MI := (yJ0_checkIndex_df160, cJ0_checkIndex_df160, 2, none, noE)
theorem okJ0_checkIndex_df160 : cok mJ0_checkIndex_df160 2 := ⟨tw565, tw13, by decide, by decide, by decide, by decide +kernel⟩
theorem dJ1_charAt_3b067_0 : decode cJ1_charAt_3b067 0 = .ok (.iload_n 1, 1) := by decide +kernel
theorem dJ1_charAt_3b067_1 : decode cJ1_charAt_3b067 1 = .ok (.aload_n 0, 1) := by decide +kernel
theorem dJ1_charAt_3b067_2 : decode cJ1_charAt_3b067 2 = .ok (.arraylength, 1) := by decide +kernel
theorem dJ1_charAt_3b067_3 : decode cJ1_charAt_3b067 3 = .ok (.invokestatic 9, 3) := by decide +kernel
theorem dJ1_charAt_3b067_6 : decode cJ1_charAt_3b067 6 = .ok (.aload_n 0, 1) := by decide +kernel
theorem dJ1_charAt_3b067_7 : decode cJ1_charAt_3b067 7 = .ok (.iload_n 1, 1) := by decide +kernel
theorem dJ1_charAt_3b067_8 : decode cJ1_charAt_3b067 8 = .ok (.baload, 1) := by decide +kernel
theorem dJ1_charAt_3b067_9 : decode cJ1_charAt_3b067 9 = .ok (.sipush 255, 3) := by decide +kernel
theorem dJ1_charAt_3b067_12 : decode cJ1_charAt_3b067 12 = .ok (.iand, 1) := by decide +kernel
theorem dJ1_charAt_3b067_13 : decode cJ1_charAt_3b067 13 = .ok (.i2c, 1) := by decide +kernel
theorem dJ1_charAt_3b067_14 : decode cJ1_charAt_3b067 14 = .ok (.ireturn, 1) := by decide +kernel
abbrev mJ1_charAt_3b067 : MI := (yJ1_charAt_3b067, cJ1_charAt_3b067, 2, (some .char), noE)
theorem okJ1_charAt_3b067 : cok mJ1_charAt_3b067 2 := ⟨tw562, tw14, by decide, by decide, by decide, by decide +kernel⟩
theorem dJ0_charAt_5068e_0 : decode cJ0_charAt_5068e 0 = .ok (.aload_n 0, 1) := by decide +kernel
theorem dJ0_charAt_5068e_1 : decode cJ0_charAt_5068e 1 = .ok (.invokevirtual 492, 3) := by decide +kernel
theorem dJ0_charAt_5068e_4 : decode cJ0_charAt_5068e 4 = .ok (.ifCond .eq 12, 3) := by decide +kernel
theorem dJ0_charAt_5068e_7 : decode cJ0_charAt_5068e 7 = .ok (.aload_n 0, 1) := by decide +kernel
theorem dJ0_charAt_5068e_8 : decode cJ0_charAt_5068e 8 = .ok (.getfield 9, 3) := by decide +kernel
theorem dJ0_charAt_5068e_11 : decode cJ0_charAt_5068e 11 = .ok (.iload_n 1, 1) := by decide +kernel
theorem dJ0_charAt_5068e_12 : decode cJ0_charAt_5068e 12 = .ok (.invokestatic 495, 3) := by decide +kernel
theorem dJ0_charAt_5068e_15 : decode cJ0_charAt_5068e 15 = .ok (.ireturn, 1) := by decide +kernel
theorem dJ0_charAt_5068e_16 : decode cJ0_charAt_5068e 16 = .ok (.aload_n 0, 1) := by decide +kernel
theorem dJ0_charAt_5068e_17 : decode cJ0_charAt_5068e 17 = .ok (.getfield 9, 3) := by decide +kernel
theorem dJ0_charAt_5068e_20 : decode cJ0_charAt_5068e 20 = .ok (.iload_n 1, 1) := by decide +kernel
theorem dJ0_charAt_5068e_21 : decode cJ0_charAt_5068e 21 = .ok (.invokestatic 498, 3) := by decide +kernel
theorem dJ0_charAt_5068e_24 : decode cJ0_charAt_5068e 24 = .ok (.ireturn, 1) := by decide +kernel
abbrev mJ0_charAt_5068e : MI := (yJ0_charAt_5068e, cJ0_charAt_5068e, 2, (some .char), noE)
theorem okJ0_charAt_5068e : cok mJ0_charAt_5068e 1 := ⟨tw555, tw13, by decide, by decide, by decide, by decide +kernel⟩
