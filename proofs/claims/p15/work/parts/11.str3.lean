section RulesS3
variable {ρ : Type} {mi : MI} {d b0 b1 bc bs pc : Nat} {ls ls' : List (Option PV)} {st : List PV} {M : Mem} {dec : ρ → Option PV × Mem} {X A B : Option ρ}
theorem kJ0_coder (d : Nat) (M : Mem) (i : Nat) (hi : i < 19) : Ct mJ0_coder_7d493 d 0 0 [pA (-6 - (i : Int))] M (dI M) (some 0) := by
  refine Ct.of 0 (fun _ _ _ => trivial) (by decide +kernel) rfl ?_
  refine v_cstr (mi := mJ0_coder_7d493) tw550 dJ0_coder_7d493_0 ?_
  refine v_eq (X' := if (1 : Int) = 0 then none else some 0) rfl ?_
  refine v_if_eq (tgt := 13) dJ0_coder_7d493_3 (by decide) (fun h => absurd h (by decide)) (fun _ => ?_)
  refine v_aload_n dJ0_coder_7d493_6 rfl ?_
  refine v_scod (mi := mJ0_coder_7d493) i hi rfl tw1894 dJ0_coder_7d493_7 ?_
  refine v_goto (tgt := 14) dJ0_coder_7d493_10 (by decide) ?_
  exact v_zreturn dJ0_coder_7d493_14 rfl (by decide) rfl
theorem kJ0_isLatin1 (d : Nat) (M : Mem) (i : Nat) (hi : i < 19) : Ct mJ0_isLatin1_aae02 d 0 0 [pA (-6 - (i : Int))] M (dI M) (some 1) := by
  refine Ct.of 0 (fun _ _ _ => trivial) (by decide +kernel) rfl ?_
  refine v_cstr (mi := mJ0_isLatin1_aae02) tw550 dJ0_isLatin1_aae02_0 ?_
  refine v_eq (X' := if (1 : Int) = 0 then none else some 1) rfl ?_
  refine v_if_eq (tgt := 17) dJ0_isLatin1_aae02_3 (by decide) (fun h => absurd h (by decide)) (fun _ => ?_)
  refine v_aload_n dJ0_isLatin1_aae02_6 rfl ?_
  refine v_scod (mi := mJ0_isLatin1_aae02) i hi rfl tw1894 dJ0_isLatin1_aae02_7 ?_
  refine v_eq (X' := if (0 : Int) = 0 then some 1 else none) rfl ?_
  refine v_if_ne (tgt := 17) dJ0_isLatin1_aae02_10 (by decide) (fun _ => ?_) (fun h => absurd rfl h)
  refine v_iconst dJ0_isLatin1_aae02_13 (by decide) ?_
  refine v_goto (tgt := 18) dJ0_isLatin1_aae02_14 (by decide) ?_
  exact v_breturn dJ0_isLatin1_aae02_18 rfl (by decide) rfl
theorem bShr0 : ∀ n : Nat, n ≤ 6 → bShr (n : Int) 0 = (n : Int) := by decide +kernel
theorem kJ0_length (d : Nat) (hd : 1 ≤ d) (M : Mem) (i : Nat) (hi : i < 19) : Ct mJ0_length_8abf5 d 0 0 [pA (-6 - (i : Int))] M (dI M) (some ((sLen.getD i 0 : Nat) : Int)) := by
  obtain ⟨d, rfl⟩ : ∃ k, d = k + 1 := ⟨d - 1, by omega⟩
  refine Ct.of 0 (fun _ _ _ => trivial) (by decide +kernel) rfl ?_
  refine v_aload_n dJ0_length_8abf5_0 rfl ?_
  refine v_sval (mi := mJ0_length_8abf5) i hi rfl tw1893 dJ0_length_8abf5_1 ?_
  refine v_slenA (mi := mJ0_length_8abf5) i hi rfl dJ0_length_8abf5_4 ?_
  refine v_aload_n dJ0_length_8abf5_5 rfl ?_
  refine v_eq (X' := (some (0 : Int)).bind fun _ => some ((sLen.getD i 0 : Nat) : Int)) rfl ?_
  refine v_dVS (mi := mJ0_length_8abf5) (c0 := 0) (c1 := 0) (As := []) (st := [pI ((sLen.getD i 0 : Nat) : Int)]) i hi rfl (kJ0_coder d M i hi) rfl okJ0_coder_7d493 (Or.inl tw546) tw547 tw548 rfl (Nat.le_of_ble_eq_true rfl) dJ0_length_8abf5_6 (fun r hr => ?_) rfl
  cases hr
  refine v_ishr dJ0_length_8abf5_9 ?_
  rw [bShr0 _ (sLen_in i hi)]
  exact v_ireturn dJ0_length_8abf5_10 rfl rfl
def PcX (G : GG) (b : Nat) (args : List Value) (M : Mem) : Array Value → State → Prop := fun a U =>
  a = args.toArray ∧ U.heap.size = b + M.2.2.2 ∧ va_P (G.1, G.2.1) vwCl (wsM G.2.2.1 b M) U.heap ∧ Amb G b U
theorem J3_V (d : Nat) (M : Mem) (i n : Int) (h : 0 ≤ i ∧ i < n) : V mJ3_checkIndex_8e157 d 0 0 0 0 0 [some (pI i), some (pI n), none] [] M (dI M) (some i) := by
  refine v_iload_n dJ3_checkIndex_8e157_0 rfl ?_
  refine v_eq (X' := if i < 0 then none else if i < n then some i else none) (by rw [if_neg (by omega), if_pos h.2]) ?_
  refine v_if_lt (tgt := 9) dJ3_checkIndex_8e157_1 (by decide) (fun q => absurd q (by omega)) (fun _ => ?_)
  refine v_iload_n dJ3_checkIndex_8e157_4 rfl ?_
  refine v_iload_n dJ3_checkIndex_8e157_5 rfl ?_
  refine v_icmp_lt (tgt := 16) dJ3_checkIndex_8e157_6 (by decide) (fun _ => ?_) (fun q => absurd h.2 q)
  refine v_iload_n dJ3_checkIndex_8e157_16 rfl ?_
  exact v_ireturn dJ3_checkIndex_8e157_17 rfl rfl
theorem J3_met (l : Launch) (G : GG) (b d : Nat) (M : Mem) (hM : MemOK M) (i n : Int) (h : 0 ≤ i ∧ i < n) (hi : r32 i) (hn : r32 n) (v : Value) (hv : v.category = 1) :
    Met l yJ3_checkIndex_8e157 (.code yJ3_checkIndex_8e157 cJ3_checkIndex_8e157 3 (some .int) :: GT) (rmD d 0 0) (PcX G b [.int (Int32.ofInt i), .int (Int32.ofInt n), v] M) (QcR G b (some (pI i), M)) 0 0 (AA b) := by
  have hL : okL [some (pI i), some (pI n), none] := by
    intro k w hw
    match k, hw with
    | 0, hw => cases hw; exact hi
    | 1, hw => cases hw; exact hn
    | 2, hw => cases hw
    | k + 3, hw => simp at hw
  obtain ⟨-, h2⟩ := J3_V d M i n h i rfl hM hL (fun v hv => by cases hv)
  refine Met.ofW (cc := cJ3_checkIndex_8e157) (maxL := 3) (ret := some .int) (by decide) rfl ?_
  intro p e s m args' below meth c s₁ B hml hv'
  obtain ⟨rfl, hsz, hP, hA⟩ := hv'
  have hts := atoms_spec (ws := .code yJ3_checkIndex_8e157 cJ3_checkIndex_8e157 3 (some .int) :: GT) B.pre
  have hown : s.vm.findClass yJ3_checkIndex_8e157.cls = some m.cls := findClass_of_methodNamed B.named
  rw [lg_entry_eq]
  have hsl : (lg_sl [Value.int (Int32.ofInt i), .int (Int32.ofInt n), v]).length = 3 := by
    have e : (if v.category = 2 then [Slot.val v, Slot.second] else [Slot.val v]) = [Slot.val v] := by rw [hv]; rfl
    show ([Slot.val (Value.int (Int32.ofInt i))] ++ ([Slot.val (Value.int (Int32.ofInt n))] ++ ((if v.category = 2 then [Slot.val v, Slot.second] else [Slot.val v]) ++ []))).length = 3
    rw [e]; rfl
  have hl := lv_entry [Value.int (Int32.ofInt i), .int (Int32.ofInt n), v] (n := 3) (by omega)
  exact h2 G b p l e s m _ below meth c ⟨B.exec, B.bytes, B.returns, hml, hown, fun w hw => hts w (List.mem_cons_of_mem _ hw), B.notSynchronized, fun h => (name_of_methodNamed B.named B.method).1.trans h, hA, by rw [hsz]; exact Nat.le_add_right _ _, trivial⟩
    s.heap [] 0 0 _ ⟨hsz, hP, va_S.rf, ⟨hl.1, hl.2.1, fun q hq => hl.2.2 q (by
      rw [show lsL b G.2.2.2.1 0 [some (pI i), some (pI n), none] = [(0, .int (Int32.ofInt i)), (1, .int (Int32.ofInt n))] from rfl] at hq
      show q ∈ (0, Value.int (Int32.ofInt i)) :: (1, Value.int (Int32.ofInt n)) :: _
      simp only [List.mem_cons, List.not_mem_nil, or_false] at hq ⊢
      rcases hq with q | q
      · exact Or.inl q
      · exact Or.inr (Or.inl q))⟩, by omega, by omega⟩
theorem v_fmt {i n : Int} {i1 i2 : Nat} (h : 0 ≤ i ∧ i < n) (hl1 : Cond.fieldLink mi.1.cls i1 RJ3 "SIOOBE_FORMATTER" "Ljava/util/function/BiFunction;" ∈ GT) (hl2 : Cond.methodLink mi.1.cls i2 yJ3_checkIndex_8e157 ∈ GT) (hst : wsz st ≤ 8) (hd1 : decode mi.2.1 pc = .ok (.getstatic i1, 3)) (hd2 : decode mi.2.1 (pc + 3) = .ok (.invokestatic i2, 3))
    (kk : V mi (d + 1) b0 b1 bc bs (pc + 3 + 3) ls (pI i :: st) M dec X) : V mi (d + 1) b0 b1 bc bs pc ls (pI n :: pI i :: st) M dec X := by
  refine v_step kk (fun hM hL hS => ⟨hM, hL, (okS_cons.mp hS).2⟩) (fun hM hL hS G b p l e s m args below meth c Q Cc H locs cells slots lsA D w => ?_)
  have hn := (okS_cons.mp hS).1
  have hi := (okS_cons.mp (okS_cons.mp hS).2).1
  have hA := Cc.2.2.2.2.2.2.2.2.1
  have hts := Cc.2.2.2.2.2.1
  obtain ⟨o1, o2, o3, o4, o5, o6⟩ := okJ3_checkIndex_8e157
  have key : ∀ v : Value, v.category = 1 → W p l e (rmD (d + 1) b0 b1) s m args below meth c H locs cells slots Q (F0 m (pc + 3) lsA (v :: ((pI n :: pI i :: st).map (eV b G.2.2.2.1)))) := by
    intro v hv
    have mt := J3_met l G b d M hM i n h hi hn v hv
    have hgood : GoodIn GT (.code yJ3_checkIndex_8e157 cJ3_checkIndex_8e157 3 (some .int) :: GT) := gIn (fun w hw => (List.mem_cons.mp hw).elim (fun e => by rw [e]; exact o1) id)
    have hp : PreS s H (PcX G b [.int (Int32.ofInt i), .int (Int32.ofInt n), v] M) [.int (Int32.ofInt i), .int (Int32.ofInt n), v] := ⟨fun a U g mk h => ⟨h.1, h.2.1, h.2.2.1, h.2.2.2.move (State.WarmedH.refl U) (fun _ _ _ => rfl)⟩, fun U hU hW => ⟨rfl, by rw [hU]; exact D.1, by rw [hU]; exact D.2.1, hA.move hW (fun q h1 h2 => by rw [hU]; exact D.2.2.1.2.1 q h1 h2)⟩⟩
    obtain ⟨D1, D2, D3, D4, D5, D6⟩ := id D
    have hrun := va_runS (p := p) (l := l) (e := e) (R := rmD (d + 1) b0 b1) (s := s) (m := m) (args := args) (below := below) (meth := meth) (c := c) (H := H) (locs := locs) (cells := cells) (slots := slots) (Ts := GT) (nL := mi.2.2.1) (n := 3) (g := F0 m (pc + 3) lsA (v :: ((pI n :: pI i :: st).map (eV b G.2.2.2.1)))) (rest := st.map (eV b G.2.2.2.1)) ⟨Cc.1, Cc.2.1, Cc.2.2.2.1, Cc.2.2.2.2.1, hts⟩ mt ⟨callB_of 3 hts hgood rfl rfl rfl (hts _ o2) (hts _ hl2) ⟨o4, o5, o6⟩ ⟨Nat.le_refl _, by show 8 + (3 + 11) + 64 * d ≤ 64 * (d + 1); omega⟩, hts _ tw569⟩ hp rfl rfl D4.1 rfl (hW_of2 hst) hd2 ⟨by show cells + 0 ≤ b0; omega, by show slots + 0 ≤ b1; omega⟩
    intro T hT X0
    obtain ⟨v', st₀, t, T', L, h0, X1, hLf, e1, e2, ⟨hv', hz, hP, hsz, hk⟩, go⟩ := hrun T hT X0
    cases hv'
    rw [h0] at hsz hk
    have w2 := w T'.heap (locs ++ L) (cells + 0) (slots + 0) lsA ⟨by rw [e1]; exact hz, by rw [e1]; exact hP, ⟨by rw [e1]; exact Nat.le_trans D3.1 hsz, fun q h1 h2 => by rw [e1, hk q (Nat.lt_of_lt_of_le h1 D3.1) h2]; exact D3.2.1 q h1 h2, fun q hq => by
      rcases List.mem_append.mp hq with h | h
      · exact D3.2.2 q h
      · exact hLf q h⟩, D4, by omega, by omega⟩
    obtain ⟨t2, a1, b1'⟩ := w2 T' rfl X1
    exact ⟨t2, go t2 a1, b1'⟩
  rcases hA.2.2.2.2.1 with hZ | ⟨t, hZ⟩
  · exact va_gets Cc.1 Cc.2.1 hZ D.2.2.1 Cc.2.2.2.2.1 (hts _ hl1) (fun _ h => h) hd1 (key .null rfl)
  · exact va_gets Cc.1 Cc.2.1 hZ D.2.2.1 Cc.2.2.2.2.1 (hts _ hl1) (fun _ h => h) hd1 (key (.ref t) rfl)
theorem kJ0_checkIndex (d : Nat) (hd : 1 ≤ d) (M : Mem) (i n : Int) (h : 0 ≤ i ∧ i < n) : Ct mJ0_checkIndex_df160 d 0 0 [pI i, pI n] M dV (some M) := by
  obtain ⟨d, rfl⟩ : ∃ k, d = k + 1 := ⟨d - 1, by omega⟩
  refine Ct.of 0 (fun _ _ _ => trivial) (by decide +kernel) rfl ?_
  refine v_iload_n dJ0_checkIndex_df160_0 rfl ?_
  refine v_iload_n dJ0_checkIndex_df160_1 rfl ?_
  refine v_fmt (mi := mJ0_checkIndex_df160) (st := []) h tw566 tw568 (Nat.le_of_ble_eq_true rfl) dJ0_checkIndex_df160_2 dJ0_checkIndex_df160_5 ?_
  refine v_pop dJ0_checkIndex_df160_8 (by intro z hz; cases hz) ?_
  exact v_return dJ0_checkIndex_df160_9 rfl rfl
theorem nar_c {x : Int} (h : 0 ≤ x ∧ x < 128) : narrow .char (.int (Int32.ofInt x)) = .int (Int32.ofInt x) := by
  have : Int32.ofInt x = nI x.toNat := by
    apply Int32.toInt_inj.mp
    rw [q_in (by unfold r32; omega), nI_toInt (by omega)]; omega
  rw [this]
  exact (pk_charN (by omega)).1
theorem kJ1_charAt (d : Nat) (hd : 2 ≤ d) (M : Mem) (i : Nat) (hi : i < 19) (j : Int) (h : 0 ≤ j ∧ j < ((sLen.getD i 0 : Nat) : Int)) : Ct mJ1_charAt_3b067 d 0 0 [pA (-25 - (i : Int)), pI j] M (dI M) (some (sC i j)) := by
  obtain ⟨d, rfl⟩ : ∃ k, d = k + 1 := ⟨d - 1, by omega⟩
  obtain ⟨c1, c2, c3⟩ := fS_c0 hi h
  refine Ct.of 0 (fun _ _ _ => trivial) (by decide +kernel) rfl ?_
  refine v_iload_n dJ1_charAt_3b067_0 rfl ?_
  refine v_aload_n dJ1_charAt_3b067_1 rfl ?_
  refine v_slenA (mi := mJ1_charAt_3b067) i hi rfl dJ1_charAt_3b067_2 ?_
  refine v_eq (X' := (some M).bind fun _ => some (sC i j)) rfl ?_
  refine v_dS (mi := mJ1_charAt_3b067) (c0 := 0) (c1 := 0) (As := [pI j, pI ((sLen.getD i 0 : Nat) : Int)]) (st := []) (kJ0_checkIndex d (by omega) M j _ h) okJ0_checkIndex_df160 (Or.inl tw563) tw564 rfl (Nat.le_of_ble_eq_true rfl) dJ1_charAt_3b067_3 (fun r hr => ?_) rfl
  cases hr
  refine v_aload_n dJ1_charAt_3b067_6 rfl ?_
  refine v_iload_n dJ1_charAt_3b067_7 rfl ?_
  refine v_sbald (mi := mJ1_charAt_3b067) i hi rfl h dJ1_charAt_3b067_8 ?_
  refine v_sipush dJ1_charAt_3b067_9 (by decide) ?_
  refine v_iand dJ1_charAt_3b067_12 ?_
  rw [c3]
  refine v_i2c (by omega) dJ1_charAt_3b067_13 ?_
  exact v_zreturn dJ1_charAt_3b067_14 rfl (nar_c ⟨c1, c2⟩) rfl
theorem kJ0_charAt (d : Nat) (hd : 3 ≤ d) (M : Mem) (i : Nat) (hi : i < 19) (j : Int) (h : 0 ≤ j ∧ j < ((sLen.getD i 0 : Nat) : Int)) : Ct mJ0_charAt_5068e d 0 0 [pA (-6 - (i : Int)), pI j] M (dI M) (some (sC i j)) := by
  obtain ⟨d, rfl⟩ : ∃ k, d = k + 1 := ⟨d - 1, by omega⟩
  obtain ⟨c1, c2, c3⟩ := fS_c0 hi h
  refine Ct.of 0 (fun _ _ _ => trivial) (by decide +kernel) rfl ?_
  refine v_aload_n dJ0_charAt_5068e_0 rfl ?_
  refine v_eq (X' := (some (1 : Int)).bind fun r => if r = 0 then none else (some (sC i j)).bind fun r => some r) rfl ?_
  refine v_dVS (mi := mJ0_charAt_5068e) (c0 := 0) (c1 := 0) (As := []) (st := []) i hi rfl (kJ0_isLatin1 d M i hi) rfl okJ0_isLatin1_aae02 (Or.inl tw556) tw557 tw558 rfl (Nat.le_of_ble_eq_true rfl) dJ0_charAt_5068e_1 (fun r hr => ?_) rfl
  cases hr
  refine v_if_eq (tgt := 16) dJ0_charAt_5068e_4 (by decide) (fun q => absurd q (by decide)) (fun _ => ?_)
  refine v_aload_n dJ0_charAt_5068e_7 rfl ?_
  refine v_sval (mi := mJ0_charAt_5068e) i hi rfl tw1893 dJ0_charAt_5068e_8 ?_
  refine v_iload_n dJ0_charAt_5068e_11 rfl ?_
  refine v_dS (mi := mJ0_charAt_5068e) (c0 := 0) (c1 := 0) (As := [pA (-25 - (i : Int)), pI j]) (st := []) (kJ1_charAt d (by omega) M i hi j h) okJ1_charAt_3b067 (Or.inl tw560) tw561 rfl (Nat.le_of_ble_eq_true rfl) dJ0_charAt_5068e_12 (fun r hr => ?_) rfl
  cases hr
  exact v_zreturn dJ0_charAt_5068e_15 rfl (nar_c ⟨c1, c2⟩) rfl
/-! a text's length and letters, by its number -/
def fS_len (a : Int) : Option Int := if -24 ≤ a ∧ a ≤ -6 then some ((sLen.getD (-6 - a).toNat 0 : Nat) : Int) else none
def fS_chr (a j : Int) : Option Int := if (-24 ≤ a ∧ a ≤ -6) ∧ 0 ≤ j ∧ j < ((sLen.getD (-6 - a).toNat 0 : Nat) : Int) then some (sC (-6 - a).toNat j) else none
theorem v_slen {a : Int} {index : Nat} {K : Int → Option ρ} (hd5 : 5 ≤ d) (hlk : Cond.methodLink mi.1.cls index yJ0_length_8abf5 ∈ GT) (hst : wsz st ≤ 8) (hd : decode mi.2.1 pc = .ok (.invokevirtual index, 3))
    (k : ∀ r, fS_len a = some r → V mi (d + 1) b0 b1 bc bs (pc + 3) ls (pI r :: st) M dec (K r)) : V mi (d + 1) b0 b1 bc bs pc ls (pA a :: st) M dec ((fS_len a).bind K) := by
  by_cases h : -24 ≤ a ∧ a ≤ -6
  · have e : fS_len a = some ((sLen.getD (-6 - a).toNat 0 : Nat) : Int) := by unfold fS_len; rw [if_pos h]
    have ea : a = -6 - (((-6 - a).toNat : Nat) : Int) := by omega
    have hC := kJ0_length d (by omega) M (-6 - a).toNat (by omega)
    rw [← ea] at hC
    rw [e]
    exact v_dVS (mi := mi) (c0 := 0) (c1 := 0) (As := []) (st := st) (-6 - a).toNat (by omega) ea hC rfl okJ0_length_8abf5 (Or.inl hlk) tw543 tw544 rfl hst hd (fun r hr => k r (e.trans hr)) rfl
  · have e : fS_len a = none := by unfold fS_len; rw [if_neg h]
    rw [e]; exact v_none
theorem v_schr {a j : Int} {index : Nat} {K : Int → Option ρ} (hd5 : 5 ≤ d) (hlk : Cond.methodLink mi.1.cls index yJ0_charAt_5068e ∈ GT) (hst : wsz st ≤ 8) (hd : decode mi.2.1 pc = .ok (.invokevirtual index, 3))
    (k : ∀ r, fS_chr a j = some r → V mi (d + 1) b0 b1 bc bs (pc + 3) ls (pI r :: st) M dec (K r)) : V mi (d + 1) b0 b1 bc bs pc ls (pI j :: pA a :: st) M dec ((fS_chr a j).bind K) := by
  by_cases h : (-24 ≤ a ∧ a ≤ -6) ∧ 0 ≤ j ∧ j < ((sLen.getD (-6 - a).toNat 0 : Nat) : Int)
  · have e : fS_chr a j = some (sC (-6 - a).toNat j) := by unfold fS_chr; rw [if_pos h]
    have ea : a = -6 - (((-6 - a).toNat : Nat) : Int) := by omega
    have hC := kJ0_charAt d (by omega) M (-6 - a).toNat (by omega) j h.2
    rw [← ea] at hC
    rw [e]
    exact v_dVS (mi := mi) (c0 := 0) (c1 := 0) (As := [pI j]) (st := st) (-6 - a).toNat (by omega) ea hC rfl okJ0_charAt_5068e (Or.inl hlk) tw553 tw554 rfl hst hd (fun r hr => k r (e.trans hr)) rfl
  · have e : fS_chr a j = none := by unfold fS_chr; rw [if_neg h]
    rw [e]; exact v_none
end RulesS3
