section RulesA
variable {ρ : Type} {mi : MI} {d b0 b1 bc bs pc : Nat} {ls ls' : List (Option PV)} {st : List PV} {M : Mem} {dec : ρ → Option PV × Mem} {X A B : Option ρ}
theorem okS_cons {v : PV} {st : List PV} : okS (v :: st) ↔ okV v ∧ okS st := by
  unfold okS
  constructor
  · intro h; exact ⟨h v List.mem_cons_self, fun w hw => h w (List.mem_cons_of_mem _ hw)⟩
  · rintro ⟨h1, h2⟩ w hw
    rcases List.mem_cons.mp hw with rfl | hw
    · exact h1
    · exact h2 w hw
theorem lv_of {b : Nat} {cs : Nat → Nat} {n i : Nat} {v : PV} {lsA : Array Slot} (h : lv_has lsA n (lsL b cs 0 ls)) (hi : ls[i]? = some (some v)) : lsA[i]? = some (.val (eV b cs v)) :=
  h.2.2 (i, eV b cs v) (lsL_mem.mpr ⟨i, v, hi, by simp⟩)
theorem v_iconst {n : Int} (hd : decode mi.2.1 pc = .ok (.iconst n, 1)) (hr : -2147483648 ≤ n ∧ n < 2147483648) (k : V mi d b0 b1 bc bs (pc + 1) ls (pI n :: st) M dec X) : V mi d b0 b1 bc bs pc ls st M dec X :=
  v_op k (fun _ h => okS_cons.mpr ⟨hr, h⟩) (fun _ _ G b p l e s m args below meth c Q C H locs cells slots lsA _ kk => lv_iconst C.1 C.2.1 hd rfl kk)
theorem v_bipush {n : Int} (hd : decode mi.2.1 pc = .ok (.bipush n, 2)) (hr : -128 ≤ n ∧ n < 128) (k : V mi d b0 b1 bc bs (pc + 2) ls (pI n :: st) M dec X) : V mi d b0 b1 bc bs pc ls st M dec X :=
  v_op k (fun _ h => okS_cons.mpr ⟨(show r32 n by unfold r32; omega), h⟩) (fun _ _ G b p l e s m args below meth c Q C H locs cells slots lsA _ kk => lv_bipush C.1 C.2.1 hd (by
    apply Int32.toInt_inj.mp
    rw [Int8.toInt_toInt32, q_in (by unfold r32; omega), Int8.toInt_ofInt_of_le (by omega) (by omega)]) kk)
theorem v_sipush {n : Int} (hd : decode mi.2.1 pc = .ok (.sipush n, 3)) (hr : -32768 ≤ n ∧ n < 32768) (k : V mi d b0 b1 bc bs (pc + 3) ls (pI n :: st) M dec X) : V mi d b0 b1 bc bs pc ls st M dec X :=
  v_op k (fun _ h => okS_cons.mpr ⟨(show r32 n by unfold r32; omega), h⟩) (fun _ _ G b p l e s m args below meth c Q C H locs cells slots lsA _ kk => lv_sipush C.1 C.2.1 hd (by
    apply Int32.toInt_inj.mp
    rw [Int16.toInt_toInt32, q_in (by unfold r32; omega), Int16.toInt_ofInt_of_le (by omega) (by omega)]) kk)
theorem v_lconst0 (hd : decode mi.2.1 pc = .ok (.lconst 0, 1)) (k : V mi d b0 b1 bc bs (pc + 1) ls (pL 0 :: st) M dec X) : V mi d b0 b1 bc bs pc ls st M dec X :=
  v_op k (fun _ h => okS_cons.mpr ⟨(show r64 0 by unfold r64; omega), h⟩) (fun _ _ G b p l e s m args below meth c Q C H locs cells slots lsA _ kk => lv_lconst C.1 C.2.1 hd rfl kk)
theorem v_null (hd : decode mi.2.1 pc = .ok (.aconst_null, 1)) (k : V mi d b0 b1 bc bs (pc + 1) ls (pA (-1) :: st) M dec X) : V mi d b0 b1 bc bs pc ls st M dec X :=
  v_op k (fun _ h => okS_cons.mpr ⟨trivial, h⟩) (fun _ _ G b p l e s m args below meth c Q C H locs cells slots lsA _ kk => lv_null C.1 C.2.1 hd kk)
theorem v_ldc {i : Nat} {n : Int} (hd : decode mi.2.1 pc = .ok (.ldc i, 2)) (hr : -2147483648 ≤ n ∧ n < 2147483648) (hw : Cond.constant mi.1.cls i (Int32.ofInt n) ∈ GT) (k : V mi d b0 b1 bc bs (pc + 2) ls (pI n :: st) M dec X) : V mi d b0 b1 bc bs pc ls st M dec X :=
  v_op k (fun _ h => okS_cons.mpr ⟨hr, h⟩) (fun _ _ G b p l e s m args below meth c Q C H locs cells slots lsA _ kk => lv_ldc C.1 C.2.1 C.2.2.2.2.1 (C.2.2.2.2.2.1 _ hw) hd kk)
theorem v_ldcw {i : Nat} {n : Int} (hd : decode mi.2.1 pc = .ok (.ldc_w i, 3)) (hr : -2147483648 ≤ n ∧ n < 2147483648) (hw : Cond.constant mi.1.cls i (Int32.ofInt n) ∈ GT) (k : V mi d b0 b1 bc bs (pc + 3) ls (pI n :: st) M dec X) : V mi d b0 b1 bc bs pc ls st M dec X :=
  v_op k (fun _ h => okS_cons.mpr ⟨hr, h⟩) (fun _ _ G b p l e s m args below meth c Q C H locs cells slots lsA _ kk => lv_ldcw C.1 C.2.1 C.2.2.2.2.1 (C.2.2.2.2.2.1 _ hw) hd kk)
theorem v_ldc2 {i : Nat} {n : Int} (hd : decode mi.2.1 pc = .ok (.ldc2_w i, 3)) (hr : -9223372036854775808 ≤ n ∧ n < 9223372036854775808) (hw : Cond.constantLong mi.1.cls i (Int64.ofInt n) ∈ GT) (k : V mi d b0 b1 bc bs (pc + 3) ls (pL n :: st) M dec X) : V mi d b0 b1 bc bs pc ls st M dec X :=
  v_op k (fun _ h => okS_cons.mpr ⟨hr, h⟩) (fun _ _ G b p l e s m args below meth c Q C H locs cells slots lsA _ kk => lv_ldc2 C.1 C.2.1 C.2.2.2.2.1 (C.2.2.2.2.2.1 _ hw) hd kk)
theorem v_iload_n {i : Fin 4} {x : Int} (hd : decode mi.2.1 pc = .ok (.iload_n i, 1)) (hl : ls[(i : Nat)]? = some (some (pI x))) (k : V mi d b0 b1 bc bs (pc + 1) ls (pI x :: st) M dec X) : V mi d b0 b1 bc bs pc ls st M dec X :=
  v_op k (fun hL h => okS_cons.mpr ⟨hL _ _ hl, h⟩) (fun _ _ G b p l e s m args below meth c Q C H locs cells slots lsA hA kk => lv_iload_n C.1 C.2.1 hd rfl (lv_of hA hl) kk)
theorem v_iload {i : Nat} {x : Int} (hd : decode mi.2.1 pc = .ok (.iload i, 2)) (hl : ls[i]? = some (some (pI x))) (k : V mi d b0 b1 bc bs (pc + 2) ls (pI x :: st) M dec X) : V mi d b0 b1 bc bs pc ls st M dec X :=
  v_op k (fun hL h => okS_cons.mpr ⟨hL _ _ hl, h⟩) (fun _ _ G b p l e s m args below meth c Q C H locs cells slots lsA hA kk => lv_iload C.1 C.2.1 hd (lv_of hA hl) kk)
theorem v_lload_n {i : Fin 4} {x : Int} (hd : decode mi.2.1 pc = .ok (.lload_n i, 1)) (hl : ls[(i : Nat)]? = some (some (pL x))) (k : V mi d b0 b1 bc bs (pc + 1) ls (pL x :: st) M dec X) : V mi d b0 b1 bc bs pc ls st M dec X :=
  v_op k (fun hL h => okS_cons.mpr ⟨hL _ _ hl, h⟩) (fun _ _ G b p l e s m args below meth c Q C H locs cells slots lsA hA kk => lv_lload_n C.1 C.2.1 hd rfl (lv_of hA hl) kk)
theorem v_aload_n {i : Fin 4} {x : Int} (hd : decode mi.2.1 pc = .ok (.aload_n i, 1)) (hl : ls[(i : Nat)]? = some (some (pA x))) (k : V mi d b0 b1 bc bs (pc + 1) ls (pA x :: st) M dec X) : V mi d b0 b1 bc bs pc ls st M dec X :=
  v_op k (fun hL h => okS_cons.mpr ⟨hL _ _ hl, h⟩) (fun _ _ G b p l e s m args below meth c Q C H locs cells slots lsA hA kk => by
    have h := lv_of hA hl
    simp only [List.map_cons, eV, eR] at h kk
    split at h
    · rename_i hx; rw [if_pos hx] at kk; exact lv_aload_nN C.1 C.2.1 hd rfl h kk
    · rename_i hx
      rw [if_neg hx] at kk
      split at h
      · rename_i hy; rw [if_pos hy] at kk; exact lv_aload_n C.1 C.2.1 hd rfl h kk
      · rename_i hy; rw [if_neg hy] at kk; exact lv_aload_n C.1 C.2.1 hd rfl h kk)
theorem v_aload {i : Nat} {x : Int} (hd : decode mi.2.1 pc = .ok (.aload i, 2)) (hl : ls[i]? = some (some (pA x))) (k : V mi d b0 b1 bc bs (pc + 2) ls (pA x :: st) M dec X) : V mi d b0 b1 bc bs pc ls st M dec X :=
  v_op k (fun hL h => okS_cons.mpr ⟨hL _ _ hl, h⟩) (fun _ _ G b p l e s m args below meth c Q C H locs cells slots lsA hA kk => by
    have h := lv_of hA hl
    simp only [List.map_cons, eV, eR] at h kk
    split at h
    · rename_i hx; rw [if_pos hx] at kk; exact lv_aloadN C.1 C.2.1 hd h kk
    · rename_i hx
      rw [if_neg hx] at kk
      split at h
      · rename_i hy; rw [if_pos hy] at kk; exact lv_aload C.1 C.2.1 hd h kk
      · rename_i hy; rw [if_neg hy] at kk; exact lv_aload C.1 C.2.1 hd h kk)
/-- the locals behind a store of a value of one word -/
def klL (ls : List (Option PV)) (i : Nat) : List (Option PV) := match i with
  | 0 => ls
  | j + 1 => match ls[j]? with
    | some (some (.inr (.inl _))) => ls.set j none
    | _ => ls
def stL (ls : List (Option PV)) (i : Nat) (v : PV) : List (Option PV) := (klL ls i).set i (some v)
theorem stL_at {i k : Nat} {v w : PV} (h : (stL ls i v)[k]? = some (some w)) : (k = i ∧ w = v) ∨ (k ≠ i ∧ ls[k]? = some (some w) ∧ ¬ (k + 1 = i ∧ ∃ x, w = pL x)) := by
  unfold stL at h
  by_cases hk : k = i
  · left
    subst hk
    rw [List.getElem?_set] at h
    simp only [if_true] at h
    split at h
    · have := Option.some.inj (Option.some.inj h)
      exact ⟨rfl, this.symm⟩
    · cases h
  · right
    refine ⟨hk, ?_⟩
    rw [List.getElem?_set, if_neg (fun e => hk e.symm)] at h
    unfold klL at h
    match i, hk, h with
    | 0, hk, h => exact ⟨h, by rintro ⟨q, -⟩; omega⟩
    | j + 1, hk, h =>
      simp only at h
      split at h
      · rename_i x hx
        rw [List.getElem?_set] at h
        split at h
        · split at h <;> cases h
        · rename_i hj
          exact ⟨h, by rintro ⟨q, -⟩; omega⟩
      · rename_i hx
        refine ⟨h, ?_⟩
        rintro ⟨q, x, rfl⟩
        have : k = j := by omega
        subst this
        exact hx x h
theorem eV_cat {b : Nat} {cs : Nat → Nat} {v : PV} : (eV b cs v).category = 2 ↔ ∃ x, v = pL x := by
  match v with
  | .inl x => simp [eV, Value.category]
  | .inr (.inl x) => simp [eV, Value.category]
  | .inr (.inr x) =>
    rw [show (eV b cs (.inr (.inr x))).category = 1 from eR_cat b cs x]
    simp
theorem stL_has {b : Nat} {cs : Nat → Nat} {n i : Nat} {v : PV} {lsA : Array Slot} (h : lv_has lsA n ((i, eV b cs v) :: (lsL b cs 0 ls).filter (fun q => !(q.1 == i) && !(q.1 + 1 == i && q.2.category == 2)))) : lv_has lsA n (lsL b cs 0 (stL ls i v)) := by
  refine ⟨h.1, h.2.1, fun q hq => h.2.2 q ?_⟩
  obtain ⟨k, w, h1, rfl⟩ := lsL_mem.mp hq
  rcases stL_at h1 with ⟨rfl, rfl⟩ | ⟨h2, h3, h4⟩
  · rw [Nat.zero_add]; exact List.mem_cons_self
  · refine List.mem_cons_of_mem _ (List.mem_filter.mpr ⟨lsL_mem.mpr ⟨k, w, h3, rfl⟩, ?_⟩)
    simp only [Nat.zero_add, Bool.and_eq_true, Bool.not_eq_true', beq_eq_false_iff_ne, ne_eq, Bool.and_eq_false_iff]
    refine ⟨h2, ?_⟩
    by_cases h5 : k + 1 = i
    · right
      intro h6
      exact h4 ⟨h5, eV_cat.mp h6⟩
    · left; exact h5
theorem stL_ok {i : Nat} {v : PV} (hL : okL ls) (hv : okV v) : okL (stL ls i v) := by
  intro k w h
  rcases stL_at h with ⟨_, rfl⟩ | ⟨_, h3, _⟩
  · exact hv
  · exact hL k w h3
theorem v_istore_n {i : Fin 4} {x : Int} (hd : decode mi.2.1 pc = .ok (.istore_n i, 1)) (hn : (i : Nat) < mi.2.2.1) (hl : stL ls i (pI x) = ls') (k : V mi d b0 b1 bc bs (pc + 1) ls' st M dec X) : V mi d b0 b1 bc bs pc ls (pI x :: st) M dec X := by
  subst hl
  exact v_step k (fun hM hL hS => ⟨hM, stL_ok hL (okS_cons.mp hS).1, (okS_cons.mp hS).2⟩) (fun hM hL hS G b p l e s m args below meth c Q C H locs cells slots lsA D kk =>
    lv_istore_n C.1 C.2.1 hd rfl D.2.2.2.1 hn rfl (fun lsA' hA => kk H locs cells slots lsA' ⟨D.1, D.2.1, D.2.2.1, stL_has hA, D.2.2.2.2⟩))
theorem v_istore {i : Nat} {x : Int} (hd : decode mi.2.1 pc = .ok (.istore i, 2)) (hn : i < mi.2.2.1) (hl : stL ls i (pI x) = ls') (k : V mi d b0 b1 bc bs (pc + 2) ls' st M dec X) : V mi d b0 b1 bc bs pc ls (pI x :: st) M dec X := by
  subst hl
  exact v_step k (fun hM hL hS => ⟨hM, stL_ok hL (okS_cons.mp hS).1, (okS_cons.mp hS).2⟩) (fun hM hL hS G b p l e s m args below meth c Q C H locs cells slots lsA D kk =>
    lv_istore C.1 C.2.1 hd D.2.2.2.1 hn rfl (fun lsA' hA => kk H locs cells slots lsA' ⟨D.1, D.2.1, D.2.2.1, stL_has hA, D.2.2.2.2⟩))
theorem v_astore_n {i : Fin 4} {x : Int} (hd : decode mi.2.1 pc = .ok (.astore_n i, 1)) (hn : (i : Nat) < mi.2.2.1) (hl : stL ls i (pA x) = ls') (k : V mi d b0 b1 bc bs (pc + 1) ls' st M dec X) : V mi d b0 b1 bc bs pc ls (pA x :: st) M dec X := by
  subst hl
  refine v_step k (fun hM hL hS => ⟨hM, stL_ok hL (okS_cons.mp hS).1, (okS_cons.mp hS).2⟩) (fun hM hL hS G b p l e s m args below meth c Q C H locs cells slots lsA D kk => ?_)
  have k2 : ∀ lsA' : Array Slot, lv_has lsA' mi.2.2.1 (((i : Nat), eR b G.2.2.2.1 x) :: (lsL b G.2.2.2.1 0 ls).filter (fun q => !(q.1 == (i : Nat)) && !(q.1 + 1 == (i : Nat) && q.2.category == 2))) → _ := fun lsA' hA => kk H locs cells slots lsA' ⟨D.1, D.2.1, D.2.2.1, stL_has (v := pA x) hA, D.2.2.2.2⟩
  simp only [List.map_cons, eV]
  by_cases h1 : x = -1
  · rw [show eR b G.2.2.2.1 x = .null by unfold eR; rw [if_pos h1]] at k2 ⊢
    exact lv_astore_nN C.1 C.2.1 hd rfl D.2.2.2.1 hn rfl k2
  · by_cases h2 : 0 ≤ x
    · rw [show eR b G.2.2.2.1 x = .ref (b + x.toNat) by unfold eR; rw [if_neg h1, if_pos h2]] at k2 ⊢
      exact lv_astore_n C.1 C.2.1 hd rfl D.2.2.2.1 hn rfl k2
    · rw [show eR b G.2.2.2.1 x = .ref (G.2.2.2.1 (-x - 2).toNat) by unfold eR; rw [if_neg h1, if_neg h2]] at k2 ⊢
      exact lv_astore_n C.1 C.2.1 hd rfl D.2.2.2.1 hn rfl k2
theorem v_astore {i : Nat} {x : Int} (hd : decode mi.2.1 pc = .ok (.astore i, 2)) (hn : i < mi.2.2.1) (hl : stL ls i (pA x) = ls') (k : V mi d b0 b1 bc bs (pc + 2) ls' st M dec X) : V mi d b0 b1 bc bs pc ls (pA x :: st) M dec X := by
  subst hl
  refine v_step k (fun hM hL hS => ⟨hM, stL_ok hL (okS_cons.mp hS).1, (okS_cons.mp hS).2⟩) (fun hM hL hS G b p l e s m args below meth c Q C H locs cells slots lsA D kk => ?_)
  have k2 : ∀ lsA' : Array Slot, lv_has lsA' mi.2.2.1 ((i, eR b G.2.2.2.1 x) :: (lsL b G.2.2.2.1 0 ls).filter (fun q => !(q.1 == i) && !(q.1 + 1 == i && q.2.category == 2))) → _ := fun lsA' hA => kk H locs cells slots lsA' ⟨D.1, D.2.1, D.2.2.1, stL_has (v := pA x) hA, D.2.2.2.2⟩
  simp only [List.map_cons, eV]
  by_cases h1 : x = -1
  · rw [show eR b G.2.2.2.1 x = .null by unfold eR; rw [if_pos h1]] at k2 ⊢
    exact lv_astoreN C.1 C.2.1 hd D.2.2.2.1 hn rfl k2
  · by_cases h2 : 0 ≤ x
    · rw [show eR b G.2.2.2.1 x = .ref (b + x.toNat) by unfold eR; rw [if_neg h1, if_pos h2]] at k2 ⊢
      exact lv_astore C.1 C.2.1 hd D.2.2.2.1 hn rfl k2
    · rw [show eR b G.2.2.2.1 x = .ref (G.2.2.2.1 (-x - 2).toNat) by unfold eR; rw [if_neg h1, if_neg h2]] at k2 ⊢
      exact lv_astore C.1 C.2.1 hd D.2.2.2.1 hn rfl k2
theorem v_iinc {i : Nat} {n x : Int} (hd : decode mi.2.1 pc = .ok (.iinc i n, 3)) (hn : i < mi.2.2.1) (hx : ls[i]? = some (some (pI x))) (hl : stL ls i (pI (w32 (x + n))) = ls') (k : V mi d b0 b1 bc bs (pc + 3) ls' st M dec X) : V mi d b0 b1 bc bs pc ls st M dec X := by
  subst hl
  refine v_step k (fun hM hL hS => ⟨hM, stL_ok hL (w32_r _), hS⟩) (fun hM hL hS G b p l e s m args below meth c Q C H locs cells slots lsA D kk => ?_)
  obtain ⟨j, hj⟩ := List.getElem?_of_mem (lsL_mem (b := b) (cs := G.2.2.2.1) (i := 0).mpr ⟨i, pI x, hx, rfl⟩)
  rw [Nat.zero_add] at hj
  exact lv_iinc C.1 C.2.1 hd D.2.2.2.1 hj (q_add x n) hn rfl (fun lsA' hA => kk H locs cells slots lsA' ⟨D.1, D.2.1, D.2.2.1, stL_has (v := pI (w32 (x + n))) hA, D.2.2.2.2⟩)
theorem v_iadd {x y : Int} (hd : decode mi.2.1 pc = .ok (.iadd, 1)) (k : V mi d b0 b1 bc bs (pc + 1) ls (pI (w32 (x + y)) :: st) M dec X) : V mi d b0 b1 bc bs pc ls (pI y :: pI x :: st) M dec X :=
  v_op k (fun hL h => okS_cons.mpr ⟨w32_r _, (okS_cons.mp (okS_cons.mp h).2).2⟩) (fun _ _ G b p l e s m args below meth c Q C H locs cells slots lsA hA kk => lv_iadd C.1 C.2.1 hd (by rw [q_add]; exact kk))
theorem v_isub {x y : Int} (hd : decode mi.2.1 pc = .ok (.isub, 1)) (k : V mi d b0 b1 bc bs (pc + 1) ls (pI (w32 (x - y)) :: st) M dec X) : V mi d b0 b1 bc bs pc ls (pI y :: pI x :: st) M dec X :=
  v_op k (fun hL h => okS_cons.mpr ⟨w32_r _, (okS_cons.mp (okS_cons.mp h).2).2⟩) (fun _ _ G b p l e s m args below meth c Q C H locs cells slots lsA hA kk => lv_isub C.1 C.2.1 hd (by rw [q_sub]; exact kk))
theorem v_imul {x y : Int} (hd : decode mi.2.1 pc = .ok (.imul, 1)) (k : V mi d b0 b1 bc bs (pc + 1) ls (pI (w32 (x * y)) :: st) M dec X) : V mi d b0 b1 bc bs pc ls (pI y :: pI x :: st) M dec X :=
  v_op k (fun hL h => okS_cons.mpr ⟨w32_r _, (okS_cons.mp (okS_cons.mp h).2).2⟩) (fun _ _ G b p l e s m args below meth c Q C H locs cells slots lsA hA kk => lv_imul C.1 C.2.1 hd (by rw [q_mul]; exact kk))
theorem v_ineg {x : Int} (hd : decode mi.2.1 pc = .ok (.ineg, 1)) (k : V mi d b0 b1 bc bs (pc + 1) ls (pI (w32 (-x)) :: st) M dec X) : V mi d b0 b1 bc bs pc ls (pI x :: st) M dec X :=
  v_op k (fun hL h => okS_cons.mpr ⟨w32_r _, (okS_cons.mp h).2⟩) (fun _ _ G b p l e s m args below meth c Q C H locs cells slots lsA hA kk => lv_ineg C.1 C.2.1 hd (by rw [q_neg]; exact kk))
theorem q_ne0 {y : Int} (h : r32 y) (hy : y ≠ 0) : ¬ Int32.ofInt y = 0 := fun q => hy ((q_eq h r32_0).mp (by rw [q_0]; exact q))
theorem v_idiv {x y : Int} (hy : y ≠ 0) (hd : decode mi.2.1 pc = .ok (.idiv, 1)) (k : V mi d b0 b1 bc bs (pc + 1) ls (pI (w32 (x.tdiv y)) :: st) M dec X) : V mi d b0 b1 bc bs pc ls (pI y :: pI x :: st) M dec X :=
  v_op k (fun hL h => okS_cons.mpr ⟨w32_r _, (okS_cons.mp (okS_cons.mp h).2).2⟩) (fun _ hS G b p l e s m args below meth c Q C H locs cells slots lsA hA kk => lv_idiv C.1 C.2.1 hd (q_ne0 (okS_cons.mp hS).1 hy) (by rw [q_div (okS_cons.mp (okS_cons.mp hS).2).1 (okS_cons.mp hS).1]; exact kk))
theorem v_irem {x y : Int} (hy : y ≠ 0) (hd : decode mi.2.1 pc = .ok (.irem, 1)) (k : V mi d b0 b1 bc bs (pc + 1) ls (pI (x.tmod y) :: st) M dec X) : V mi d b0 b1 bc bs pc ls (pI y :: pI x :: st) M dec X :=
  v_op k (fun hL h => okS_cons.mpr ⟨tmod_r (okS_cons.mp (okS_cons.mp h).2).1, (okS_cons.mp (okS_cons.mp h).2).2⟩) (fun _ hS G b p l e s m args below meth c Q C H locs cells slots lsA hA kk => lv_irem C.1 C.2.1 hd (q_ne0 (okS_cons.mp hS).1 hy) (by rw [q_rem (okS_cons.mp (okS_cons.mp hS).2).1 (okS_cons.mp hS).1]; exact kk))
theorem v_iand {x y : Int} (hd : decode mi.2.1 pc = .ok (.iand, 1)) (k : V mi d b0 b1 bc bs (pc + 1) ls (pI (bAnd x y) :: st) M dec X) : V mi d b0 b1 bc bs pc ls (pI y :: pI x :: st) M dec X :=
  v_op k (fun hL h => okS_cons.mpr ⟨q_bl, (okS_cons.mp (okS_cons.mp h).2).2⟩) (fun _ _ G b p l e s m args below meth c Q C H locs cells slots lsA hA kk => lv_iand C.1 C.2.1 hd (by simp only [List.map_cons, eV, bAnd, Int32.ofInt_toInt] at kk; exact kk))
theorem v_ior {x y : Int} (hd : decode mi.2.1 pc = .ok (.ior, 1)) (k : V mi d b0 b1 bc bs (pc + 1) ls (pI (bOr x y) :: st) M dec X) : V mi d b0 b1 bc bs pc ls (pI y :: pI x :: st) M dec X :=
  v_op k (fun hL h => okS_cons.mpr ⟨q_bl, (okS_cons.mp (okS_cons.mp h).2).2⟩) (fun _ _ G b p l e s m args below meth c Q C H locs cells slots lsA hA kk => lv_ior C.1 C.2.1 hd (by simp only [List.map_cons, eV, bOr, Int32.ofInt_toInt] at kk; exact kk))
theorem v_ishl {x y : Int} (hd : decode mi.2.1 pc = .ok (.ishl, 1)) (k : V mi d b0 b1 bc bs (pc + 1) ls (pI (bShl x y) :: st) M dec X) : V mi d b0 b1 bc bs pc ls (pI y :: pI x :: st) M dec X :=
  v_op k (fun hL h => okS_cons.mpr ⟨q_bl, (okS_cons.mp (okS_cons.mp h).2).2⟩) (fun _ _ G b p l e s m args below meth c Q C H locs cells slots lsA hA kk => lv_ishl C.1 C.2.1 hd (by simp only [List.map_cons, eV, bShl, Int32.ofInt_toInt] at kk; exact kk))
theorem v_ishr {x y : Int} (hd : decode mi.2.1 pc = .ok (.ishr, 1)) (k : V mi d b0 b1 bc bs (pc + 1) ls (pI (bShr x y) :: st) M dec X) : V mi d b0 b1 bc bs pc ls (pI y :: pI x :: st) M dec X :=
  v_op k (fun hL h => okS_cons.mpr ⟨q_bl, (okS_cons.mp (okS_cons.mp h).2).2⟩) (fun _ _ G b p l e s m args below meth c Q C H locs cells slots lsA hA kk => lv_ishr C.1 C.2.1 hd (by simp only [List.map_cons, eV, bShr, Int32.ofInt_toInt] at kk; exact kk))
theorem v_iushr {x y : Int} (hd : decode mi.2.1 pc = .ok (.iushr, 1)) (k : V mi d b0 b1 bc bs (pc + 1) ls (pI (bUshr x y) :: st) M dec X) : V mi d b0 b1 bc bs pc ls (pI y :: pI x :: st) M dec X :=
  v_op k (fun hL h => okS_cons.mpr ⟨q_bl, (okS_cons.mp (okS_cons.mp h).2).2⟩) (fun _ _ G b p l e s m args below meth c Q C H locs cells slots lsA hA kk => lv_iushr C.1 C.2.1 hd rfl (by simp only [List.map_cons, eV, bUshr, Int32.ofInt_toInt] at kk; exact kk))
theorem v_lshl {x y : Int} (hd : decode mi.2.1 pc = .ok (.lshl, 1)) (k : V mi d b0 b1 bc bs (pc + 1) ls (pL (lShl x y) :: st) M dec X) : V mi d b0 b1 bc bs pc ls (pI y :: pL x :: st) M dec X :=
  v_op k (fun hL h => okS_cons.mpr ⟨q_blL, (okS_cons.mp (okS_cons.mp h).2).2⟩) (fun _ _ G b p l e s m args below meth c Q C H locs cells slots lsA hA kk => lv_lshl C.1 C.2.1 hd rfl (by simp only [List.map_cons, eV, lShl, Int64.ofInt_toInt] at kk; exact kk))
theorem v_lor {x y : Int} (hd : decode mi.2.1 pc = .ok (.lor, 1)) (k : V mi d b0 b1 bc bs (pc + 1) ls (pL (lOr x y) :: st) M dec X) : V mi d b0 b1 bc bs pc ls (pL y :: pL x :: st) M dec X :=
  v_op k (fun hL h => okS_cons.mpr ⟨q_blL, (okS_cons.mp (okS_cons.mp h).2).2⟩) (fun _ _ G b p l e s m args below meth c Q C H locs cells slots lsA hA kk => lv_lor C.1 C.2.1 hd (by simp only [List.map_cons, eV, lOr, Int64.ofInt_toInt] at kk; exact kk))
theorem v_i2l {x : Int} (hd : decode mi.2.1 pc = .ok (.i2l, 1)) (k : V mi d b0 b1 bc bs (pc + 1) ls (pL x :: st) M dec X) : V mi d b0 b1 bc bs pc ls (pI x :: st) M dec X :=
  v_op k (fun hL h => okS_cons.mpr ⟨(show r64 x by have := (okS_cons.mp h).1; unfold okV r32 at this; unfold r64; omega), (okS_cons.mp h).2⟩) (fun _ hS G b p l e s m args below meth c Q C H locs cells slots lsA hA kk => lv_i2l C.1 C.2.1 hd (q_i2l (okS_cons.mp hS).1) kk)
theorem v_i2b {x : Int} (hd : decode mi.2.1 pc = .ok (.i2b, 1)) (k : V mi d b0 b1 bc bs (pc + 1) ls (pI (w8 x) :: st) M dec X) : V mi d b0 b1 bc bs pc ls (pI x :: st) M dec X :=
  v_op k (fun hL h => okS_cons.mpr ⟨(show r32 (w8 x) by have := w8_r x; unfold r32; omega), (okS_cons.mp h).2⟩) (fun _ hS G b p l e s m args below meth c Q C H locs cells slots lsA hA kk => lv_i2b C.1 C.2.1 hd (q_i2b x) kk)
def lcmp (x y : Int) : Int := if x = y then 0 else if x < y then -1 else 1
theorem q_lcmp {x y : Int} (hx : r64 x) (hy : r64 y) : lg_cmp (Int64.ofInt x) (Int64.ofInt y) = Int32.ofInt (lcmp x y) := by
  unfold lg_cmp lcmp
  by_cases h : x = y
  · subst h; simp
  · rw [if_neg h]
    by_cases h2 : x < y
    · rw [if_pos h2]
      have a1 : ¬ Int64.ofInt y < Int64.ofInt x := fun q => by have := (q_ltL hy hx).mp q; omega
      have a2 : ¬ Int64.ofInt x = Int64.ofInt y := fun q => h ((q_eqL hx hy).mp q)
      have a3 := (q_ltL hx hy).mpr h2
      simp [a1, a2, a3]
      try rfl
    · rw [if_neg h2]
      have a1 : Int64.ofInt y < Int64.ofInt x := (q_ltL hy hx).mpr (by omega)
      simp [a1]
      try rfl
theorem v_lcmp {x y : Int} (hd : decode mi.2.1 pc = .ok (.lcmp, 1)) (k : V mi d b0 b1 bc bs (pc + 1) ls (pI (lcmp x y) :: st) M dec X) : V mi d b0 b1 bc bs pc ls (pL y :: pL x :: st) M dec X :=
  v_op k (fun hL h => okS_cons.mpr ⟨(show r32 (lcmp x y) by unfold lcmp r32; split <;> (try split) <;> omega), (okS_cons.mp (okS_cons.mp h).2).2⟩) (fun _ hS G b p l e s m args below meth c Q C H locs cells slots lsA hA kk => W.lcmp C.1 C.2.1 hd (by rw [q_lcmp (okS_cons.mp (okS_cons.mp hS).2).1 (okS_cons.mp hS).1]; exact kk))
theorem eV_cat1 {b : Nat} {cs : Nat → Nat} {v : PV} (h : ∀ x, v ≠ pL x) : (eV b cs v).category = 1 := by
  rcases lv_cat (eV b cs v) with q | q
  · exact q
  · obtain ⟨x, hx⟩ := eV_cat.mp q
    exact absurd hx (h x)
theorem v_dup {v : PV} (hd : decode mi.2.1 pc = .ok (.dup, 1)) (hv : ∀ x, v ≠ pL x) (k : V mi d b0 b1 bc bs (pc + 1) ls (v :: v :: st) M dec X) : V mi d b0 b1 bc bs pc ls (v :: st) M dec X :=
  v_op k (fun hL h => okS_cons.mpr ⟨(okS_cons.mp h).1, h⟩) (fun _ hS G b p l e s m args below meth c Q C H locs cells slots lsA hA kk => lv_dup C.1 C.2.1 hd (eV_cat1 hv) kk)
theorem v_pop {v : PV} (hd : decode mi.2.1 pc = .ok (.pop, 1)) (hv : ∀ x, v ≠ pL x) (k : V mi d b0 b1 bc bs (pc + 1) ls st M dec X) : V mi d b0 b1 bc bs pc ls (v :: st) M dec X :=
  v_op k (fun hL h => (okS_cons.mp h).2) (fun _ hS G b p l e s m args below meth c Q C H locs cells slots lsA hA kk => lv_pop C.1 C.2.1 hd (eV_cat1 hv) kk)
theorem v_dup2 {v w : PV} (hd : decode mi.2.1 pc = .ok (.dup2, 1)) (hv : ∀ x, v ≠ pL x) (hw : ∀ x, w ≠ pL x) (k : V mi d b0 b1 bc bs (pc + 1) ls (v :: w :: v :: w :: st) M dec X) : V mi d b0 b1 bc bs pc ls (v :: w :: st) M dec X :=
  v_op k (fun hL h => okS_cons.mpr ⟨(okS_cons.mp h).1, okS_cons.mpr ⟨(okS_cons.mp (okS_cons.mp h).2).1, h⟩⟩) (fun _ hS G b p l e s m args below meth c Q C H locs cells slots lsA hA kk => lv_dup2_11 C.1 C.2.1 hd (eV_cat1 hv) (eV_cat1 hw) kk)
/-- a branch: the condition c of the pure side is that of the machine -/
theorem v_br {st' : List PV} {P : Prop} [Decidable P] {pa pb : Nat} (ka : P → V mi d b0 b1 bc bs pa ls st' M dec A) (kb : ¬ P → V mi d b0 b1 bc bs pb ls st' M dec B) (hok : okS st → okS st')
    (hw : okS st → ∀ (G : GG) (b : Nat) (p : Program) (l : Launch) (e : Env) (s : State) (m : MethodId) (args : Array Value) (below : List Frame) (meth : Method) (c : Code) (Q : State → Prop), Cx mi G b p s m args meth c →
      ∀ (H : Heap) (locs : List Loc) (cells slots : Nat) (lsA : Array Slot),
        (P → W p l e (rmD d b0 b1) s m args below meth c H locs cells slots Q (F0 m pa lsA (st'.map (eV b G.2.2.2.1)))) → (¬ P → W p l e (rmD d b0 b1) s m args below meth c H locs cells slots Q (F0 m pb lsA (st'.map (eV b G.2.2.2.1)))) →
        W p l e (rmD d b0 b1) s m args below meth c H locs cells slots Q (F0 m pc lsA (st.map (eV b G.2.2.2.1)))) : V mi d b0 b1 bc bs pc ls st M dec (if P then A else B) := by
  intro r hr hM hL hS
  by_cases hP : P
  · rw [if_pos hP] at hr
    obtain ⟨g1, g2⟩ := ka hP r hr hM hL (hok hS)
    exact ⟨g1, fun G b p l e s m args below meth c C H locs cells slots lsA D => hw hS G b p l e s m args below meth c _ C H locs cells slots lsA (fun _ => g2 G b p l e s m args below meth c C H locs cells slots lsA D) (fun h => absurd hP h)⟩
  · rw [if_neg hP] at hr
    obtain ⟨g1, g2⟩ := kb hP r hr hM hL (hok hS)
    exact ⟨g1, fun G b p l e s m args below meth c C H locs cells slots lsA D => hw hS G b p l e s m args below meth c _ C H locs cells slots lsA (fun h => absurd h hP) (fun _ => g2 G b p l e s m args below meth c C H locs cells slots lsA D)⟩
theorem v_if_eq {x : Int} {off : Int} {tgt : Nat} (hd : decode mi.2.1 pc = .ok (.ifCond .eq off, 3)) (ht : (pc : Int) + off = (tgt : Int)) (ka : x = 0 → V mi d b0 b1 bc bs (tgt) ls st M dec A) (kb : ¬ x = 0 → V mi d b0 b1 bc bs (pc + 3) ls st M dec B) : V mi d b0 b1 bc bs pc ls (pI x :: st) M dec (if x = 0 then A else B) :=
  v_br ka kb (fun h => (okS_cons.mp h).2) (fun hS G b p l e s m args below meth c Q C H locs cells slots lsA wa wb => by
    have hx : r32 x := (okS_cons.mp hS).1
    have hy : r32 0 := r32_0
    have hE := q_eq hx hy
    rw [q_0] at hE
    exact lv_if_eq C.1 C.2.1 hd ht (fun h => wa (hE.mp h)) (fun h => wb (fun q => h (hE.mpr q))))
theorem v_icmp_eq {x y : Int} {off : Int} {tgt : Nat} (hd : decode mi.2.1 pc = .ok (.if_icmp .eq off, 3)) (ht : (pc : Int) + off = (tgt : Int)) (ka : x = y → V mi d b0 b1 bc bs (tgt) ls st M dec A) (kb : ¬ x = y → V mi d b0 b1 bc bs (pc + 3) ls st M dec B) : V mi d b0 b1 bc bs pc ls (pI y :: pI x :: st) M dec (if x = y then A else B) :=
  v_br ka kb (fun h => (okS_cons.mp (okS_cons.mp h).2).2) (fun hS G b p l e s m args below meth c Q C H locs cells slots lsA wa wb => by
    have hx : r32 x := (okS_cons.mp (okS_cons.mp hS).2).1
    have hy : r32 y := (okS_cons.mp hS).1
    have hE := q_eq hx hy
    exact lv_icmp_eq C.1 C.2.1 hd ht (fun h => wa (hE.mp h)) (fun h => wb (fun q => h (hE.mpr q))))
theorem v_if_ne {x : Int} {off : Int} {tgt : Nat} (hd : decode mi.2.1 pc = .ok (.ifCond .ne off, 3)) (ht : (pc : Int) + off = (tgt : Int)) (ka : x = 0 → V mi d b0 b1 bc bs (pc + 3) ls st M dec A) (kb : ¬ x = 0 → V mi d b0 b1 bc bs (tgt) ls st M dec B) : V mi d b0 b1 bc bs pc ls (pI x :: st) M dec (if x = 0 then A else B) :=
  v_br ka kb (fun h => (okS_cons.mp h).2) (fun hS G b p l e s m args below meth c Q C H locs cells slots lsA wa wb => by
    have hx : r32 x := (okS_cons.mp hS).1
    have hy : r32 0 := r32_0
    have hE := q_eq hx hy
    rw [q_0] at hE
    exact lv_if_ne C.1 C.2.1 hd ht (fun h => wb (fun q => h (hE.mpr q))) (fun h => wa (hE.mp h)))
theorem v_icmp_ne {x y : Int} {off : Int} {tgt : Nat} (hd : decode mi.2.1 pc = .ok (.if_icmp .ne off, 3)) (ht : (pc : Int) + off = (tgt : Int)) (ka : x = y → V mi d b0 b1 bc bs (pc + 3) ls st M dec A) (kb : ¬ x = y → V mi d b0 b1 bc bs (tgt) ls st M dec B) : V mi d b0 b1 bc bs pc ls (pI y :: pI x :: st) M dec (if x = y then A else B) :=
  v_br ka kb (fun h => (okS_cons.mp (okS_cons.mp h).2).2) (fun hS G b p l e s m args below meth c Q C H locs cells slots lsA wa wb => by
    have hx : r32 x := (okS_cons.mp (okS_cons.mp hS).2).1
    have hy : r32 y := (okS_cons.mp hS).1
    have hE := q_eq hx hy
    exact lv_icmp_ne C.1 C.2.1 hd ht (fun h => wb (fun q => h (hE.mpr q))) (fun h => wa (hE.mp h)))
theorem v_if_lt {x : Int} {off : Int} {tgt : Nat} (hd : decode mi.2.1 pc = .ok (.ifCond .lt off, 3)) (ht : (pc : Int) + off = (tgt : Int)) (ka : x < 0 → V mi d b0 b1 bc bs (tgt) ls st M dec A) (kb : ¬ x < 0 → V mi d b0 b1 bc bs (pc + 3) ls st M dec B) : V mi d b0 b1 bc bs pc ls (pI x :: st) M dec (if x < 0 then A else B) :=
  v_br ka kb (fun h => (okS_cons.mp h).2) (fun hS G b p l e s m args below meth c Q C H locs cells slots lsA wa wb => by
    have hx : r32 x := (okS_cons.mp hS).1
    have hy : r32 0 := r32_0
    have hE := q_lt hx hy
    rw [q_0] at hE
    exact lv_if_lt C.1 C.2.1 hd ht (fun h => wa (hE.mp h)) (fun h => wb (fun q => h (hE.mpr q))))
theorem v_icmp_lt {x y : Int} {off : Int} {tgt : Nat} (hd : decode mi.2.1 pc = .ok (.if_icmp .lt off, 3)) (ht : (pc : Int) + off = (tgt : Int)) (ka : x < y → V mi d b0 b1 bc bs (tgt) ls st M dec A) (kb : ¬ x < y → V mi d b0 b1 bc bs (pc + 3) ls st M dec B) : V mi d b0 b1 bc bs pc ls (pI y :: pI x :: st) M dec (if x < y then A else B) :=
  v_br ka kb (fun h => (okS_cons.mp (okS_cons.mp h).2).2) (fun hS G b p l e s m args below meth c Q C H locs cells slots lsA wa wb => by
    have hx : r32 x := (okS_cons.mp (okS_cons.mp hS).2).1
    have hy : r32 y := (okS_cons.mp hS).1
    have hE := q_lt hx hy
    exact lv_icmp_lt C.1 C.2.1 hd ht (fun h => wa (hE.mp h)) (fun h => wb (fun q => h (hE.mpr q))))
theorem v_if_ge {x : Int} {off : Int} {tgt : Nat} (hd : decode mi.2.1 pc = .ok (.ifCond .ge off, 3)) (ht : (pc : Int) + off = (tgt : Int)) (ka : x < 0 → V mi d b0 b1 bc bs (pc + 3) ls st M dec A) (kb : ¬ x < 0 → V mi d b0 b1 bc bs (tgt) ls st M dec B) : V mi d b0 b1 bc bs pc ls (pI x :: st) M dec (if x < 0 then A else B) :=
  v_br ka kb (fun h => (okS_cons.mp h).2) (fun hS G b p l e s m args below meth c Q C H locs cells slots lsA wa wb => by
    have hx : r32 x := (okS_cons.mp hS).1
    have hy : r32 0 := r32_0
    have hE := q_le hy hx
    rw [q_0] at hE
    exact lv_if_ge C.1 C.2.1 hd ht (fun h => wb (fun q => by have := hE.mp h; omega)) (fun h => wa (Int.not_le.mp (fun q => h (hE.mpr q)))))
theorem v_icmp_ge {x y : Int} {off : Int} {tgt : Nat} (hd : decode mi.2.1 pc = .ok (.if_icmp .ge off, 3)) (ht : (pc : Int) + off = (tgt : Int)) (ka : x < y → V mi d b0 b1 bc bs (pc + 3) ls st M dec A) (kb : ¬ x < y → V mi d b0 b1 bc bs (tgt) ls st M dec B) : V mi d b0 b1 bc bs pc ls (pI y :: pI x :: st) M dec (if x < y then A else B) :=
  v_br ka kb (fun h => (okS_cons.mp (okS_cons.mp h).2).2) (fun hS G b p l e s m args below meth c Q C H locs cells slots lsA wa wb => by
    have hx : r32 x := (okS_cons.mp (okS_cons.mp hS).2).1
    have hy : r32 y := (okS_cons.mp hS).1
    have hE := q_le hy hx
    exact lv_icmp_ge C.1 C.2.1 hd ht (fun h => wb (fun q => by have := hE.mp h; omega)) (fun h => wa (Int.not_le.mp (fun q => h (hE.mpr q)))))
theorem v_if_gt {x : Int} {off : Int} {tgt : Nat} (hd : decode mi.2.1 pc = .ok (.ifCond .gt off, 3)) (ht : (pc : Int) + off = (tgt : Int)) (ka : 0 < x → V mi d b0 b1 bc bs (tgt) ls st M dec A) (kb : ¬ 0 < x → V mi d b0 b1 bc bs (pc + 3) ls st M dec B) : V mi d b0 b1 bc bs pc ls (pI x :: st) M dec (if 0 < x then A else B) :=
  v_br ka kb (fun h => (okS_cons.mp h).2) (fun hS G b p l e s m args below meth c Q C H locs cells slots lsA wa wb => by
    have hx : r32 x := (okS_cons.mp hS).1
    have hy : r32 0 := r32_0
    have hE := q_lt hy hx
    rw [q_0] at hE
    exact lv_if_gt C.1 C.2.1 hd ht (fun h => wa (hE.mp h)) (fun h => wb (fun q => h (hE.mpr q))))
theorem v_icmp_gt {x y : Int} {off : Int} {tgt : Nat} (hd : decode mi.2.1 pc = .ok (.if_icmp .gt off, 3)) (ht : (pc : Int) + off = (tgt : Int)) (ka : y < x → V mi d b0 b1 bc bs (tgt) ls st M dec A) (kb : ¬ y < x → V mi d b0 b1 bc bs (pc + 3) ls st M dec B) : V mi d b0 b1 bc bs pc ls (pI y :: pI x :: st) M dec (if y < x then A else B) :=
  v_br ka kb (fun h => (okS_cons.mp (okS_cons.mp h).2).2) (fun hS G b p l e s m args below meth c Q C H locs cells slots lsA wa wb => by
    have hx : r32 x := (okS_cons.mp (okS_cons.mp hS).2).1
    have hy : r32 y := (okS_cons.mp hS).1
    have hE := q_lt hy hx
    exact lv_icmp_gt C.1 C.2.1 hd ht (fun h => wa (hE.mp h)) (fun h => wb (fun q => h (hE.mpr q))))
theorem v_if_le {x : Int} {off : Int} {tgt : Nat} (hd : decode mi.2.1 pc = .ok (.ifCond .le off, 3)) (ht : (pc : Int) + off = (tgt : Int)) (ka : 0 < x → V mi d b0 b1 bc bs (pc + 3) ls st M dec A) (kb : ¬ 0 < x → V mi d b0 b1 bc bs (tgt) ls st M dec B) : V mi d b0 b1 bc bs pc ls (pI x :: st) M dec (if 0 < x then A else B) :=
  v_br ka kb (fun h => (okS_cons.mp h).2) (fun hS G b p l e s m args below meth c Q C H locs cells slots lsA wa wb => by
    have hx : r32 x := (okS_cons.mp hS).1
    have hy : r32 0 := r32_0
    have hE := q_le hx hy
    rw [q_0] at hE
    exact lv_if_le C.1 C.2.1 hd ht (fun h => wb (fun q => by have := hE.mp h; omega)) (fun h => wa (Int.not_le.mp (fun q => h (hE.mpr q)))))
theorem v_icmp_le {x y : Int} {off : Int} {tgt : Nat} (hd : decode mi.2.1 pc = .ok (.if_icmp .le off, 3)) (ht : (pc : Int) + off = (tgt : Int)) (ka : y < x → V mi d b0 b1 bc bs (pc + 3) ls st M dec A) (kb : ¬ y < x → V mi d b0 b1 bc bs (tgt) ls st M dec B) : V mi d b0 b1 bc bs pc ls (pI y :: pI x :: st) M dec (if y < x then A else B) :=
  v_br ka kb (fun h => (okS_cons.mp (okS_cons.mp h).2).2) (fun hS G b p l e s m args below meth c Q C H locs cells slots lsA wa wb => by
    have hx : r32 x := (okS_cons.mp (okS_cons.mp hS).2).1
    have hy : r32 y := (okS_cons.mp hS).1
    have hE := q_le hx hy
    exact lv_icmp_le C.1 C.2.1 hd ht (fun h => wb (fun q => by have := hE.mp h; omega)) (fun h => wa (Int.not_le.mp (fun q => h (hE.mpr q)))))
theorem v_ifnull {x : Int} {off : Int} {tgt : Nat} (hd : decode mi.2.1 pc = .ok (.ifnull off, 3)) (ht : (pc : Int) + off = (tgt : Int)) (ka : x = -1 → V mi d b0 b1 bc bs tgt ls st M dec A) (kb : ¬ x = -1 → V mi d b0 b1 bc bs (pc + 3) ls st M dec B) : V mi d b0 b1 bc bs pc ls (pA x :: st) M dec (if x = -1 then A else B) :=
  v_br ka kb (fun h => (okS_cons.mp h).2) (fun hS G b p l e s m args below meth c Q C H locs cells slots lsA wa wb => by
    simp only [List.map_cons, eV, eR]
    split
    · rename_i h; exact lv_ifnullN C.1 C.2.1 hd ht (wa h)
    · rename_i h
      split
      · exact lv_ifnull C.1 C.2.1 hd (wb h)
      · exact lv_ifnull C.1 C.2.1 hd (wb h))
theorem v_ifnonnull {x : Int} {off : Int} {tgt : Nat} (hd : decode mi.2.1 pc = .ok (.ifnonnull off, 3)) (ht : (pc : Int) + off = (tgt : Int)) (ka : x = -1 → V mi d b0 b1 bc bs (pc + 3) ls st M dec A) (kb : ¬ x = -1 → V mi d b0 b1 bc bs tgt ls st M dec B) : V mi d b0 b1 bc bs pc ls (pA x :: st) M dec (if x = -1 then A else B) :=
  v_br ka kb (fun h => (okS_cons.mp h).2) (fun hS G b p l e s m args below meth c Q C H locs cells slots lsA wa wb => by
    simp only [List.map_cons, eV, eR]
    split
    · rename_i h; exact lv_ifnonnullN C.1 C.2.1 hd (wa h)
    · rename_i h
      split
      · exact lv_ifnonnull C.1 C.2.1 hd ht (wb h)
      · exact lv_ifnonnull C.1 C.2.1 hd ht (wb h))
theorem v_goto {off : Int} {tgt : Nat} (hd : decode mi.2.1 pc = .ok (.goto off, 3)) (ht : (pc : Int) + off = (tgt : Int)) (k : V mi d b0 b1 bc bs tgt ls st M dec X) : V mi d b0 b1 bc bs pc ls st M dec X :=
  v_op k (fun _ h => h) (fun _ _ G b p l e s m args below meth c Q C H locs cells slots lsA _ kk => lv_goto C.1 C.2.1 hd ht kk)
/-- a case of the pure side alone -/
theorem v_ite {P : Prop} [Decidable P] (ka : P → V mi d b0 b1 bc bs pc ls st M dec A) (kb : ¬ P → V mi d b0 b1 bc bs pc ls st M dec B) : V mi d b0 b1 bc bs pc ls st M dec (if P then A else B) := by
  by_cases h : P
  · rw [if_pos h]; exact ka h
  · rw [if_neg h]; exact kb h
theorem v_tabIn {dflt lo hi : Int} {offs : Array Int} {len : Nat} {x n off : Int} {tgt : Nat} (hd : decode mi.2.1 pc = .ok (.tableswitch dflt lo hi offs, len)) (hx : x = n) (h1 : lo ≤ n ∧ n ≤ hi ∧ offs[(n - lo).toNat]? = some off ∧ (pc : Int) + off = (tgt : Int)) (k : V mi d b0 b1 bc bs tgt ls st M dec X) : V mi d b0 b1 bc bs pc ls (pI x :: st) M dec X := by
  subst hx
  obtain ⟨h1, h2, h3, h4⟩ := h1
  exact v_op k (fun _ h => (okS_cons.mp h).2) (fun _ hS G b p l e s m args below meth c Q C H locs cells slots lsA _ kk => by
    have hx := q_in (okS_cons.mp hS).1
    exact lv_tableIn C.1 C.2.1 hd (by rw [hx]; omega) (by rw [hx]; omega) (by rw [hx]; exact h3) h4 kk)
theorem v_tabOut {dflt lo hi : Int} {offs : Array Int} {len : Nat} {x : Int} {tgt : Nat} (hd : decode mi.2.1 pc = .ok (.tableswitch dflt lo hi offs, len)) (hx : x < lo ∨ hi < x) (ht : (pc : Int) + dflt = (tgt : Int)) (k : V mi d b0 b1 bc bs tgt ls st M dec X) : V mi d b0 b1 bc bs pc ls (pI x :: st) M dec X :=
  v_op k (fun _ h => (okS_cons.mp h).2) (fun _ hS G b p l e s m args below meth c Q C H locs cells slots lsA _ kk => by
    have h := q_in (okS_cons.mp hS).1
    exact lv_tableOut C.1 C.2.1 hd (by rw [h]; exact hx) ht kk)
/-! the ends -/
theorem v_ireturn {x : Int} {r : ρ} (hd : decode mi.2.1 pc = .ok (.ireturn, 1)) (hr : mi.2.2.2.1 = some .int) (h : dec r = (some (pI x), M)) : V mi d b0 b1 bc bs pc ls [pI x] M dec (some r) := by
  intro r' e hM hL hS
  cases e
  rw [h]
  refine ⟨⟨hM, fun v hv => by cases hv; exact (okS_cons.mp hS).1⟩, fun G b p l e s m args below meth c C H locs cells slots lsA D => ?_⟩
  obtain ⟨D1, D2, D3, D4, D5, D6⟩ := D
  refine W.widen (k := b0) (n := b1) (by omega) (by omega) ?_
  exact W.iret (v := Int32.ofInt x) C.1 C.2.1 (C.2.2.1.trans hr) (fun t ht hW => ⟨rfl, by rw [ht]; exact D1, by rw [ht]; exact D2, by rw [ht]; exact D3.1, fun q h1 h2 => by rw [ht]; exact D3.2.1 q h1 h2⟩) D3.2.2 hd (hlocks := C.2.2.2.2.2.2.1)
theorem v_zreturn {x : Int} {ty : FieldType} {r : ρ} (hd : decode mi.2.1 pc = .ok (.ireturn, 1)) (hr : mi.2.2.2.1 = some ty) (hn : narrow ty (.int (Int32.ofInt x)) = .int (Int32.ofInt x)) (h : dec r = (some (pI x), M)) : V mi d b0 b1 bc bs pc ls [pI x] M dec (some r) := by
  intro r' e hM hL hS
  cases e
  rw [h]
  refine ⟨⟨hM, fun v hv => by cases hv; exact (okS_cons.mp hS).1⟩, fun G b p l e s m args below meth c C H locs cells slots lsA D => ?_⟩
  obtain ⟨D1, D2, D3, D4, D5, D6⟩ := D
  refine W.widen (k := b0) (n := b1) (by omega) (by omega) ?_
  exact W.zret (v := Int32.ofInt x) C.1 C.2.1 (C.2.2.1.trans hr) hn (fun t ht hW => ⟨rfl, by rw [ht]; exact D1, by rw [ht]; exact D2, by rw [ht]; exact D3.1, fun q h1 h2 => by rw [ht]; exact D3.2.1 q h1 h2⟩) D3.2.2 hd (hlocks := C.2.2.2.2.2.2.1)
theorem nar_z {x : Int} (h : x = 0 ∨ x = 1) : narrow .boolean (.int (Int32.ofInt x)) = .int (Int32.ofInt x) := by
  rcases h with rfl | rfl <;> decide
theorem v_breturn {x : Int} {r : ρ} (hd : decode mi.2.1 pc = .ok (.ireturn, 1)) (hr : mi.2.2.2.1 = some .boolean) (hx : x = 0 ∨ x = 1) (h : dec r = (some (pI x), M)) : V mi d b0 b1 bc bs pc ls [pI x] M dec (some r) := v_zreturn hd hr (nar_z hx) h
theorem v_return {r : ρ} (hd : decode mi.2.1 pc = .ok (.return_, 1)) (hr : mi.2.2.2.1 = none) (h : dec r = (none, M)) : V mi d b0 b1 bc bs pc ls [] M dec (some r) := by
  intro r' e hM hL hS
  cases e
  rw [h]
  refine ⟨⟨hM, fun v hv => by cases hv⟩, fun G b p l e s m args below meth c C H locs cells slots lsA D => ?_⟩
  obtain ⟨D1, D2, D3, D4, D5, D6⟩ := D
  refine W.widen (k := b0) (n := b1) (by omega) (by omega) ?_
  exact W.vret C.1 C.2.1 (C.2.2.1.trans hr) (fun t ht hW => ⟨rfl, by rw [ht]; exact D1, by rw [ht]; exact D2, by rw [ht]; exact D3.1, fun q h1 h2 => by rw [ht]; exact D3.2.1 q h1 h2⟩) D3.2.2 hd (hlocks := C.2.2.2.2.2.2.1)
theorem v_areturn {x : Int} {rt : FieldType} {r : ρ} (hd : decode mi.2.1 pc = .ok (.areturn, 1)) (hr : mi.2.2.2.1 = some rt) (hrt : (∃ n, rt = .object n) ∨ ∃ t, rt = .array t) (h : dec r = (some (pA x), M)) : V mi d b0 b1 bc bs pc ls [pA x] M dec (some r) := by
  intro r' e hM hL hS
  cases e
  rw [h]
  refine ⟨⟨hM, fun v hv => by cases hv; trivial⟩, fun G b p l e s m args below meth c C H locs cells slots lsA D => ?_⟩
  obtain ⟨D1, D2, D3, D4, D5, D6⟩ := D
  refine W.widen (k := b0) (n := b1) (by omega) (by omega) ?_
  exact W.aret (v := eR b G.2.2.2.1 x) C.1 C.2.1 (C.2.2.1.trans hr) hrt (by unfold eR; split; exact Or.inl rfl; split; exact Or.inr ⟨_, rfl⟩; exact Or.inr ⟨_, rfl⟩) (fun t ht hW => ⟨rfl, by rw [ht]; exact D1, by rw [ht]; exact D2, by rw [ht]; exact D3.1, fun q h1 h2 => by rw [ht]; exact D3.2.1 q h1 h2⟩) D3.2.2 hd (hlocks := C.2.2.2.2.2.2.1)
end RulesA
