def imax (x y : Int) : Int := if x < y then y else x
def imin (x y : Int) : Int := if y < x then y else x
def iabs (x : Int) : Int := if 0 ≤ x then x else w32 (0 - x)
section RulesK
variable {ρ : Type} {mi : MI} {d b0 b1 bc bs pc : Nat} {ls ls' : List (Option PV)} {st : List PV} {M : Mem} {dec : ρ → Option PV × Mem} {X A B : Option ρ}
theorem v_mmax {x y : Int} {index : Nat} (hlk : Cond.methodLink mi.1.cls index Lib.Math.max.name ∈ GT) (h2 : Cond.static Lib.Math.max.name ∈ GT) (h3 : Cond.initialized "java/lang/Math" ∈ GT) (h4 : Cond.code Lib.Math.max.name Lib.Math.max.code 2 (some .int) ∈ GT) (hst : st.length ≤ 10) (hd : decode mi.2.1 pc = .ok (.invokestatic index, 3))
    (kk : V mi (d + 1) b0 b1 bc bs (pc + 3) ls (pI (imax x y) :: st) M dec X) : V mi (d + 1) b0 b1 bc bs pc ls (pI y :: pI x :: st) M dec X := by
  refine v_step kk (fun hM hL hS => ⟨hM, hL, okS_cons.mpr ⟨?_, (okS_cons.mp (okS_cons.mp hS).2).2⟩⟩) (fun hM hL hS G b p l e s m args below meth c Q Cc H locs cells slots lsA D w => ?_)
  · have h1 := (okS_cons.mp hS).1; have h2 := (okS_cons.mp (okS_cons.mp hS).2).1
    show r32 (imax x y); unfold imax; split
    · exact h1
    · exact h2
  have hy := (okS_cons.mp hS).1; have hx := (okS_cons.mp (okS_cons.mp hS).2).1
  have hts := Cc.2.2.2.2.2.1
  have hs := wd_sum (b := b) (cs := G.2.2.2.1) st
  have w2 := w H locs cells slots lsA D
  refine va_mmax Cc.1 Cc.2.1 (by rw [Cc.2.2.2.1]; exact D.2.2.2.1.1.symm) Cc.2.2.2.2.1 (hts _ hlk) (hts _ h2) (hts _ h3) (hts _ h4) (show 1 ≤ d + 1 by omega) (by show _ ≤ 64 * (d + 1); omega) (by have := D.2.2.2.2.1; show cells ≤ b0; omega) (by have := D.2.2.2.2.2; show slots ≤ b1; omega) hd ?_
  simp only [List.map_cons, eV, imax] at w2
  by_cases hq : x < y
  · rw [if_pos hq] at w2; rw [if_pos ((q_lt hx hy).mpr hq)]; exact w2
  · rw [if_neg hq] at w2; rw [if_neg (fun z => hq ((q_lt hx hy).mp z))]; exact w2
theorem v_mmin {x y : Int} {index : Nat} (hlk : Cond.methodLink mi.1.cls index Lib.Math.min.name ∈ GT) (h2 : Cond.static Lib.Math.min.name ∈ GT) (h3 : Cond.initialized "java/lang/Math" ∈ GT) (h4 : Cond.code Lib.Math.min.name Lib.Math.min.code 2 (some .int) ∈ GT) (hst : st.length ≤ 10) (hd : decode mi.2.1 pc = .ok (.invokestatic index, 3))
    (kk : V mi (d + 1) b0 b1 bc bs (pc + 3) ls (pI (imin x y) :: st) M dec X) : V mi (d + 1) b0 b1 bc bs pc ls (pI y :: pI x :: st) M dec X := by
  refine v_step kk (fun hM hL hS => ⟨hM, hL, okS_cons.mpr ⟨?_, (okS_cons.mp (okS_cons.mp hS).2).2⟩⟩) (fun hM hL hS G b p l e s m args below meth c Q Cc H locs cells slots lsA D w => ?_)
  · have h1 := (okS_cons.mp hS).1; have h2 := (okS_cons.mp (okS_cons.mp hS).2).1
    show r32 (imin x y); unfold imin; split
    · exact h1
    · exact h2
  have hy := (okS_cons.mp hS).1; have hx := (okS_cons.mp (okS_cons.mp hS).2).1
  have hts := Cc.2.2.2.2.2.1
  have hs := wd_sum (b := b) (cs := G.2.2.2.1) st
  have w2 := w H locs cells slots lsA D
  refine va_mmin Cc.1 Cc.2.1 (by rw [Cc.2.2.2.1]; exact D.2.2.2.1.1.symm) Cc.2.2.2.2.1 (hts _ hlk) (hts _ h2) (hts _ h3) (hts _ h4) (show 1 ≤ d + 1 by omega) (by show _ ≤ 64 * (d + 1); omega) (by have := D.2.2.2.2.1; show cells ≤ b0; omega) (by have := D.2.2.2.2.2; show slots ≤ b1; omega) hd ?_
  simp only [List.map_cons, eV, imin] at w2
  by_cases hq : y < x
  · rw [if_pos hq] at w2; rw [if_pos ((q_lt hy hx).mpr hq)]; exact w2
  · rw [if_neg hq] at w2; rw [if_neg (fun z => hq ((q_lt hy hx).mp z))]; exact w2
theorem v_mabs {x : Int} {index : Nat} (hlk : Cond.methodLink mi.1.cls index Lib.Math.abs.name ∈ GT) (h2 : Cond.static Lib.Math.abs.name ∈ GT) (h3 : Cond.initialized "java/lang/Math" ∈ GT) (h4 : Cond.code Lib.Math.abs.name Lib.Math.abs.code 1 (some .int) ∈ GT) (hst : st.length ≤ 10) (hd : decode mi.2.1 pc = .ok (.invokestatic index, 3))
    (kk : V mi (d + 1) b0 b1 bc bs (pc + 3) ls (pI (iabs x) :: st) M dec X) : V mi (d + 1) b0 b1 bc bs pc ls (pI x :: st) M dec X := by
  refine v_step kk (fun hM hL hS => ⟨hM, hL, okS_cons.mpr ⟨?_, (okS_cons.mp hS).2⟩⟩) (fun hM hL hS G b p l e s m args below meth c Q Cc H locs cells slots lsA D w => ?_)
  · have h1 := (okS_cons.mp hS).1
    show r32 (iabs x); unfold iabs; split
    · exact h1
    · exact w32_r _
  have hx := (okS_cons.mp hS).1
  have hts := Cc.2.2.2.2.2.1
  have hs := wd_sum (b := b) (cs := G.2.2.2.1) st
  have w2 := w H locs cells slots lsA D
  refine va_mabs Cc.1 Cc.2.1 (by rw [Cc.2.2.2.1]; exact D.2.2.2.1.1.symm) Cc.2.2.2.2.1 (hts _ hlk) (hts _ h2) (hts _ h3) (hts _ h4) (show 1 ≤ d + 1 by omega) (by show _ ≤ 64 * (d + 1); omega) (by have := D.2.2.2.2.1; show cells ≤ b0; omega) (by have := D.2.2.2.2.2; show slots ≤ b1; omega) hd ?_
  simp only [List.map_cons, eV, iabs] at w2
  by_cases hq : 0 ≤ x
  · rw [if_pos hq] at w2; rw [if_pos (by have := (q_le r32_0 hx).mpr hq; rw [q_0] at this; exact this)]; exact w2
  · rw [if_neg hq] at w2; rw [if_neg (fun z => hq ((q_le r32_0 hx).mp (by rw [q_0]; exact z)))]
    rw [← q_sub, q_0] at w2; exact w2
def wsz : List PV → Nat
  | [] => 0
  | .inr (.inl _) :: r => 2 + wsz r
  | _ :: r => 1 + wsz r
theorem wsz_sum {b : Nat} {cs : Nat → Nat} : ∀ (st : List PV), ((st.map (eV b cs)).map fun v => v.category).sum = wsz st
  | [] => rfl
  | .inl x :: st => by
    have := wsz_sum (b := b) (cs := cs) st
    simp only [List.map_cons, List.sum_cons, this, wsz]; rfl
  | .inr (.inl x) :: st => by
    have := wsz_sum (b := b) (cs := cs) st
    simp only [List.map_cons, List.sum_cons, this, wsz]; rfl
  | .inr (.inr x) :: st => by
    have := wsz_sum (b := b) (cs := cs) st
    simp only [List.map_cons, List.sum_cons, this, wsz]
    rw [show (eV b cs (.inr (.inr x))).category = 1 from eR_cat b cs x]
theorem hW_of2 {b : Nat} {cs : Nat → Nat} {m : MethodId} {pc : Nat} {lsA : Array Slot} {rest : List Value} (h : wsz st ≤ 8) : 2 * (F0 m pc lsA rest).monitorRoom + ((st.map (eV b cs)).map fun v => v.category).sum ≤ 8 :=
  lv_room (by rw [wsz_sum]; exact h)
theorem v_dV {ρ' : Type} {dec' : ρ' → Option PV × Mem} {X' : Option ρ'} {K : ρ' → Option ρ} {mi' : MI} {c0 c1 index ci n : Nat} {C : String} {T : u_T} {N : Nat} {a : Int} {As : List PV} (hC : Ct mi' d c0 c1 (pA a :: As) M dec' X') (hc : vwCl[ci]? = some (C, T, N)) (ha : M.2.1 a = (ci : Int)) (hcls : mi'.1.cls = C) (ho : cok mi' n)
    (hlk : Cond.methodLink mi.1.cls index mi'.1 ∈ GT ∨ (mi.1.cls, index, mi'.1, "OneBack") ∈ NW) (him : Cond.instanceMethod mi'.1 ∈ GT) (hse : Cond.selects C mi'.1 mi'.1 ∈ GT) (hn : As.length = n) (hst : wsz st ≤ 8) (hd : decode mi.2.1 pc = .ok (.invokevirtual index, 3))
    (k : ∀ r, X' = some r → V mi (d + 1) b0 b1 bc bs (pc + 3) ls ((dec' r).1.toList ++ st) (dec' r).2 dec (K r)) {st0 : List PV} (hs0 : st0 = As.reverse ++ pA a :: st) : V mi (d + 1) b0 b1 (bc + c0) (bs + c1) pc ls st0 M dec (X'.bind K) := by
  subst hs0
  obtain ⟨c10, -⟩ := cls_n hc
  refine v_callR hC (fun h => ⟨fun v hv => h v (by simp only [List.mem_append, List.mem_cons, List.mem_reverse] at hv ⊢; rcases hv with q | q <;> simp [q]), fun v hv => h v (by simp [hv])⟩) k (fun hM G b p l e s m args below meth c r Cc H locs cells slots lsA D mt => ?_)
  obtain ⟨o1, o2, o3, o4, o5, o6⟩ := ho
  obtain ⟨a0, a1, a2⟩ := wsM_get (cA := G.2.2.1) (b := b) hM (a := a) (by rw [ha]; omega)
  rw [cE_obj (k := (ci : Int)) (by rw [toNat_c a0]; exact ha) (by omega), Int.toNat_natCast] at a2
  have hts := Cc.2.2.2.2.2.1
  have hA := Cc.2.2.2.2.2.2.2.2.1
  have hgood : GoodIn GT (.code mi'.1 mi'.2.1 mi'.2.2.1 mi'.2.2.2.1 :: GT) := gIn (fun w hw => (List.mem_cons.mp hw).elim (fun e => by rw [e]; exact o1) id)
  have hp : PreV s H C (b + a.toNat) (PcR G b (pA a :: As) M) (As.map (eV b G.2.2.2.1)) := ⟨pcR_blind, va_recv hA.1 D.2.1 hc a2, fun U hU hW => by
    have := pcR_at (As := pA a :: As) hA D U hU hW
    simp only [List.map_cons, eV] at this
    rw [eR_nn a0] at this
    exact this⟩
  have e9 : ((pA a :: As).map (eV b G.2.2.2.1)).toArray = (Value.ref (b + a.toNat) :: As.map (eV b G.2.2.2.1)).toArray := by simp only [List.map_cons, eV]; rw [eR_nn a0]
  have e8 : (As.reverse ++ pA a :: st).map (eV b G.2.2.2.1) = (As.map (eV b G.2.2.2.1)).reverse ++ .ref (b + a.toNat) :: st.map (eV b G.2.2.2.1) := by
    rw [List.map_append, List.map_reverse, List.map_cons]; simp only [eV]; rw [eR_nn a0]
  have hR : (rmD d c0 c1).frames + 1 ≤ (rmD (d + 1) b0 b1).frames ∧ 8 + (mi'.2.2.1 + 11) + (rmD d c0 c1).locals ≤ (rmD (d + 1) b0 b1).locals := ⟨Nat.le_refl _, by show 8 + (mi'.2.2.1 + 11) + 64 * d ≤ 64 * (d + 1); omega⟩
  obtain ⟨D1, D2, D3, D4, D5, D6⟩ := id D
  rw [e9, e8]
  rcases hlk with hlk | hlk
  · refine va_runV (Ts := GT) (nL := mi.2.2.1) (n := n) ⟨Cc.1, Cc.2.1, Cc.2.2.2.1, Cc.2.2.2.2.1, hts⟩ mt (cwV n hts (C := C) (gIn (fun w hw => ?_)) rfl rfl rfl ⟨hcls, o4, o5, o6⟩ hR) hp rfl (by rw [List.length_map]; exact hn) D4.1 rfl (hW_of2 hst) hd ⟨by show cells + c0 ≤ b0; omega, by show slots + c1 ≤ b1; omega⟩
    unfold wsV at hw
    rcases List.mem_append.mp hw with h | h
    · simp only [List.mem_cons, List.not_mem_nil, or_false] at h
      rcases h with rfl | rfl | rfl | rfl
      · exact hlk
      · exact him
      · exact hse
      · rw [← hcls]; exact o2
    · exact (hgood w h).1
  · exact va_runVN (Ts := GT) (nL := mi.2.2.1) (n := n) (C := C) ⟨Cc.1, Cc.2.1, Cc.2.2.2.1, Cc.2.2.2.2.1, hts⟩ mt ⟨va_cnB n hts hgood rfl rfl rfl (hA.2.1 _ hlk) (hts _ o2) ⟨o4, o5, o6⟩ hR, hts _ him, hts _ hse⟩ hp rfl (by rw [List.length_map]; exact hn) D4.1 rfl (hW_of2 hst) hd ⟨by show cells + c0 ≤ b0; omega, by show slots + c1 ≤ b1; omega⟩
theorem v_dS {ρ' : Type} {dec' : ρ' → Option PV × Mem} {X' : Option ρ'} {K : ρ' → Option ρ} {mi' : MI} {c0 c1 index n : Nat} {As : List PV} (hC : Ct mi' d c0 c1 As M dec' X') (ho : cok mi' n)
    (hlk : Cond.methodLink mi.1.cls index mi'.1 ∈ GT ∨ (mi.1.cls, index, mi'.1, "OneBack") ∈ NW) (hsta : Cond.static mi'.1 ∈ GT) (hn : As.length = n) (hst : wsz st ≤ 8) (hd : decode mi.2.1 pc = .ok (.invokestatic index, 3))
    (k : ∀ r, X' = some r → V mi (d + 1) b0 b1 bc bs (pc + 3) ls ((dec' r).1.toList ++ st) (dec' r).2 dec (K r)) {st0 : List PV} (hs0 : st0 = As.reverse ++ st) : V mi (d + 1) b0 b1 (bc + c0) (bs + c1) pc ls st0 M dec (X'.bind K) := by
  subst hs0
  refine v_callR hC (fun h => ⟨fun v hv => h v (by simp [hv]), fun v hv => h v (by simp [hv])⟩) k (fun hM G b p l e s m args below meth c r Cc H locs cells slots lsA D mt => ?_)
  obtain ⟨o1, o2, o3, o4, o5, o6⟩ := ho
  have hts := Cc.2.2.2.2.2.1
  have hA := Cc.2.2.2.2.2.2.2.2.1
  have hgood : GoodIn GT (.code mi'.1 mi'.2.1 mi'.2.2.1 mi'.2.2.2.1 :: GT) := gIn (fun w hw => (List.mem_cons.mp hw).elim (fun e => by rw [e]; exact o1) id)
  have hp : PreS s H (PcR G b As M) (As.map (eV b G.2.2.2.1)) := ⟨pcR_blind, pcR_at hA D⟩
  have e8 : (As.reverse ++ st).map (eV b G.2.2.2.1) = (As.map (eV b G.2.2.2.1)).reverse ++ st.map (eV b G.2.2.2.1) := by rw [List.map_append, List.map_reverse]
  have hR : (rmD d c0 c1).frames + 1 ≤ (rmD (d + 1) b0 b1).frames ∧ 8 + (mi'.2.2.1 + 11) + (rmD d c0 c1).locals ≤ (rmD (d + 1) b0 b1).locals := ⟨Nat.le_refl _, by show 8 + (mi'.2.2.1 + 11) + 64 * d ≤ 64 * (d + 1); omega⟩
  obtain ⟨D1, D2, D3, D4, D5, D6⟩ := id D
  rw [e8]
  rcases hlk with hlk | hlk
  · exact va_runS (Ts := GT) (nL := mi.2.2.1) (n := n) ⟨Cc.1, Cc.2.1, Cc.2.2.2.1, Cc.2.2.2.2.1, hts⟩ mt ⟨callB_of n hts hgood rfl rfl rfl (hts _ o2) (hts _ hlk) ⟨o4, o5, o6⟩ hR, hts _ hsta⟩ hp rfl (by rw [List.length_map]; exact hn) D4.1 rfl (hW_of2 hst) hd ⟨by show cells + c0 ≤ b0; omega, by show slots + c1 ≤ b1; omega⟩
  · exact va_runSN (Ts := GT) (nL := mi.2.2.1) (n := n) ⟨Cc.1, Cc.2.1, Cc.2.2.2.1, Cc.2.2.2.2.1, hts⟩ mt ⟨va_cnB n hts hgood rfl rfl rfl (hA.2.1 _ hlk) (hts _ o2) ⟨o4, o5, o6⟩ hR, hts _ hsta, trivial⟩ hp rfl (by rw [List.length_map]; exact hn) D4.1 rfl (hW_of2 hst) hd ⟨by show cells + c0 ≤ b0; omega, by show slots + c1 ≤ b1; omega⟩
theorem v_dI {ρ' : Type} {dec' : ρ' → Option PV × Mem} {X' : Option ρ'} {K : ρ' → Option ρ} {mi' : MI} {c0 c1 index n : Nat} {a : Int} {As : List PV} (hC : Ct mi' d c0 c1 (pA a :: As) M dec' X') (ha : 0 ≤ a) (ho : cok mi' n) (hret : mi'.2.2.2.1 = none) (hnm : mi'.1.name = "<init>")
    (hlk : Cond.methodLink mi.1.cls index mi'.1 ∈ GT ∨ (mi.1.cls, index, mi'.1, "OneBack") ∈ NW) (him : Cond.instanceMethod mi'.1 ∈ GT) (hn : As.length = n) (hst : wsz st ≤ 8) (hd : decode mi.2.1 pc = .ok (.invokespecial index, 3))
    (k : ∀ r, X' = some r → V mi (d + 1) b0 b1 bc bs (pc + 3) ls ((dec' r).1.toList ++ st) (dec' r).2 dec (K r)) {st0 : List PV} (hs0 : st0 = As.reverse ++ pA a :: st) : V mi (d + 1) b0 b1 (bc + c0) (bs + c1) pc ls st0 M dec (X'.bind K) := by
  subst hs0
  refine v_callR hC (fun h => ⟨fun v hv => h v (by simp only [List.mem_append, List.mem_cons, List.mem_reverse] at hv ⊢; rcases hv with q | q <;> simp [q]), fun v hv => h v (by simp [hv])⟩) k (fun hM G b p l e s m args below meth c r Cc H locs cells slots lsA D mt => ?_)
  obtain ⟨o1, o2, o3, o4, o5, o6⟩ := ho
  have hts := Cc.2.2.2.2.2.1
  have hA := Cc.2.2.2.2.2.2.2.2.1
  have hgood : GoodIn GT (.code mi'.1 mi'.2.1 mi'.2.2.1 mi'.2.2.2.1 :: GT) := gIn (fun w hw => (List.mem_cons.mp hw).elim (fun e => by rw [e]; exact o1) id)
  have e7 : (pA a :: As).map (eV b G.2.2.2.1) = Value.ref (b + a.toNat) :: As.map (eV b G.2.2.2.1) := by simp only [List.map_cons, eV]; rw [eR_nn ha]
  have hp : PreS s H (PcR G b (pA a :: As) M) (.ref (b + a.toNat) :: As.map (eV b G.2.2.2.1)) := ⟨pcR_blind, fun U hU hW => by
    have := pcR_at (As := pA a :: As) hA D U hU hW
    rw [e7] at this
    exact this⟩
  have e8 : (As.reverse ++ pA a :: st).map (eV b G.2.2.2.1) = (As.map (eV b G.2.2.2.1)).reverse ++ .ref (b + a.toNat) :: st.map (eV b G.2.2.2.1) := by
    rw [List.map_append, List.map_reverse, List.map_cons]; simp only [eV]; rw [eR_nn ha]
  have hR : (rmD d c0 c1).frames + 1 ≤ (rmD (d + 1) b0 b1).frames ∧ 8 + (mi'.2.2.1 + 11) + (rmD d c0 c1).locals ≤ (rmD (d + 1) b0 b1).locals := ⟨Nat.le_refl _, by show 8 + (mi'.2.2.1 + 11) + 64 * d ≤ 64 * (d + 1); omega⟩
  obtain ⟨D1, D2, D3, D4, D5, D6⟩ := id D
  rw [e7, e8]
  rw [hret] at mt hgood
  rcases hlk with hlk | hlk
  · exact va_runI (Ts := GT) (nL := mi.2.2.1) (n := n) ⟨Cc.1, Cc.2.1, Cc.2.2.2.1, Cc.2.2.2.2.1, hts⟩ mt (cwI n hts hgood rfl rfl rfl (hts _ o2) (hts _ hlk) (hts _ him) hnm ⟨o4, o5, o6⟩ hR) hp rfl (by rw [List.length_map]; exact hn) D4.1 rfl (hW_of2 hst) hd ⟨by show cells + c0 ≤ b0; omega, by show slots + c1 ≤ b1; omega⟩
  · exact va_runIN (Ts := GT) (nL := mi.2.2.1) (n := n) ⟨Cc.1, Cc.2.1, Cc.2.2.2.1, Cc.2.2.2.2.1, hts⟩ mt ⟨va_cnB n hts hgood rfl rfl rfl (hA.2.1 _ hlk) (hts _ o2) ⟨o4, o5, o6⟩ hR, hnm, hts _ him⟩ hp rfl (by rw [List.length_map]; exact hn) D4.1 rfl (hW_of2 hst) hd ⟨by show cells + c0 ≤ b0; omega, by show slots + c1 ≤ b1; omega⟩
theorem v_cV {ρ' : Type} {dec' : ρ' → Option PV × Mem} {X' : Option ρ'} {K : ρ' → Option ρ} {mi' : MI} {c0 c1 index ci n : Nat} {C : String} {T : u_T} {N : Nat} {a : Int} {As : List PV} (hC : Ct mi' d c0 c1 (pA a :: As) M dec' X') (hc : vwCl[ci]? = some (C, T, N)) (ha : M.2.1 a = (ci : Int)) (hcls : mi'.1.cls = C) (ho : cok mi' n)
    (hlk : Cond.methodLink mi.1.cls index mi'.1 ∈ GT ∨ (mi.1.cls, index, mi'.1, "OneBack") ∈ NW) (him : Cond.instanceMethod mi'.1 ∈ GT) (hse : Cond.selects C mi'.1 mi'.1 ∈ GT) (hn : As.length = n) (hst : wsz st ≤ 8) (hd : decode mi.2.1 pc = .ok (.invokevirtual index, 3))
    (st1 : ρ' → List PV) (M1 : ρ' → Mem) (h1 : ∀ r, (dec' r).1.toList ++ st = st1 r) (h2 : ∀ r, (dec' r).2 = M1 r) (k : ∀ r, X' = some r → V mi (d + 1) b0 b1 bc bs (pc + 3) ls (st1 r) (M1 r) dec (K r)) {st0 : List PV} (hs0 : st0 = As.reverse ++ pA a :: st) : V mi (d + 1) b0 b1 (bc + c0) (bs + c1) pc ls st0 M dec (X'.bind K) :=
  v_dV hC hc ha hcls ho hlk him hse hn hst hd (fun r hr => by rw [h1, h2]; exact k r hr) hs0
theorem v_cS {ρ' : Type} {dec' : ρ' → Option PV × Mem} {X' : Option ρ'} {K : ρ' → Option ρ} {mi' : MI} {c0 c1 index n : Nat} {As : List PV} (hC : Ct mi' d c0 c1 As M dec' X') (ho : cok mi' n)
    (hlk : Cond.methodLink mi.1.cls index mi'.1 ∈ GT ∨ (mi.1.cls, index, mi'.1, "OneBack") ∈ NW) (hsta : Cond.static mi'.1 ∈ GT) (hn : As.length = n) (hst : wsz st ≤ 8) (hd : decode mi.2.1 pc = .ok (.invokestatic index, 3))
    (st1 : ρ' → List PV) (M1 : ρ' → Mem) (h1 : ∀ r, (dec' r).1.toList ++ st = st1 r) (h2 : ∀ r, (dec' r).2 = M1 r) (k : ∀ r, X' = some r → V mi (d + 1) b0 b1 bc bs (pc + 3) ls (st1 r) (M1 r) dec (K r)) {st0 : List PV} (hs0 : st0 = As.reverse ++ st) : V mi (d + 1) b0 b1 (bc + c0) (bs + c1) pc ls st0 M dec (X'.bind K) :=
  v_dS hC ho hlk hsta hn hst hd (fun r hr => by rw [h1, h2]; exact k r hr) hs0
theorem v_cI {ρ' : Type} {dec' : ρ' → Option PV × Mem} {X' : Option ρ'} {K : ρ' → Option ρ} {mi' : MI} {c0 c1 index n : Nat} {a : Int} {As : List PV} (hC : Ct mi' d c0 c1 (pA a :: As) M dec' X') (ha : 0 ≤ a) (ho : cok mi' n) (hret : mi'.2.2.2.1 = none) (hnm : mi'.1.name = "<init>")
    (hlk : Cond.methodLink mi.1.cls index mi'.1 ∈ GT ∨ (mi.1.cls, index, mi'.1, "OneBack") ∈ NW) (him : Cond.instanceMethod mi'.1 ∈ GT) (hn : As.length = n) (hst : wsz st ≤ 8) (hd : decode mi.2.1 pc = .ok (.invokespecial index, 3))
    (st1 : ρ' → List PV) (M1 : ρ' → Mem) (h1 : ∀ r, (dec' r).1.toList ++ st = st1 r) (h2 : ∀ r, (dec' r).2 = M1 r) (k : ∀ r, X' = some r → V mi (d + 1) b0 b1 bc bs (pc + 3) ls (st1 r) (M1 r) dec (K r)) {st0 : List PV} (hs0 : st0 = As.reverse ++ pA a :: st) : V mi (d + 1) b0 b1 (bc + c0) (bs + c1) pc ls st0 M dec (X'.bind K) :=
  v_dI hC ha ho hret hnm hlk him hn hst hd (fun r hr => by rw [h1, h2]; exact k r hr) hs0
/-! arrays copied whole, from their first places -/
def mcp (M : Mem) (a0 a1 n : Int) : Mem := (fun x y => if x = a1 ∧ 0 ≤ y ∧ y < n then M.1 a0 y else M.1 x y, M.2)
theorem wsM_row {cA : Nat → ClassId} {b : Nat} {M M' : Mem} {a : Nat} (h2 : M'.2 = M.2) (h1 : ∀ x : Int, x ≠ a → M'.1 x = M.1 x) (h : a < M.2.2.2) : (wsM cA b M).set a (b + a, cE cA b M' a) = wsM cA b M' := by
  apply List.ext_getElem?
  intro j
  rw [List.getElem?_set]
  by_cases hj : a = j
  · subst hj
    have hl : a < (wsM cA b M).length := by unfold wsM; rw [List.length_map, List.length_range]; exact h
    rw [if_pos rfl, if_pos hl, wsM_at (M := M') (by rw [h2]; exact h)]
  · rw [if_neg hj]
    unfold wsM
    rw [List.getElem?_map, List.getElem?_map, h2]
    cases hr : (List.range M.2.2.2)[j]? with
    | none => rfl
    | some j' =>
      obtain ⟨hjl, e⟩ := List.getElem?_eq_some_iff.mp hr
      rw [List.getElem_range] at e
      subst e
      show some (b + j, cE cA b M j) = some (b + j, cE cA b M' j)
      congr 2
      unfold cE
      rw [h2, h1 j (by omega)]
theorem q_nn {x : Int} (h : r32 x) (h0 : 0 ≤ x) : ¬ Int32.ofInt x < 0 := fun q => by have := (q_lt h r32_0).mp (by rw [q_0]; exact q); omega
theorem fits_T {k : Int} {x : Int} (h : k = 11 ∨ k = 12) (hx : okT (tOf k 0) x) : fits (if k = 11 then .byte else .int) (.int (Int32.ofInt x)) = true := by
  rcases h with rfl | rfl
  · obtain ⟨h1, h2⟩ := hx
    rw [if_pos rfl]
    have hr : r32 x := by unfold r32; omega
    have a1 : (-128 : Int32) ≤ Int32.ofInt x := (q_le (x := -128) (by unfold r32; omega) hr).mpr h1
    have a2 : Int32.ofInt x ≤ (127 : Int32) := (q_le (y := 127) hr (by unfold r32; omega)).mpr h2
    simp [fits, a1, a2]
  · rfl
theorem v_acopy {a0 a1 n : Int} {index : Nat} (h : (M.2.1 a0 = 11 ∨ M.2.1 a0 = 12) ∧ M.2.1 a1 = M.2.1 a0 ∧ 0 ≤ n ∧ n ≤ M.2.2.1 a0 ∧ n ≤ M.2.2.1 a1) (hlk : Cond.methodLink mi.1.cls index arraycopyName ∈ GT) (h2 : Cond.static arraycopyName ∈ GT) (h3 : Cond.native arraycopyName ∈ GT) (h4 : Cond.initialized "java/lang/System" ∈ GT) (hst : st.length ≤ 4) (hd : decode mi.2.1 pc = .ok (.invokestatic index, 3))
    (kk : V mi (d + 1) b0 b1 bc bs (pc + 3) ls st (mcp M a0 a1 n) dec X) : V mi (d + 1) b0 b1 bc bs pc ls (pI n :: pI 0 :: pA a1 :: pI 0 :: pA a0 :: st) M dec X := by
  obtain ⟨hk, hk1, hn0, hn1, hn2⟩ := h
  refine v_step kk (fun hM hL hS => ⟨?_, hL, (okS_cons.mp (okS_cons.mp (okS_cons.mp (okS_cons.mp (okS_cons.mp hS).2).2).2).2).2⟩) (fun hM hL hS G b p l e s m args below meth c Q Cc H locs cells slots lsA D w => ?_)
  · obtain ⟨g1, g2, g3, g4⟩ := hM
    refine ⟨g1, g2, g3, fun a i ha => ?_⟩
    show okT (tOf (M.2.1 a) i) (if a = a1 ∧ 0 ≤ (i : Int) ∧ (i : Int) < n then M.1 a0 i else M.1 a i)
    split
    · rename_i hq
      rw [hq.1, hk1]
      exact g4 a0 i (by omega)
    · exact g4 a i ha
  obtain ⟨p0, p1, p2⟩ := wsM_get (cA := G.2.2.1) (b := b) hM (a := a0) (by omega)
  obtain ⟨r0, r1, r2⟩ := wsM_get (cA := G.2.2.1) (b := b) hM (a := a1) (by omega)
  obtain ⟨k, hke⟩ : ∃ k : Nat, M.2.1 a0 = (k : Int) := ⟨(M.2.1 a0).toNat, by omega⟩
  have hk3 : (k : Int) = 11 ∨ (k : Int) = 12 ∨ (k : Int) = 13 := by omega
  rw [cE_arr (k := (k : Int)) (by rw [toNat_c p0]; exact hke) hk3, toNat_c p0, Int.toNat_natCast] at p2
  rw [cE_arr (k := (k : Int)) (by rw [toNat_c r0, hk1]; exact hke) hk3, toNat_c r0, Int.toNat_natCast] at r2
  have hA := Cc.2.2.2.2.2.2.2.2.1
  have hts := Cc.2.2.2.2.2.1
  have hs := wd_sum (b := b) (cs := G.2.2.2.1) st
  have hnr : r32 n := (okS_cons.mp hS).1
  have hcn : (Int32.ofInt n).toNatClampNeg = n.toNat := q_clamp hnr hn0
  have hc0 : (Int32.ofInt 0).toNatClampNeg = 0 := rfl
  have hty : (tysG G.2.2.1)[k - 11]? = some (G.2.2.1 k, if (k : Int) = 11 then .byte else .int) := by
    rcases (show k = 11 ∨ k = 12 by omega) with rfl | rfl <;> rfl
  have hz0 : ∀ (H1 : Heap) (locs1 : List Loc), True := fun _ _ => trivial
  have e1 : (arrV (G.2.2.1 k) (M.2.2.1 a0).toNat fun j => Value.int (Int32.ofInt (M.1 a0 j))) = vp_cell (G.2.2.1 k) ((M.2.2.1 a0).toNat, .inl fun j => Int32.ofInt (M.1 a0 j)) := rfl
  simp only [List.map_cons, eV]
  rw [eR_nn p0, eR_nn r0]
  intro T hT X0
  have hc0' : H[b + a0.toNat]? = some (vp_cell (G.2.2.1 k) ((M.2.2.1 a0).toNat, .inl fun j => Int32.ofInt (M.1 a0 j))) := D.2.1 a0.toNat _ p2
  have hc1' : H[b + a1.toNat]? = some (vp_cell (G.2.2.1 k) ((M.2.2.1 a1).toNat, .inl fun j => Int32.ofInt (M.1 a1 j))) := D.2.1 a1.toNat _ r2
  obtain ⟨-, k0, hk0, cm0, hkk0⟩ := (hA.1.2 (k - 11) _ hty).1 (M.2.2.1 a0).toNat (fun j => .int (Int32.ofInt (M.1 a0 j)))
  obtain ⟨-, k1, hk1', cm1, hkk1⟩ := (hA.1.2 (k - 11) _ hty).1 (M.2.2.1 a1).toNat (fun j => .int (Int32.ofInt (M.1 a1 j)))
  have hprim : refKind (if (k : Int) = 11 then FieldType.byte else FieldType.int) = false := by split <;> rfl
  have nn : (Int32.ofInt n).toInt = ((n.toNat : Nat) : Int) := by rw [q_in hnr]; omega
  obtain ⟨vm', X', step⟩ := X0.arraycopy Cc.1 Cc.2.2.2.2.1 (hts _ hlk) (hts _ h3) (hts _ h2) (hts _ h4) (src := b + a0.toNat) (dst := b + a1.toNat) (srcPos := Int32.ofInt 0) (cs := vp_cell (G.2.2.1 k) ((M.2.2.1 a0).toNat, .inl fun j => Int32.ofInt (M.1 a0 j))) (cd := vp_cell (G.2.2.1 k) ((M.2.2.1 a1).toNat, .inl fun j => Int32.ofInt (M.1 a1 j))) (destPos := Int32.ofInt 0) (n := Int32.ofInt n) (by rw [hT]; exact hc0') (by rw [hT]; exact hc1')
    (fun _ h => by cases h) (fun _ h => by cases h) (fun h => by cases h) (fun h => by cases h) hk0 hk1' hkk0 hkk1 (by simp [hprim]) (q_nn r32_0 (by omega)) (q_nn r32_0 (by omega)) (q_nn hnr hn0)
    (by rw [nn]; show ¬ _ > ((arrV _ (M.2.2.1 a0).toNat _).slots.size : Int); rw [arrV_size, q_in r32_0]; omega)
    (by rw [nn]; show ¬ _ > ((arrV _ (M.2.2.1 a1).toNat _).slots.size : Int); rw [arrV_size, q_in r32_0]; omega)
    (fun vm₁ _ i hi => by
      rw [hcn] at hi
      rw [hc0]
      have e : (vp_cell (G.2.2.1 k) ((M.2.2.1 a0).toNat, .inl fun j => Int32.ofInt (M.1 a0 j))).slots.getD (0 + i) .null = .int (Int32.ofInt (M.1 a0 i)) := by
        show (arrV _ _ _).slots.getD _ _ = _
        rw [Array.getD_eq_getD_getElem?, arrV_read _ _ (by omega), Nat.zero_add]
        rfl
      refine ⟨?_, ?_⟩
      · rw [e]
        have hok := hM.2.2.2 a0 i (by omega)
        rw [hke] at hok
        have := fits_T (k := (k : Int)) (x := M.1 a0 i) (by omega) (by rcases (show k = 11 ∨ k = 12 by omega) with rfl | rfl <;> exact hok)
        exact this
      · rw [e]; exact trivial)
    (g := F0 m pc lsA (.int (Int32.ofInt n) :: .int (Int32.ofInt 0) :: .ref (b + a1.toNat) :: .int (Int32.ofInt 0) :: .ref (b + a0.toNat) :: st.map (eV b G.2.2.2.1))) rfl (by rw [Cc.2.2.2.1]; exact D.2.2.2.1.1) (rest := st.map (eV b G.2.2.2.1)) rfl (by rw [Cc.2.1]; exact hd) (show 1 ≤ d + 1 by omega) (by
      have : nativeFrameWords "java/lang/System" "arraycopy" 5 ≤ 40 := by decide +kernel
      show 2 * 0 + _ + _ ≤ 64 * (d + 1)
      omega)
  have e1 : copied (vp_cell (G.2.2.1 k) ((M.2.2.1 a0).toNat, .inl fun j => Int32.ofInt (M.1 a0 j))) (vp_cell (G.2.2.1 k) ((M.2.2.1 a1).toNat, .inl fun j => Int32.ofInt (M.1 a1 j))) (Int32.ofInt 0) (Int32.ofInt 0) (Int32.ofInt n) = vp_cell (G.2.2.1 k) ((M.2.2.1 a1).toNat, .inl (va_cpy (fun j => Int32.ofInt (M.1 a0 j)) (fun j => Int32.ofInt (M.1 a1 j)) (Int32.ofInt 0).toNatClampNeg (Int32.ofInt 0).toNatClampNeg (Int32.ofInt n).toNatClampNeg)) := va_copied (fun z => .int z) (G.2.2.1 k) (G.2.2.1 k) (fun j => Int32.ofInt (M.1 a0 j)) (fun j => Int32.ofInt (M.1 a1 j)) (show (Int32.ofInt 0).toNatClampNeg + (Int32.ofInt n).toNatClampNeg ≤ (M.2.2.1 a0).toNat by rw [hcn, hc0]; omega)
  rw [e1, hcn, hc0] at X' step
  have hl : b + a1.toNat < H.size := (Array.getElem?_eq_some_iff.mp hc1').1
  have hcE : cE G.2.2.1 b (mcp M a0 a1 n) a1.toNat = .inl (G.2.2.1 k, (M.2.2.1 a1).toNat, .inl (va_cpy (fun j => Int32.ofInt (M.1 a0 j)) (fun j => Int32.ofInt (M.1 a1 j)) 0 0 n.toNat)) := by
    rw [cE_arr (k := (k : Int)) (by rw [toNat_c r0]; show M.2.1 a1 = _; rw [hk1]; exact hke) hk3, Int.toNat_natCast, toNat_c r0]
    show Sum.inl (_, (M.2.2.1 a1).toNat, _) = _
    congr 4
    funext j
    show Int32.ofInt (if a1 = a1 ∧ 0 ≤ (j : Int) ∧ (j : Int) < n then M.1 a0 j else M.1 a1 j) = if 0 ≤ j ∧ j < 0 + n.toNat then Int32.ofInt (M.1 a0 ((0 + (j - 0) : Nat) : Int)) else Int32.ofInt (M.1 a1 j)
    by_cases hj : j < n.toNat
    · rw [if_pos ⟨rfl, by omega, by omega⟩, if_pos ⟨by omega, by omega⟩]
      rw [show 0 + (j - 0) = j by omega]
    · rw [if_neg (by rintro ⟨-, -, q⟩; omega), if_neg (by rintro ⟨-, q⟩; omega)]
  have hheap : ((T.setVm vm').setCell (b + a1.toNat) (vp_cell (G.2.2.1 k) ((M.2.2.1 a1).toNat, .inl (va_cpy (fun j => Int32.ofInt (M.1 a0 j)) (fun j => Int32.ofInt (M.1 a1 j)) 0 0 n.toNat)))).heap = H.setIfInBounds (b + a1.toNat) (vp_cell (G.2.2.1 k) ((M.2.2.1 a1).toNat, .inl (va_cpy (fun j => Int32.ofInt (M.1 a0 j)) (fun j => Int32.ofInt (M.1 a1 j)) 0 0 n.toNat))) := by rw [← hT]; rfl
  have oq : ∀ q : Nat, q ≠ b + a1.toNat → (H.setIfInBounds (b + a1.toNat) (vp_cell (G.2.2.1 k) ((M.2.2.1 a1).toNat, .inl (va_cpy (fun j => Int32.ofInt (M.1 a0 j)) (fun j => Int32.ofInt (M.1 a1 j)) 0 0 n.toNat))))[q]? = H[q]? := fun q hq => by simp [Array.getElem?_setIfInBounds, Ne.symm hq]
  obtain ⟨D1, D2, D3, D4, D5⟩ := D
  have hrow := wsM_row (cA := G.2.2.1) (b := b) (M := M) (M' := mcp M a0 a1 n) (a := a1.toNat) rfl (fun x hx => by
    funext y
    show (if x = a1 ∧ 0 ≤ y ∧ y < n then M.1 a0 y else M.1 x y) = _
    rw [if_neg (by rintro ⟨q, -⟩; omega)]) r1
  obtain ⟨t, a1', b1'⟩ := w _ _ cells slots lsA ⟨by rw [Array.size_setIfInBounds]; exact D1, by
    rw [← hrow]
    refine D2.set wsM_D (wsM_at r1) ?_ oq
    rw [hcE]
    show (H.setIfInBounds _ _)[_]? = some _
    simp [Array.getElem?_setIfInBounds, hl], ⟨by rw [Array.size_setIfInBounds]; exact D3.1, fun q g1 g2 => by
      rw [oq q (fun e => g2 (by rw [e]; exact Nat.le_add_right _ _))]
      exact D3.2.1 q g1 g2, fun q hq => by
      rcases List.mem_append.mp hq with h | h
      · exact D3.2.2 q h
      · obtain ⟨z, -, hz⟩ := List.mem_map.mp h
        rw [← hz]
        exact Nat.le_add_right _ _⟩, D4, D5⟩ _ hheap X'
  exact ⟨t, step t a1', b1'⟩
end RulesK
theorem nw0 : (("OneBack$Town", 46, ⟨"OneBack", "fillRow", "([II)V"⟩, "OneBack") : String × Nat × MethodName × String) ∈ NW := List.mem_of_getElem? (i := 0) rfl
theorem nw1 : (("OneBack$Told", 54, ⟨"OneBack$Law", "<init>", "()V"⟩, "OneBack") : String × Nat × MethodName × String) ∈ NW := List.mem_of_getElem? (i := 1) rfl
theorem nw2 : (("OneBack$Told", 55, ⟨"OneBack$Nights", "<init>", "()V"⟩, "OneBack") : String × Nat × MethodName × String) ∈ NW := List.mem_of_getElem? (i := 2) rfl
theorem nw3 : (("OneBack$Sight", 28, ⟨"OneBack", "fillRow", "([II)V"⟩, "OneBack") : String × Nat × MethodName × String) ∈ NW := List.mem_of_getElem? (i := 3) rfl
theorem nw4 : (("OneBack", 22, ⟨"OneBack$Reader", "<init>", "()V"⟩, "OneBack") : String × Nat × MethodName × String) ∈ NW := List.mem_of_getElem? (i := 4) rfl
theorem nw5 : (("OneBack$Reader", 27, ⟨"OneBack$Law", "<init>", "()V"⟩, "OneBack") : String × Nat × MethodName × String) ∈ NW := List.mem_of_getElem? (i := 5) rfl
theorem nw6 : (("OneBack$Reader", 34, ⟨"OneBack$Nights", "<init>", "()V"⟩, "OneBack") : String × Nat × MethodName × String) ∈ NW := List.mem_of_getElem? (i := 6) rfl
theorem nw7 : (("OneBack", 46, ⟨"OneBack$Supply", "<init>", "()V"⟩, "OneBack") : String × Nat × MethodName × String) ∈ NW := List.mem_of_getElem? (i := 7) rfl
theorem nw8 : (("OneBack$Reader", 216, ⟨"OneBack", "cell", "(II)I"⟩, "OneBack") : String × Nat × MethodName × String) ∈ NW := List.mem_of_getElem? (i := 8) rfl
theorem nw9 : (("OneBack$Town", 50, ⟨"OneBack", "copyRow", "([I[I)V"⟩, "OneBack") : String × Nat × MethodName × String) ∈ NW := List.mem_of_getElem? (i := 9) rfl
theorem nw10 : (("OneBack$Nights", 28, ⟨"OneBack", "copyRow", "([I[I)V"⟩, "OneBack") : String × Nat × MethodName × String) ∈ NW := List.mem_of_getElem? (i := 10) rfl
theorem nw11 : (("OneBack$Sight", 32, ⟨"OneBack", "copyRow", "([I[I)V"⟩, "OneBack") : String × Nat × MethodName × String) ∈ NW := List.mem_of_getElem? (i := 11) rfl
theorem nw12 : (("OneBack$Town", 54, ⟨"OneBack", "cell", "(II)I"⟩, "OneBack") : String × Nat × MethodName × String) ∈ NW := List.mem_of_getElem? (i := 12) rfl
theorem nw13 : (("OneBack$Walk", 69, ⟨"OneBack", "copyRow", "([I[I)V"⟩, "OneBack") : String × Nat × MethodName × String) ∈ NW := List.mem_of_getElem? (i := 13) rfl
theorem nw14 : (("OneBack$Walk", 73, ⟨"OneBack", "fillRow", "([II)V"⟩, "OneBack") : String × Nat × MethodName × String) ∈ NW := List.mem_of_getElem? (i := 14) rfl
theorem nw15 : (("OneBack$Walk", 145, ⟨"OneBack", "isGood", "(I)Z"⟩, "OneBack") : String × Nat × MethodName × String) ∈ NW := List.mem_of_getElem? (i := 15) rfl
theorem nw16 : (("OneBack$Walk", 130, ⟨"OneBack", "cell", "(II)I"⟩, "OneBack") : String × Nat × MethodName × String) ∈ NW := List.mem_of_getElem? (i := 16) rfl
theorem nw17 : (("OneBack$Walk", 136, ⟨"OneBack", "cell", "(III)I"⟩, "OneBack") : String × Nat × MethodName × String) ∈ NW := List.mem_of_getElem? (i := 17) rfl
theorem nw18 : (("OneBack$Views", 75, ⟨"OneBack", "cell", "(III)I"⟩, "OneBack") : String × Nat × MethodName × String) ∈ NW := List.mem_of_getElem? (i := 18) rfl
theorem nw19 : (("OneBack$Supply", 69, ⟨"OneBack", "fillRow", "([II)V"⟩, "OneBack") : String × Nat × MethodName × String) ∈ NW := List.mem_of_getElem? (i := 19) rfl
theorem nw20 : (("OneBack$Town", 88, ⟨"OneBack", "commonDivisor", "(II)I"⟩, "OneBack") : String × Nat × MethodName × String) ∈ NW := List.mem_of_getElem? (i := 20) rfl
theorem nw21 : (("OneBack$Sight", 40, ⟨"OneBack", "cell", "(II)I"⟩, "OneBack") : String × Nat × MethodName × String) ∈ NW := List.mem_of_getElem? (i := 21) rfl
theorem nw22 : (("OneBack$Sight", 65, ⟨"OneBack", "cell", "(III)I"⟩, "OneBack") : String × Nat × MethodName × String) ∈ NW := List.mem_of_getElem? (i := 22) rfl
theorem nw23 : (("OneBack$Views", 165, ⟨"OneBack", "leastTerms", "(IIZ)I"⟩, "OneBack") : String × Nat × MethodName × String) ∈ NW := List.mem_of_getElem? (i := 23) rfl
theorem nw24 : (("OneBack$Porter", 29, ⟨"OneBack", "fillRow", "([II)V"⟩, "OneBack") : String × Nat × MethodName × String) ∈ NW := List.mem_of_getElem? (i := 24) rfl
theorem nw25 : (("OneBack$Porter", 61, ⟨"OneBack", "copyRow", "([I[I)V"⟩, "OneBack") : String × Nat × MethodName × String) ∈ NW := List.mem_of_getElem? (i := 25) rfl
theorem nw26 : (("OneBack$Porter", 46, ⟨"OneBack", "cell", "(II)I"⟩, "OneBack") : String × Nat × MethodName × String) ∈ NW := List.mem_of_getElem? (i := 26) rfl
theorem nw27 : (("OneBack$Told", 103, ⟨"OneBack", "copyRow", "([I[I)V"⟩, "OneBack") : String × Nat × MethodName × String) ∈ NW := List.mem_of_getElem? (i := 27) rfl
