section RulesC
variable {ρ : Type} {mi : MI} {d b0 b1 bc bs pc : Nat} {ls ls' : List (Option PV)} {st : List PV} {M : Mem} {dec : ρ → Option PV × Mem} {X A B : Option ρ}
theorem ini_prim {k : Int} (h : k = 11 ∨ k = 12 ∨ k = 13) (y : Int) : ini k y = 0 := by
  rcases h with rfl | rfl | rfl <;> rfl
theorem ini_ref {k : Int} (h : 14 ≤ k) (y : Int) : ini k y = -1 := by
  unfold ini tOf
  rw [if_neg (by omega), if_neg (by omega), if_neg (by omega), if_pos h]
theorem tys_prim {G : GG} {b : Nat} {s : State} (h : Amb G b s) {t : ArrayType} {k : Nat} (ht : (t = .byte ∧ k = 11) ∨ (t = .int ∧ k = 12) ∨ (t = .boolean ∧ k = 13)) {cA : ClassId} (hc : s.vm.findClass ("[" ++ (newarray.typeOf t).toString) = some cA) : cA = G.2.2.1 k := by
  rcases ht with ⟨rfl, rfl⟩ | ⟨rfl, rfl⟩ | ⟨rfl, rfl⟩
  · exact Option.some.inj (hc.symm.trans (h.1.2 0 _ rfl).2)
  · exact Option.some.inj (hc.symm.trans (h.1.2 1 _ rfl).2)
  · exact Option.some.inj (hc.symm.trans (h.1.2 2 _ rfl).2)
theorem v_newarray {t : ArrayType} {n : Nat} (k : Nat) (ht : (t = .byte ∧ k = 11) ∨ (t = .int ∧ k = 12) ∨ (t = .boolean ∧ k = 13)) (hn : n ≤ 100000) (hw : Cond.arrayClass (newarray.typeOf t) ∈ GT) (hd : decode mi.2.1 pc = .ok (.newarray t, 2))
    (kk : V mi d b0 b1 bc bs (pc + 2) ls (pA (M.2.2.2 : Int) :: st) (mnew M (k : Int) (n : Int)) dec X) : V mi d b0 b1 (bc + 1) (bs + n) pc ls (pI (n : Int) :: st) M dec X := by
  have hk3 : (k : Int) = 11 ∨ (k : Int) = 12 ∨ (k : Int) = 13 := by omega
  refine v_step kk (fun hM hL hS => ⟨hM.new (by omega) (by omega), hL, okS_cons.mpr ⟨trivial, (okS_cons.mp hS).2⟩⟩) (fun hM hL hS G b p l e s m args below meth c Q Cc H locs cells slots lsA D w => ?_)
  obtain ⟨D1, D2, D3, D4, D5, D6⟩ := id D
  have hr : r32 (n : Int) := by unfold r32; omega
  have hcl : (Int32.ofInt (n : Int)).toNatClampNeg = n := by rw [q_clamp hr (by omega), Int.toNat_natCast]
  have hb4 : n * componentBytes (newarray.typeOf t) ≤ 536870912 := by
    rcases ht with ⟨rfl, -⟩ | ⟨rfl, -⟩ | ⟨rfl, -⟩ <;> (simp only [newarray.typeOf, componentBytes]; omega)
  refine va_newaK Cc.1 Cc.2.1 (Cc.2.2.2.2.2.1 _ hw) rfl hd rfl (fun q => by have := (q_lt hr r32_0).mp (by rw [q_0]; exact q); omega) hcl hb4 (show cells + 1 ≤ b0 by omega) (show slots + n ≤ b1 by omega) D1 fun H1 cA e1 z1 o1 hAr hNm => ?_
  have hcA := tys_prim Cc.2.2.2.2.2.2.2.2.1 ht hNm
  have w2 := w H1 locs (cells + 1) (slots + n) lsA (D.new (k := (k : Int)) (n := (n : Int)) (by
    rw [cE_arr (k := (k : Int)) mnew_k hk3, mnew_l, Int.toNat_natCast, Int.toNat_natCast]
    show H1[b + M.2.2.2]? = some (vp_cell _ _)
    rw [e1, vp_cell_i, hcA]
    congr 2
    funext j
    rw [mnew_c, ini_prim hk3]
    rcases ht with ⟨rfl, -⟩ | ⟨rfl, -⟩ | ⟨rfl, -⟩ <;> rfl) (by rw [z1, D1]) (fun q hq => o1 q (by omega)))
  simp only [List.map_cons, eV] at w2
  rw [eR_new] at w2
  exact w2
theorem v_anewarray {n index : Nat} (k : Nat) (C : String) (hk : (k = 14 ∧ C = RX0) ∨ (k = 15 ∧ C = RX1) ∨ (k = 16 ∧ C = RX4) ∨ (k = 17 ∧ C = RX6) ∨ (k = 18 ∧ C = RX7)) (hn : n ≤ 100000) (hlk : Cond.classLink mi.1.cls index C ∈ GT) (hd : decode mi.2.1 pc = .ok (.anewarray index, 3))
    (kk : V mi d b0 b1 bc bs (pc + 3) ls (pA (M.2.2.2 : Int) :: st) (mnew M (k : Int) (n : Int)) dec X) : V mi d b0 b1 (bc + 1) (bs + n) pc ls (pI (n : Int) :: st) M dec X := by
  have hk4 : 14 ≤ (k : Int) ∧ (k : Int) ≤ 18 := by omega
  refine v_step kk (fun hM hL hS => ⟨hM.new (by omega) (by omega), hL, okS_cons.mpr ⟨trivial, (okS_cons.mp hS).2⟩⟩) (fun hM hL hS G b p l e s m args below meth c Q Cc H locs cells slots lsA D w => ?_)
  obtain ⟨D1, D2, D3, D4, D5, D6⟩ := id D
  have hr : r32 (n : Int) := by unfold r32; omega
  have hcl : (Int32.ofInt (n : Int)).toNatClampNeg = n := by rw [q_clamp hr (by omega), Int.toNat_natCast]
  have hA := Cc.2.2.2.2.2.2.2.2.1
  have hao : va_AO C s := hA.2.2.2.2.2.2.2 C (by rcases hk with ⟨-, rfl⟩ | ⟨-, rfl⟩ | ⟨-, rfl⟩ | ⟨-, rfl⟩ | ⟨-, rfl⟩ <;> simp)
  have hty : (tysG G.2.2.1)[k - 11]? = some (G.2.2.1 k, .object C) := by
    rcases hk with ⟨rfl, rfl⟩ | ⟨rfl, rfl⟩ | ⟨rfl, rfl⟩ | ⟨rfl, rfl⟩ | ⟨rfl, rfl⟩ <;> rfl
  refine W.anew Cc.1 Cc.2.1 Cc.2.2.2.2.1 (Cc.2.2.2.2.2.1 _ hlk) (va_AO.use hao) rfl hd rfl (fun q => by have := (q_lt hr r32_0).mp (by rw [q_0]; exact q); omega) (by rw [hcl]; omega) (show cells + 1 ≤ b0 by omega) (by rw [hcl]; show slots + n ≤ b1; omega) fun cA kA comp f1 f2 f3 f4 => ?_
  rw [hcl]
  generalize hH1 : H.push ({ cls := cA, slots := Array.replicate n .null, vm := .none } : Cell) = H1
  have z1 : H1.size = H.size + 1 := by rw [← hH1, Array.size_push]
  have e1 : H1[H.size]? = some (arrV cA n (fun _ => .null)) := by rw [← hH1, Array.getElem?_push_size, ← arrV_new]
  have o1 : ∀ q : Nat, q < H.size → H1[q]? = H[q]? := fun q hq => by rw [← hH1, Array.getElem?_push, if_neg (Nat.ne_of_lt hq)]
  obtain ⟨kA', comp', g1, g2, g3, g4⟩ := (hA.1.2 _ _ hty).2
  have hcA : cA = G.2.2.1 k := Option.some.inj (f1.symm.trans g4)
  have w2 := w H1 locs (cells + 1) (slots + n) lsA (D.new (k := (k : Int)) (n := (n : Int)) (by
    rw [cE_ref (k := (k : Int)) mnew_k hk4.1, mnew_l, Int.toNat_natCast, Int.toNat_natCast]
    show H1[b + M.2.2.2]? = some (vp_cell _ _)
    rw [← D1, e1, vp_cell_q, hcA]
    congr 2
    funext j
    rw [mnew_c, ini_ref hk4.1]
    rfl) z1 o1)
  simp only [List.map_cons, eV] at w2
  rw [eR_new, ← D1] at w2
  exact w2
theorem v_aastore {a i x : Int} {C : String} {T : u_T} {N : Nat} (k ci : Nat) (hk : (k = 14 ∧ ci = 0) ∨ (k = 15 ∧ ci = 1) ∨ (k = 16 ∧ ci = 4) ∨ (k = 17 ∧ ci = 6) ∨ (k = 18 ∧ ci = 7)) (h : M.2.1 a = (k : Int) ∧ 0 ≤ i ∧ i < M.2.2.1 a) (hx : M.2.1 x = (ci : Int)) (hd : decode mi.2.1 pc = .ok (.aastore, 1))
    (kk : V mi d b0 b1 bc bs (pc + 1) ls st (mst M a i x) dec X) : V mi d b0 b1 bc bs pc ls (pA x :: pI i :: pA a :: st) M dec X := by
  obtain ⟨ha, h0, hl⟩ := h
  have hk4 : 14 ≤ (k : Int) ∧ (k : Int) ≤ 18 := by omega
  refine v_step kk (fun hM hL hS => ⟨hM.st (fun n hn _ => ?_), hL, (okS_cons.mp (okS_cons.mp (okS_cons.mp hS).2).2).2⟩) (fun hM hL hS G b p l e s m args below meth c Q Cc H locs cells slots lsA D w => ?_)
  · have := hM.1 x (by rw [hx]; omega)
    rw [ha]
    unfold tOf
    rw [if_neg (by omega), if_neg (by omega), if_neg (by omega), if_pos hk4.1]
    show -1 ≤ x
    omega
  obtain ⟨a0, a1, a2⟩ := wsM_get (cA := G.2.2.1) (b := b) hM (a := a) (by rw [ha]; omega)
  obtain ⟨x0, x1, x2⟩ := wsM_get (cA := G.2.2.1) (b := b) hM (a := x) (by rw [hx]; omega)
  rw [cE_ref (k := (k : Int)) (by rw [toNat_c a0]; exact ha) hk4.1, toNat_c a0, Int.toNat_natCast] at a2
  rw [cE_obj (k := (ci : Int)) (by rw [toNat_c x0]; exact hx) (by omega), Int.toNat_natCast] at x2
  have hi := (okS_cons.mp (okS_cons.mp hS).2).1
  have hin := q_vp (n := (M.2.2.1 a).toNat) hi h0 (by omega)
  have hK := Cc.2.2.2.2.2.2.2.2.1.1
  obtain ⟨r, hc, hty⟩ : ∃ r : vw_C, vwCl[ci]? = some r ∧ (tysG G.2.2.1)[k - 11]? = some (G.2.2.1 k, .object r.1) := by
    rcases hk with ⟨rfl, rfl⟩ | ⟨rfl, rfl⟩ | ⟨rfl, rfl⟩ | ⟨rfl, rfl⟩ | ⟨rfl, rfl⟩ <;> exact ⟨_, rfl, rfl⟩
  simp only [List.map_cons, eV]
  rw [eR_nn a0, eR_nn x0]
  have hlt : (Int32.ofInt i).toNatClampNeg < (M.2.2.1 a).toNat := Nat.not_le.mp fun q => hin (Or.inr q)
  obtain ⟨r', hr', cellV, g1, g2, g3, -⟩ := D.2.1 x.toNat _ x2
  have hcls := (hK.1 ci r hc).2
  obtain ⟨kA, comp, k1, k2, k3, -⟩ := (hK.2 (k - 11) _ hty).2
  have hcomp : comp = G.1 ci := Option.some.inj (k3.symm.trans hcls.1)
  subst hcomp
  obtain ⟨kC, hkC, -⟩ := hcls.2
  refine W.aast Cc.1 Cc.2.1 (D.2.1 a.toNat _ a2) (fun q h => by cases h) (fun h => by cases h) k1 k2 rfl hkC ⟨fun q => hin (Or.inl q), by show _ < (arrV _ _ _).slots.size; rw [arrV_size]; exact hlt⟩ g1 (fun q h => by rw [g3] at h; cases h) (by rw [g2]; exact hkC) (by rw [g2]; exact va_assign hcls) rfl rfl hd fun H1 e1 z oq => ?_
  refine w H1 _ cells slots lsA (D.set a0 a1 ?_ z oq)
  rw [cE_ref (k := (k : Int)) (by rw [toNat_c a0]; exact ha) hk4.1, toNat_c a0, Int.toNat_natCast]
  show H1[b + a.toNat]? = some (vp_cell _ _)
  rw [e1, vp_cell_q, vp_cell_q, arrV_store, q_clamp hi h0]
  show some (arrV _ _ _) = some (arrV _ (M.2.2.1 a).toNat _)
  congr 2
  funext q
  show updV _ _ _ q = va_rf (eO b (if a = a ∧ (q : Int) = i then x else M.1 a q))
  by_cases hq : q = i.toNat
  · rw [if_pos ⟨rfl, by omega⟩]
    subst hq
    simp only [updV, if_true]
    unfold eO
    rw [if_neg (by omega)]
    rfl
  · rw [if_neg (by rintro ⟨-, z⟩; omega)]
    simp [updV, hq]
theorem wd_sum {b : Nat} {cs : Nat → Nat} : ∀ (st : List PV), ((st.map (eV b cs)).map fun v => v.category).sum ≤ 2 * st.length
  | [] => by simp
  | v :: st => by
    have := wd_sum (b := b) (cs := cs) st
    have h2 := lv_cat (eV b cs v)
    simp only [List.map_cons, List.sum_cons, List.length_cons]
    omega
theorem v_objInit {idx : Nat} {a : Int} (h : 0 ≤ a) (hlk : Cond.methodLink mi.1.cls idx objectInit ∈ GT) (hin : Cond.instanceMethod objectInit ∈ GT) (hco : Cond.code objectInit ⟨#[0xb1]⟩ 1 none ∈ GT) (hst : st.length ≤ 10) (hd : decode mi.2.1 pc = .ok (.invokespecial idx, 3))
    (kk : V mi (d + 1) b0 b1 bc bs (pc + 3) ls st M dec X) : V mi (d + 1) b0 b1 bc bs pc ls (pA a :: st) M dec X :=
  v_op kk (fun _ h => (okS_cons.mp h).2) (fun _ _ G b p l e s m args below meth c Q Cc H locs cells slots lsA hA w => by
    simp only [List.map_cons, eV]
    rw [eR_nn h]
    have hs := wd_sum (b := b) (cs := G.2.2.2.1) st
    refine W.objInit Cc.1 Cc.2.1 Cc.2.2.2.2.1 (Cc.2.2.2.2.2.1 _ hlk) (Cc.2.2.2.2.2.1 _ hin) (Cc.2.2.2.2.2.1 _ hco) rfl (by rw [Cc.2.2.2.1]; exact hA.1) rfl hd (show 1 ≤ d + 1 by omega) ?_ w
    show 2 * 0 + _ + 12 ≤ 64 * (d + 1)
    omega)
/-- behind a call -/
theorem v_callR {ρ' : Type} {dec' : ρ' → Option PV × Mem} {X' : Option ρ'} {K : ρ' → Option ρ} {mi' : MI} {c0 c1 : Nat} {As st0 : List PV} (hC : Ct mi' d c0 c1 As M dec' X') (has : okS st0 → okS As ∧ okS st)
    (k : ∀ r, X' = some r → V mi (d + 1) b0 b1 bc bs (pc + 3) ls ((dec' r).1.toList ++ st) (dec' r).2 dec (K r))
    (hrun : MemOK M → ∀ (G : GG) (b : Nat) (p : Program) (l : Launch) (e : Env) (s : State) (m : MethodId) (args : Array Value) (below : List Frame) (meth : Method) (c : Code) (r : ρ'), Cx mi G b p s m args meth c →
      ∀ (H : Heap) (locs : List Loc) (cells slots : Nat) (lsA : Array Slot), Dy mi G b b0 b1 (bc + c0) (bs + c1) s M ls H locs cells slots lsA →
        Met l mi'.1 (.code mi'.1 mi'.2.1 mi'.2.2.1 mi'.2.2.2.1 :: GT) (rmD d c0 c1) (PcR G b As M) (QcR G b (dec' r)) c0 c1 (AA b) →
        va_Run p l e (rmD (d + 1) b0 b1) s m args below meth c H locs cells slots c0 c1 (F0 m pc lsA (st0.map (eV b G.2.2.2.1))) (st.map (eV b G.2.2.2.1)) (QcR G b (dec' r) (As.map (eV b G.2.2.2.1)).toArray) (AA b)) :
    V mi (d + 1) b0 b1 (bc + c0) (bs + c1) pc ls st0 M dec (X'.bind K) := by
  intro r hr hM hL hS
  cases hX : X' with
  | none => rw [hX] at hr; cases hr
  | some r' =>
    rw [hX] at hr
    change K r' = some r at hr
    obtain ⟨s1, s2⟩ := has hS
    obtain ⟨o1, mt⟩ := hC r' hX hM s1
    obtain ⟨g1, g2⟩ := k r' hX r hr o1.1 hL (fun v hv => by
      rcases List.mem_append.mp hv with h | h
      · exact o1.2 v (Option.mem_toList.mp h)
      · exact s2 v h)
    refine ⟨g1, fun G b p l e s m args below meth c C H locs cells slots lsA D => ?_⟩
    intro T hT X0
    obtain ⟨v, st₀, t, T', L, h0, X1, hLf, e1, e2, ⟨hv, hz, hP, hsz, hk⟩, go⟩ := hrun hM G b p l e s m args below meth c r' C H locs cells slots lsA D (mt G b l) T hT X0
    cases hv
    obtain ⟨D1, D2, D3, D4, D5, D6⟩ := D
    rw [h0] at hsz hk
    have w := g2 G b p l e s m args below meth c C T'.heap (locs ++ L) (cells + c0) (slots + c1) lsA ⟨by rw [e1]; exact hz, by rw [e1]; exact hP, ⟨by rw [e1]; exact Nat.le_trans D3.1 hsz, fun q h1 h2 => by rw [e1, hk q (Nat.lt_of_lt_of_le h1 D3.1) h2]; exact D3.2.1 q h1 h2, fun q hq => by
      rcases List.mem_append.mp hq with h | h
      · exact D3.2.2 q h
      · exact hLf q h⟩, D4, by omega, by omega⟩
    obtain ⟨t2, a1, b1'⟩ := w T' rfl X1
    refine ⟨t2, go t2 ?_, b1'⟩
    have e9 : ((dec' r').1.toList ++ st).map (eV b G.2.2.2.1) = ((dec' r').1.map (eV b G.2.2.2.1)).toList ++ st.map (eV b G.2.2.2.1) := by
      rw [List.map_append]; cases (dec' r').1 <;> rfl
    rw [e9] at a1
    exact a1
theorem pcR_blind {G : GG} {b : Nat} {As : List PV} : FrameBlind (PcR G b As M) := fun a U g mk h => ⟨h.1, h.2.1, h.2.2.1, h.2.2.2.move (State.WarmedH.refl U) (fun _ _ _ => rfl)⟩
theorem pcR_at {G : GG} {b : Nat} {As : List PV} {s : State} {H : Heap} {locs : List Loc} {cells slots : Nat} {lsA : Array Slot} (hA : Amb G b s) (D : Dy mi G b b0 b1 bc bs s M ls H locs cells slots lsA) : ∀ U : State, U.heap = H → s.WarmedH U.vm → PcR G b As M (As.map (eV b G.2.2.2.1)).toArray U :=
  fun U hU hW => ⟨rfl, by rw [hU]; exact D.1, by rw [hU]; exact D.2.1, hA.move hW (fun q h1 h2 => by rw [hU]; exact D.2.2.1.2.1 q h1 h2)⟩
theorem gIn {l : List Cond} (h : ∀ w ∈ l, w ∈ GT) : GoodIn GT l := fun w hw => ⟨h w hw, (GT_good w (h w hw)).2⟩
theorem hW_of {b : Nat} {cs : Nat → Nat} {m : MethodId} {pc : Nat} {lsA : Array Slot} {rest : List Value} (h : st.length ≤ 4) : 2 * (F0 m pc lsA rest).monitorRoom + ((st.map (eV b cs)).map fun v => v.category).sum ≤ 8 :=
  lv_room (by have := wd_sum (b := b) (cs := cs) st; omega)
/-- what a call's words must be -/
def cok (mi' : MI) (n : Nat) : Prop := Cond.code mi'.1 mi'.2.1 mi'.2.2.1 mi'.2.2.2.1 ∈ GT ∧ Cond.initialized mi'.1.cls ∈ GT ∧ mi'.2.2.1 ≤ 45 ∧ mi'.1.cls ≠ "java/lang/invoke/MethodHandle" ∧ mi'.1.cls ≠ "java/lang/invoke/VarHandle" ∧ (parseMethodDescriptor mi'.1.desc).map (fun d => d.parameters.length) = some n
theorem v_callV {ρ' : Type} {dec' : ρ' → Option PV × Mem} {X' : Option ρ'} {K : ρ' → Option ρ} {mi' : MI} {c0 c1 index ci n : Nat} {C : String} {T : u_T} {N : Nat} {a : Int} {As : List PV} (hC : Ct mi' d c0 c1 (pA a :: As) M dec' X') (hc : vwCl[ci]? = some (C, T, N)) (ha : M.2.1 a = (ci : Int)) (hcls : mi'.1.cls = C) (ho : cok mi' n)
    (hlk : Cond.methodLink mi.1.cls index mi'.1 ∈ GT ∨ (mi.1.cls, index, mi'.1, "OneBack") ∈ NW) (him : Cond.instanceMethod mi'.1 ∈ GT) (hse : Cond.selects C mi'.1 mi'.1 ∈ GT) (hn : As.length = n) (hst : st.length ≤ 4) (hd : decode mi.2.1 pc = .ok (.invokevirtual index, 3))
    (k : ∀ r, X' = some r → V mi (d + 1) b0 b1 bc bs (pc + 3) ls ((dec' r).1.toList ++ st) (dec' r).2 dec (K r)) {st0 : List PV} (hs0 : st0 = As.reverse ++ pA a :: st) : V mi (d + 1) b0 b1 (bc + c0) (bs + c1) pc ls st0 M dec (X'.bind K) := by
  subst hs0
  obtain ⟨c10, -⟩ := cls_n hc
  refine v_callR hC (fun h => ⟨fun v hv => h v (by simp only [List.mem_append, List.mem_cons, List.mem_reverse] at hv ⊢; rcases hv with q | q <;> simp [q]), fun v hv => h v (by simp [hv])⟩) k (fun hM G b p l e s m args below meth c r Cc H locs cells slots lsA D mt => ?_)
  obtain ⟨o1, o2, o3, o4, o5, o6⟩ := ho
  obtain ⟨a0, a1, a2⟩ := wsM_get (cA := G.2.2.1) (b := b) hM (a := a) (by rw [ha]; omega)
  rw [cE_obj (k := (ci : Int)) (by rw [toNat_c a0]; exact ha) (by omega), Int.toNat_natCast] at a2
  have hts := Cc.2.2.2.2.2.1
  have hA := Cc.2.2.2.2.2.2.2.2.1
  have hgood : GoodIn GT (.code mi'.1 mi'.2.1 mi'.2.2.1 mi'.2.2.2.1 :: GT) := gIn (fun w hw => (List.mem_cons.mp hw).elim (fun e => by rw [e]; exact o1) id)
  have hp : PreV s H C (b + a.toNat) (PcR G b (pA a :: As) M) (As.map (eV b G.2.2.2.1)) := ⟨pcR_blind, va_recv hA.1 D.2.1 hc a2, fun U hU hW => by
    have := pcR_at (As := pA a :: As) hA D U hU hW
    simp only [List.map_cons, eV] at this
    rw [eR_nn a0] at this
    exact this⟩
  have e9 : ((pA a :: As).map (eV b G.2.2.2.1)).toArray = (Value.ref (b + a.toNat) :: As.map (eV b G.2.2.2.1)).toArray := by simp only [List.map_cons, eV]; rw [eR_nn a0]
  have e8 : (As.reverse ++ pA a :: st).map (eV b G.2.2.2.1) = (As.map (eV b G.2.2.2.1)).reverse ++ .ref (b + a.toNat) :: st.map (eV b G.2.2.2.1) := by
    rw [List.map_append, List.map_reverse, List.map_cons]; simp only [eV]; rw [eR_nn a0]
  have hR : (rmD d c0 c1).frames + 1 ≤ (rmD (d + 1) b0 b1).frames ∧ 8 + (mi'.2.2.1 + 11) + (rmD d c0 c1).locals ≤ (rmD (d + 1) b0 b1).locals := ⟨Nat.le_refl _, by show 8 + (mi'.2.2.1 + 11) + 64 * d ≤ 64 * (d + 1); omega⟩
  obtain ⟨D1, D2, D3, D4, D5, D6⟩ := id D
  rw [e9, e8]
  have q1 : cells + c0 ≤ b0 := by omega
  have q2 : slots + c1 ≤ b1 := by omega
  have q3 : (As.map (eV b G.2.2.2.1)).length = n := by rw [List.length_map]; exact hn
  rcases hlk with hlk | hlk
  · refine va_runV (Ts := GT) (nL := mi.2.2.1) (n := n) ⟨Cc.1, Cc.2.1, Cc.2.2.2.1, Cc.2.2.2.2.1, hts⟩ mt (cwV n hts (C := C) (gIn (fun w hw => ?_)) rfl rfl rfl ⟨hcls, o4, o5, o6⟩ hR) hp rfl q3 D4.1 rfl (hW_of hst) hd ⟨q1, q2⟩
    unfold wsV at hw
    rcases List.mem_append.mp hw with h | h
    · simp only [List.mem_cons, List.not_mem_nil, or_false] at h
      rcases h with rfl | rfl | rfl | rfl
      · exact hlk
      · exact him
      · exact hse
      · rw [← hcls]; exact o2
    · exact (hgood w h).1
  · have z := va_cnB n hts hgood rfl rfl rfl (hA.2.1 _ hlk) (hts _ o2) ⟨o4, o5, o6⟩ hR
    exact va_runVN (Ts := GT) (nL := mi.2.2.1) (n := n) (C := C) ⟨Cc.1, Cc.2.1, Cc.2.2.2.1, Cc.2.2.2.2.1, hts⟩ mt ⟨z, hts _ him, hts _ hse⟩ hp rfl q3 D4.1 rfl (hW_of hst) hd ⟨q1, q2⟩
theorem v_callS {ρ' : Type} {dec' : ρ' → Option PV × Mem} {X' : Option ρ'} {K : ρ' → Option ρ} {mi' : MI} {c0 c1 index n : Nat} {As : List PV} (hC : Ct mi' d c0 c1 As M dec' X') (ho : cok mi' n)
    (hlk : Cond.methodLink mi.1.cls index mi'.1 ∈ GT ∨ (mi.1.cls, index, mi'.1, "OneBack") ∈ NW) (hsta : Cond.static mi'.1 ∈ GT) (hn : As.length = n) (hst : st.length ≤ 4) (hd : decode mi.2.1 pc = .ok (.invokestatic index, 3))
    (k : ∀ r, X' = some r → V mi (d + 1) b0 b1 bc bs (pc + 3) ls ((dec' r).1.toList ++ st) (dec' r).2 dec (K r)) {st0 : List PV} (hs0 : st0 = As.reverse ++ st) : V mi (d + 1) b0 b1 (bc + c0) (bs + c1) pc ls st0 M dec (X'.bind K) := by
  subst hs0
  refine v_callR hC (fun h => ⟨fun v hv => h v (by simp [hv]), fun v hv => h v (by simp [hv])⟩) k (fun hM G b p l e s m args below meth c r Cc H locs cells slots lsA D mt => ?_)
  obtain ⟨o1, o2, o3, o4, o5, o6⟩ := ho
  have hts := Cc.2.2.2.2.2.1
  have hA := Cc.2.2.2.2.2.2.2.2.1
  have hgood : GoodIn GT (.code mi'.1 mi'.2.1 mi'.2.2.1 mi'.2.2.2.1 :: GT) := gIn (fun w hw => (List.mem_cons.mp hw).elim (fun e => by rw [e]; exact o1) id)
  have hp : PreS s H (PcR G b As M) (As.map (eV b G.2.2.2.1)) := ⟨pcR_blind, pcR_at hA D⟩
  have e8 : (As.reverse ++ st).map (eV b G.2.2.2.1) = (As.map (eV b G.2.2.2.1)).reverse ++ st.map (eV b G.2.2.2.1) := by rw [List.map_append, List.map_reverse]
  have hR : (rmD d c0 c1).frames + 1 ≤ (rmD (d + 1) b0 b1).frames ∧ 8 + (mi'.2.2.1 + 11) + (rmD d c0 c1).locals ≤ (rmD (d + 1) b0 b1).locals := ⟨Nat.le_refl _, by show 8 + (mi'.2.2.1 + 11) + 64 * d ≤ 64 * (d + 1); omega⟩
  obtain ⟨D1, D2, D3, D4, D5, D6⟩ := id D
  rw [e8]
  have q1 : cells + c0 ≤ b0 := by omega
  have q2 : slots + c1 ≤ b1 := by omega
  have q3 : (As.map (eV b G.2.2.2.1)).length = n := by rw [List.length_map]; exact hn
  rcases hlk with hlk | hlk
  · have z := callB_of n hts hgood rfl rfl rfl (hts _ o2) (hts _ hlk) ⟨o4, o5, o6⟩ hR
    exact va_runS (Ts := GT) (nL := mi.2.2.1) (n := n) ⟨Cc.1, Cc.2.1, Cc.2.2.2.1, Cc.2.2.2.2.1, hts⟩ mt ⟨z, hts _ hsta⟩ hp rfl q3 D4.1 rfl (hW_of hst) hd ⟨q1, q2⟩
  · have z := va_cnB n hts hgood rfl rfl rfl (hA.2.1 _ hlk) (hts _ o2) ⟨o4, o5, o6⟩ hR
    exact va_runSN (Ts := GT) (nL := mi.2.2.1) (n := n) ⟨Cc.1, Cc.2.1, Cc.2.2.2.1, Cc.2.2.2.2.1, hts⟩ mt ⟨z, hts _ hsta, trivial⟩ hp rfl q3 D4.1 rfl (hW_of hst) hd ⟨q1, q2⟩
theorem v_callI {ρ' : Type} {dec' : ρ' → Option PV × Mem} {X' : Option ρ'} {K : ρ' → Option ρ} {mi' : MI} {c0 c1 index n : Nat} {a : Int} {As : List PV} (hC : Ct mi' d c0 c1 (pA a :: As) M dec' X') (ha : 0 ≤ a) (ho : cok mi' n) (hret : mi'.2.2.2.1 = none) (hnm : mi'.1.name = "<init>")
    (hlk : Cond.methodLink mi.1.cls index mi'.1 ∈ GT ∨ (mi.1.cls, index, mi'.1, "OneBack") ∈ NW) (him : Cond.instanceMethod mi'.1 ∈ GT) (hn : As.length = n) (hst : st.length ≤ 4) (hd : decode mi.2.1 pc = .ok (.invokespecial index, 3))
    (k : ∀ r, X' = some r → V mi (d + 1) b0 b1 bc bs (pc + 3) ls ((dec' r).1.toList ++ st) (dec' r).2 dec (K r)) {st0 : List PV} (hs0 : st0 = As.reverse ++ pA a :: st) : V mi (d + 1) b0 b1 (bc + c0) (bs + c1) pc ls st0 M dec (X'.bind K) := by
  subst hs0
  refine v_callR hC (fun h => ⟨fun v hv => h v (by simp only [List.mem_append, List.mem_cons, List.mem_reverse] at hv ⊢; rcases hv with q | q <;> simp [q]), fun v hv => h v (by simp [hv])⟩) k (fun hM G b p l e s m args below meth c r Cc H locs cells slots lsA D mt => ?_)
  obtain ⟨o1, o2, o3, o4, o5, o6⟩ := ho
  have hts := Cc.2.2.2.2.2.1
  have hA := Cc.2.2.2.2.2.2.2.2.1
  have hgood : GoodIn GT (.code mi'.1 mi'.2.1 mi'.2.2.1 mi'.2.2.2.1 :: GT) := gIn (fun w hw => (List.mem_cons.mp hw).elim (fun e => by rw [e]; exact o1) id)
  have e7 : (pA a :: As).map (eV b G.2.2.2.1) = Value.ref (b + a.toNat) :: As.map (eV b G.2.2.2.1) := by simp only [List.map_cons, eV]; rw [eR_nn ha]
  have hp : PreS s H (PcR G b (pA a :: As) M) (.ref (b + a.toNat) :: As.map (eV b G.2.2.2.1)) := ⟨pcR_blind, fun U hU hW => by
    have := pcR_at (As := pA a :: As) hA D U hU hW
    rw [e7] at this
    exact this⟩
  have e8 : (As.reverse ++ pA a :: st).map (eV b G.2.2.2.1) = (As.map (eV b G.2.2.2.1)).reverse ++ .ref (b + a.toNat) :: st.map (eV b G.2.2.2.1) := by
    rw [List.map_append, List.map_reverse, List.map_cons]; simp only [eV]; rw [eR_nn ha]
  have hR : (rmD d c0 c1).frames + 1 ≤ (rmD (d + 1) b0 b1).frames ∧ 8 + (mi'.2.2.1 + 11) + (rmD d c0 c1).locals ≤ (rmD (d + 1) b0 b1).locals := ⟨Nat.le_refl _, by show 8 + (mi'.2.2.1 + 11) + 64 * d ≤ 64 * (d + 1); omega⟩
  obtain ⟨D1, D2, D3, D4, D5, D6⟩ := id D
  rw [e7, e8]
  rw [hret] at mt hgood
  have q1 : cells + c0 ≤ b0 := by omega
  have q2 : slots + c1 ≤ b1 := by omega
  have q3 : (As.map (eV b G.2.2.2.1)).length = n := by rw [List.length_map]; exact hn
  rcases hlk with hlk | hlk
  · have z := cwI n hts hgood rfl rfl rfl (hts _ o2) (hts _ hlk) (hts _ him) hnm ⟨o4, o5, o6⟩ hR
    exact va_runI (Ts := GT) (nL := mi.2.2.1) (n := n) ⟨Cc.1, Cc.2.1, Cc.2.2.2.1, Cc.2.2.2.2.1, hts⟩ mt z hp rfl q3 D4.1 rfl (hW_of hst) hd ⟨q1, q2⟩
  · have z := va_cnB n hts hgood rfl rfl rfl (hA.2.1 _ hlk) (hts _ o2) ⟨o4, o5, o6⟩ hR
    exact va_runIN (Ts := GT) (nL := mi.2.2.1) (n := n) ⟨Cc.1, Cc.2.1, Cc.2.2.2.1, Cc.2.2.2.2.1, hts⟩ mt ⟨z, hnm, hts _ him⟩ hp rfl q3 D4.1 rfl (hW_of hst) hd ⟨q1, q2⟩
end RulesC
