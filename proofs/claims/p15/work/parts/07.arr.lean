def ini (k : Int) (y : Int) : Int := match tOf k y.toNat with
  | .object _ => -1
  | .array _ => -1
  | _ => 0
/-- a new cell -/
def mnew (M : Mem) (k n : Int) : Mem := (fun x y => if x = (M.2.2.2 : Int) then ini k y else M.1 x y, up1 M.2.1 M.2.2.2 k, up1 M.2.2.1 M.2.2.2 n, M.2.2.2 + 1)
theorem ini_ok (k : Int) (i : Nat) : okT (tOf k i) (ini k i) := by
  unfold ini
  rw [Int.toNat_natCast]
  cases tOf k i <;> simp [okT, r32, r64]
theorem MemOK.new {M : Mem} (h : MemOK M) {k n : Int} (hk : 0 ≤ k ∧ k ≤ 18) (hn : 0 ≤ n ∧ n < 2147483648) : MemOK (mnew M k n) := by
  obtain ⟨h1, h2, h3, h4⟩ := h
  refine ⟨fun a ha => ?_, fun a => ?_, fun a => ?_, fun a i ha => ?_⟩
  · change (if a = (M.2.2.2 : Int) then k else M.2.1 a) ≠ -1 at ha
    show 0 ≤ a ∧ a < ((M.2.2.2 + 1 : Nat) : Int)
    split at ha
    · omega
    · have := h1 a ha; omega
  · show -1 ≤ (if a = (M.2.2.2 : Int) then k else M.2.1 a) ∧ (if a = (M.2.2.2 : Int) then k else M.2.1 a) ≤ 18
    split
    · omega
    · exact h2 a
  · show 0 ≤ (if a = (M.2.2.2 : Int) then n else M.2.2.1 a) ∧ (if a = (M.2.2.2 : Int) then n else M.2.2.1 a) < 2147483648
    split
    · exact hn
    · exact h3 a
  · change (if a = (M.2.2.2 : Int) then k else M.2.1 a) ≠ -1 at ha
    show okT (tOf (if a = (M.2.2.2 : Int) then k else M.2.1 a) i) (if a = (M.2.2.2 : Int) then ini k i else M.1 a i)
    split
    · exact ini_ok k i
    · rename_i hq; rw [if_neg hq] at ha; exact h4 a i ha
theorem wsM_new {cA : Nat → ClassId} {b : Nat} {M : Mem} {k n : Int} : wsM cA b (mnew M k n) = wsM cA b M ++ [(b + M.2.2.2, cE cA b (mnew M k n) M.2.2.2)] := by
  unfold wsM
  show (List.range (M.2.2.2 + 1)).map _ = _
  rw [List.range_succ, List.map_append]
  congr 1
  apply List.map_congr_left
  intro j hj
  have hj := List.mem_range.mp hj
  have e1 : ∀ y, (mnew M k n).1 (j : Int) y = M.1 j y := fun y => by
    show (if (j : Int) = (M.2.2.2 : Int) then ini k y else M.1 j y) = _
    rw [if_neg (by omega)]
  have e2 : (mnew M k n).2.1 (j : Int) = M.2.1 j := by
    show (if (j : Int) = (M.2.2.2 : Int) then k else M.2.1 j) = _
    rw [if_neg (by omega)]
  have e3 : (mnew M k n).2.2.1 (j : Int) = M.2.2.1 j := by
    show (if (j : Int) = (M.2.2.2 : Int) then n else M.2.2.1 j) = _
    rw [if_neg (by omega)]
  congr 1
  unfold cE
  simp only [e1, e2, e3]
section RulesR
variable {ρ : Type} {mi : MI} {d b0 b1 bc bs pc : Nat} {ls ls' : List (Option PV)} {st : List PV} {M : Mem} {dec : ρ → Option PV × Mem} {X A B : Option ρ}
theorem Dy.new {G : GG} {b : Nat} {s : State} {H H1 : Heap} {locs : List Loc} {cells slots nn : Nat} {lsA : Array Slot} {k n : Int} (D : Dy mi G b b0 b1 (bc + 1) (bs + nn) s M ls H locs cells slots lsA)
    (he : va_at (G.1, G.2.1) vwCl (b + M.2.2.2, cE G.2.2.1 b (mnew M k n) M.2.2.2) H1) (hz : H1.size = H.size + 1) (oq : ∀ q : Nat, q < H.size → H1[q]? = H[q]?) : Dy mi G b b0 b1 bc bs s (mnew M k n) ls H1 locs (cells + 1) (slots + nn) lsA := by
  obtain ⟨D1, D2, D3, D4, D5, D6⟩ := D
  refine ⟨?_, ?_, ⟨Nat.le_trans D3.1 (by omega), fun q h1 h2 => (oq q (Nat.lt_of_lt_of_le h1 D3.1)).trans (D3.2.1 q h1 h2), D3.2.2⟩, D4, by omega, by omega⟩
  · rw [hz, D1]; show b + M.2.2.2 + 1 = b + (M.2.2.2 + 1); omega
  · rw [wsM_new]
    refine va_P.app (D2.kept fun k' q hq => oq q.1 ((D2 k' q hq).lt)) (fun k' q hq => ?_)
    have hk : k' < 1 := (List.getElem?_eq_some_iff.mp hq).1
    rw [show k' = 0 by omega] at hq
    cases hq
    exact he
theorem mnew_k {k n : Int} : (mnew M k n).2.1 ((M.2.2.2 : Nat) : Int) = k := by
  show (if ((M.2.2.2 : Nat) : Int) = (M.2.2.2 : Int) then k else _) = k
  rw [if_pos rfl]
theorem mnew_l {k n : Int} : (mnew M k n).2.2.1 ((M.2.2.2 : Nat) : Int) = n := by
  show (if ((M.2.2.2 : Nat) : Int) = (M.2.2.2 : Int) then n else _) = n
  rw [if_pos rfl]
theorem mnew_c {k n : Int} (y : Int) : (mnew M k n).1 ((M.2.2.2 : Nat) : Int) y = ini k y := by
  show (if ((M.2.2.2 : Nat) : Int) = (M.2.2.2 : Int) then ini k y else _) = _
  rw [if_pos rfl]
theorem eR_new {b : Nat} {cs : Nat → Nat} {z : Nat} : eR b cs (z : Int) = .ref (b + z) := by
  rw [eR_nn (by omega), Int.toNat_natCast]
theorem ini_def {b ci j : Nat} (h : ci ≤ 10) (ht : tOKb (fty ci j) = true) : eT b (fty ci j) (ini (ci : Int) j) = defaultValue (fty ci j) := by
  unfold ini
  rw [Int.toNat_natCast, tOf_obj h]
  cases hf : fty ci j <;> rw [hf] at ht <;> first | (cases ht; done) | rfl
theorem v_new {C : String} {T : u_T} {N index : Nat} (ci : Nat) (hc : vwCl[ci]? = some (C, T, N)) (hin : ∀ w ∈ u_ws C T N, w ∈ GT) (hlk : Cond.classLink mi.1.cls index C ∈ GT) (hins : Cond.instantiable C N ∈ GT) (hini : Cond.initialized C ∈ GT) (hft : ∀ j, j < N → tOKb (fty ci j) = true) (hd : decode mi.2.1 pc = .ok (.new index, 3))
    (kk : V mi d b0 b1 bc bs (pc + 3) ls (pA (M.2.2.2 : Int) :: st) (mnew M (ci : Int) (N : Int)) dec X) : V mi d b0 b1 (bc + 1) (bs + N) pc ls st M dec X := by
  obtain ⟨c10, hN⟩ := cls_n hc
  obtain ⟨hty, hnm⟩ := cls_ty hc
  have hN2 : N < 2147483648 := by
    rw [← hN]; unfold nfl; split <;> decide
  refine v_step kk (fun hM hL hS => ⟨hM.new (by omega) (by omega), hL, okS_cons.mpr ⟨trivial, hS⟩⟩) (fun hM hL hS G b p l e s m args below meth c Q Cc H locs cells slots lsA D w => ?_)
  have hK := Cc.2.2.2.2.2.2.2.2.1.1
  have hts := Cc.2.2.2.2.2.1
  have hKn := hK.1 ci _ hc
  obtain ⟨D1, D2, D3, D4, D5, D6⟩ := id D
  refine W.newcK Cc.1 Cc.2.1 Cc.2.2.2.2.1 (hts _ hlk) (hts _ hins) (hts _ hini) rfl hd (show cells + 1 ≤ b0 by omega) (show slots + N ≤ b1 by omega) hKn.2.1 D1 fun H1 kC hkC e1 z1 o1 => ?_
  have w2 := w H1 locs (cells + 1) (slots + N) lsA (D.new (k := (ci : Int)) (n := (N : Int)) (by
    rw [cE_obj (k := (ci : Int)) mnew_k (by omega), Int.toNat_natCast]
    refine ⟨_, hc, (u_born (fty ci) hts hin hKn hkC e1 hty).to (fun j hj => ?_)⟩
    show _ = vp_V _ j
    unfold vp_V
    rw [List.getD_eq_getElem?_getD, hN, fs_at (b := 0) hj, mnew_c]
    exact (ini_def c10 (hft j hj)).symm) (by rw [z1, D1]) (fun q hq => o1 q (by omega)))
  simp only [List.map_cons, eV] at w2
  rw [eR_new] at w2
  exact w2
theorem tys_at {cA : Nat → ClassId} : (tysG cA)[0]? = some (cA 11, .byte) ∧ (tysG cA)[1]? = some (cA 12, .int) ∧ (tysG cA)[2]? = some (cA 13, .boolean) := ⟨rfl, rfl, rfl⟩
theorem r32_len (hM : MemOK M) {a i : Int} (h0 : 0 ≤ i) (h : i < M.2.2.1 a) : r32 i := by
  have := hM.2.2.1 a
  unfold r32; omega
theorem v_iaload {a i : Int} (h : M.2.1 a = 12 ∧ 0 ≤ i ∧ i < M.2.2.1 a) (hd : decode mi.2.1 pc = .ok (.iaload, 1)) (kk : V mi d b0 b1 bc bs (pc + 1) ls (pI (M.1 a i) :: st) M dec X) : V mi d b0 b1 bc bs pc ls (pI i :: pA a :: st) M dec X := by
  obtain ⟨hk, h0, hl⟩ := h
  refine v_step kk (fun hM hL hS => ⟨hM, hL, okS_cons.mpr ⟨?_, (okS_cons.mp (okS_cons.mp hS).2).2⟩⟩) (fun hM hL hS G b p l e s m args below meth c Q Cc H locs cells slots lsA D w => ?_)
  · have := hM.2.2.2 a i.toNat (by rw [hk]; omega)
    rw [hk, toNat_c h0] at this
    exact this
  obtain ⟨a0, a1, a2⟩ := wsM_get (cA := G.2.2.1) (b := b) hM (a := a) (by rw [hk]; omega)
  rw [cE_arr (k := 12) (by rw [toNat_c a0]; exact hk) (Or.inr (Or.inl rfl)), toNat_c a0] at a2
  have w2 := w H locs cells slots lsA D
  simp only [List.map_cons, eV] at w2 ⊢
  rw [eR_nn a0]
  have hi := (okS_cons.mp hS).1
  refine va_iald Cc.1 Cc.2.1 Cc.2.2.2.2.2.2.2.2.1.1 D.2.1 a.toNat 1 a2 rfl (q_vp hi h0 (by omega)) hd ?_
  rw [q_clamp hi h0, toNat_c h0]
  exact w2
theorem v_baload {a i : Int} (h : (M.2.1 a = 11 ∨ M.2.1 a = 13) ∧ 0 ≤ i ∧ i < M.2.2.1 a) (hd : decode mi.2.1 pc = .ok (.baload, 1)) (kk : V mi d b0 b1 bc bs (pc + 1) ls (pI (M.1 a i) :: st) M dec X) : V mi d b0 b1 bc bs pc ls (pI i :: pA a :: st) M dec X := by
  obtain ⟨hk, h0, hl⟩ := h
  refine v_step kk (fun hM hL hS => ⟨hM, hL, okS_cons.mpr ⟨?_, (okS_cons.mp (okS_cons.mp hS).2).2⟩⟩) (fun hM hL hS G b p l e s m args below meth c Q Cc H locs cells slots lsA D w => ?_)
  · have := hM.2.2.2 a i.toNat (by omega)
    rw [toNat_c h0] at this
    show r32 _
    unfold r32
    rcases hk with hk | hk <;> rw [hk] at this
    · obtain ⟨q1, q2⟩ := this; omega
    · rcases this with q | q <;> omega
  obtain ⟨a0, a1, a2⟩ := wsM_get (cA := G.2.2.1) (b := b) hM (a := a) (by omega)
  have w2 := w H locs cells slots lsA D
  simp only [List.map_cons, eV] at w2 ⊢
  rw [eR_nn a0]
  have hi := (okS_cons.mp hS).1
  rcases hk with hk | hk
  · rw [cE_arr (k := 11) (by rw [toNat_c a0]; exact hk) (Or.inl rfl), toNat_c a0] at a2
    refine va_bald Cc.1 Cc.2.1 Cc.2.2.2.2.2.2.2.2.1.1 D.2.1 a.toNat 0 a2 rfl (q_vp hi h0 (by omega)) hd ?_
    rw [q_clamp hi h0, toNat_c h0]
    exact w2
  · rw [cE_arr (k := 13) (by rw [toNat_c a0]; exact hk) (Or.inr (Or.inr rfl)), toNat_c a0] at a2
    refine va_zald Cc.1 Cc.2.1 Cc.2.2.2.2.2.2.2.2.1.1 D.2.1 a.toNat 2 a2 rfl (q_vp hi h0 (by omega)) hd ?_
    rw [q_clamp hi h0, toNat_c h0]
    exact w2
theorem tys_ref {cA : Nat → ClassId} {k : Nat} (h : 14 ≤ k ∧ k ≤ 18) : ∃ C, (tysG cA)[k - 11]? = some (cA k, .object C) := by
  rcases (show k = 14 ∨ k = 15 ∨ k = 16 ∨ k = 17 ∨ k = 18 by omega) with rfl | rfl | rfl | rfl | rfl <;> exact ⟨_, rfl⟩
theorem tys_any {cA : Nat → ClassId} {k : Nat} (h : 11 ≤ k ∧ k ≤ 18) : ∃ t, (tysG cA)[k - 11]? = some (cA k, t) := by
  rcases (show k = 11 ∨ k = 12 ∨ k = 13 ∨ k = 14 ∨ k = 15 ∨ k = 16 ∨ k = 17 ∨ k = 18 by omega) with rfl | rfl | rfl | rfl | rfl | rfl | rfl | rfl <;> exact ⟨_, rfl⟩
theorem v_aaload {a i : Int} (h : 14 ≤ M.2.1 a ∧ 0 ≤ i ∧ i < M.2.2.1 a) (hd : decode mi.2.1 pc = .ok (.aaload, 1)) (kk : V mi d b0 b1 bc bs (pc + 1) ls (pA (M.1 a i) :: st) M dec X) : V mi d b0 b1 bc bs pc ls (pI i :: pA a :: st) M dec X := by
  obtain ⟨hk, h0, hl⟩ := h
  refine v_step kk (fun hM hL hS => ⟨hM, hL, okS_cons.mpr ⟨trivial, (okS_cons.mp (okS_cons.mp hS).2).2⟩⟩) (fun hM hL hS G b p l e s m args below meth c Q Cc H locs cells slots lsA D w => ?_)
  obtain ⟨a0, a1, a2⟩ := wsM_get (cA := G.2.2.1) (b := b) hM (a := a) (by omega)
  have hr : -1 ≤ M.1 a i := by
    have := hM.2.2.2 a i.toNat (by omega)
    rw [toNat_c h0] at this
    unfold tOf at this
    rw [if_neg (by omega), if_neg (by omega), if_neg (by omega), if_pos hk] at this
    exact this
  have hi := (okS_cons.mp hS).1
  have hk2 := hM.2.1 a
  obtain ⟨kn, hkn⟩ : ∃ kn : Nat, M.2.1 a = (kn : Int) := ⟨(M.2.1 a).toNat, by omega⟩
  obtain ⟨C, hC⟩ := tys_ref (cA := G.2.2.1) (k := kn) (by omega)
  rw [cE_ref (k := (kn : Int)) (by rw [toNat_c a0]; exact hkn) (by omega), toNat_c a0, Int.toNat_natCast] at a2
  have w2 := w H locs cells slots lsA D
  simp only [List.map_cons, eV] at w2 ⊢
  rw [eR_nn a0]
  refine va_aldq Cc.1 Cc.2.1 Cc.2.2.2.2.2.2.2.2.1.1 D.2.1 a.toNat (kn - 11) a2 hC (q_vp hi h0 (by omega)) hd ?_
  rw [q_clamp hi h0, toNat_c h0, eO_rf hr]
  exact w2
theorem v_alen {a : Int} (h : 11 ≤ M.2.1 a) (hd : decode mi.2.1 pc = .ok (.arraylength, 1)) (kk : V mi d b0 b1 bc bs (pc + 1) ls (pI (M.2.2.1 a) :: st) M dec X) : V mi d b0 b1 bc bs pc ls (pA a :: st) M dec X := by
  refine v_step kk (fun hM hL hS => ⟨hM, hL, okS_cons.mpr ⟨(show r32 _ by have := hM.2.2.1 a; unfold r32; omega), (okS_cons.mp hS).2⟩⟩) (fun hM hL hS G b p l e s m args below meth c Q Cc H locs cells slots lsA D w => ?_)
  obtain ⟨a0, a1, a2⟩ := wsM_get (cA := G.2.2.1) (b := b) hM (a := a) (by omega)
  have hk2 := hM.2.1 a
  have hl2 := hM.2.2.1 a
  obtain ⟨kn, hkn⟩ : ∃ kn : Nat, M.2.1 a = (kn : Int) := ⟨(M.2.1 a).toNat, by omega⟩
  obtain ⟨t, hC⟩ := tys_any (cA := G.2.2.1) (k := kn) (by omega)
  have w2 := w H locs cells slots lsA D
  simp only [List.map_cons, eV] at w2 ⊢
  rw [eR_nn a0]
  have e9 : Int32.ofNat (M.2.2.1 a).toNat = Int32.ofInt (M.2.2.1 a) := by
    apply Int32.toInt_inj.mp
    rw [Int32.toInt_ofNat_of_lt (by omega), q_in (by unfold r32; omega)]
    omega
  by_cases h14 : 14 ≤ M.2.1 a
  · rw [cE_ref (k := (kn : Int)) (by rw [toNat_c a0]; exact hkn) (by omega), toNat_c a0, Int.toNat_natCast] at a2
    exact va_alen Cc.1 Cc.2.1 Cc.2.2.2.2.2.2.2.2.1.1 D.2.1 a.toNat (kn - 11) a2 hC e9 hd w2
  · rw [cE_arr (k := (kn : Int)) (by rw [toNat_c a0]; exact hkn) (by omega), toNat_c a0, Int.toNat_natCast] at a2
    exact va_alen Cc.1 Cc.2.1 Cc.2.2.2.2.2.2.2.2.1.1 D.2.1 a.toNat (kn - 11) a2 hC e9 hd w2
/-- an array's cell behind a store -/
theorem cE_st_arr {cA : Nat → ClassId} {b : Nat} {k a i x : Int} (h3 : k = 11 ∨ k = 12 ∨ k = 13) (a0 : 0 ≤ a) (h0 : 0 ≤ i) (ha : M.2.1 a = k) : cE cA b (mst M a i x) a.toNat = .inl (cA k.toNat, (M.2.2.1 a).toNat, .inl (upd (fun j => Int32.ofInt (M.1 a j)) i.toNat (Int32.ofInt x))) := by
  rw [cE_arr (k := k) (by rw [toNat_c a0]; exact ha) h3, toNat_c a0]
  congr 3
  congr 1
  funext j
  show Int32.ofInt (if a = a ∧ (j : Int) = i then x else M.1 a j) = if j = i.toNat then Int32.ofInt x else Int32.ofInt (M.1 a j)
  by_cases hj : j = i.toNat
  · rw [if_pos ⟨rfl, by omega⟩, if_pos hj]
  · rw [if_neg (by rintro ⟨-, q⟩; omega), if_neg hj]
theorem v_iastore {a i x : Int} (h : M.2.1 a = 12 ∧ 0 ≤ i ∧ i < M.2.2.1 a) (hd : decode mi.2.1 pc = .ok (.iastore, 1)) (kk : V mi d b0 b1 bc bs (pc + 1) ls st (mst M a i x) dec X) : V mi d b0 b1 bc bs pc ls (pI x :: pI i :: pA a :: st) M dec X := by
  obtain ⟨hk, h0, hl⟩ := h
  refine v_step kk (fun hM hL hS => ⟨hM.st (fun n hn _ => ?_), hL, (okS_cons.mp (okS_cons.mp (okS_cons.mp hS).2).2).2⟩) (fun hM hL hS G b p l e s m args below meth c Q Cc H locs cells slots lsA D w => ?_)
  · rw [hk]; exact (okS_cons.mp hS).1
  obtain ⟨a0, a1, a2⟩ := wsM_get (cA := G.2.2.1) (b := b) hM (a := a) (by rw [hk]; omega)
  rw [cE_arr (k := 12) (by rw [toNat_c a0]; exact hk) (Or.inr (Or.inl rfl)), toNat_c a0] at a2
  have hi := (okS_cons.mp (okS_cons.mp hS).2).1
  have hin := q_vp (n := (M.2.2.1 a).toNat) hi h0 (by omega)
  simp only [List.map_cons, eV]
  rw [eR_nn a0]
  refine W.iast Cc.1 Cc.2.1 (D.2.1 a.toNat _ a2) ((Cc.2.2.2.2.2.2.2.2.1.1.2 1 _ rfl).1 (M.2.2.1 a).toNat (fun j => .int (Int32.ofInt (M.1 a j)))) (fun q => by cases q) (by show ¬ (_ < 0 ∨ (arrV _ _ _).slots.size ≤ _); rw [arrV_size]; exact hin) rfl rfl hd fun H1 e1 z oq => ?_
  refine w H1 _ cells slots lsA (D.set a0 a1 ?_ z oq)
  rw [cE_st_arr (Or.inr (Or.inl rfl)) a0 h0 hk]
  show H1[b + a.toNat]? = some (vp_cell _ _)
  rw [e1, vp_cell_i, vp_cell_i, arrV_store, q_clamp hi h0]
  congr 2
  funext q
  by_cases hq : q = i.toNat
  · subst hq; simp [updV, upd]
  · simp [updV, upd, hq]
theorem q_nb {x : Int} (h : -128 ≤ x ∧ x ≤ 127) : vp_nar .byte (Int32.ofInt x) = Int32.ofInt x := by
  rw [vp_nar_byte, q_i2b, w8_id h.1 h.2]
theorem v_bastore {a i x : Int} (h : M.2.1 a = 11 ∧ 0 ≤ i ∧ i < M.2.2.1 a) (hx : -128 ≤ x ∧ x ≤ 127) (hd : decode mi.2.1 pc = .ok (.bastore, 1)) (kk : V mi d b0 b1 bc bs (pc + 1) ls st (mst M a i x) dec X) : V mi d b0 b1 bc bs pc ls (pI x :: pI i :: pA a :: st) M dec X := by
  obtain ⟨hk, h0, hl⟩ := h
  refine v_step kk (fun hM hL hS => ⟨hM.st (fun n hn _ => ?_), hL, (okS_cons.mp (okS_cons.mp (okS_cons.mp hS).2).2).2⟩) (fun hM hL hS G b p l e s m args below meth c Q Cc H locs cells slots lsA D w => ?_)
  · rw [hk]; exact hx
  obtain ⟨a0, a1, a2⟩ := wsM_get (cA := G.2.2.1) (b := b) hM (a := a) (by rw [hk]; omega)
  rw [cE_arr (k := 11) (by rw [toNat_c a0]; exact hk) (Or.inl rfl), toNat_c a0] at a2
  have hi := (okS_cons.mp (okS_cons.mp hS).2).1
  have hin := q_vp (n := (M.2.2.1 a).toNat) hi h0 (by omega)
  simp only [List.map_cons, eV]
  rw [eR_nn a0]
  refine W.bast Cc.1 Cc.2.1 (D.2.1 a.toNat _ a2) ((Cc.2.2.2.2.2.2.2.2.1.1.2 0 _ rfl).1 (M.2.2.1 a).toNat (fun j => .int (Int32.ofInt (M.1 a j)))) (fun q => by cases q) (by show ¬ (_ < 0 ∨ (arrV _ _ _).slots.size ≤ _); rw [arrV_size]; exact hin) rfl rfl hd fun H1 e1 z oq => ?_
  refine w H1 _ cells slots lsA (D.set a0 a1 ?_ z oq)
  rw [cE_st_arr (Or.inl rfl) a0 h0 hk]
  show H1[b + a.toNat]? = some (vp_cell _ _)
  rw [e1, vp_cell_i, vp_cell_i, arrV_store, q_clamp hi h0]
  congr 2
  funext q
  have hnb := q_nb hx
  unfold vp_nar at hnb
  by_cases hq : q = i.toNat
  · subst hq
    simp only [updV, upd, if_true]
    have h2 : ∃ y, narrow .byte (.int (Int32.ofInt x)) = .int y := ⟨_, rfl⟩
    obtain ⟨y, hy⟩ := h2
    rw [hy] at hnb ⊢
    simp only at hnb
    rw [hnb]
  · simp [updV, upd, hq]
theorem v_zastore {a i x : Int} (h : M.2.1 a = 13 ∧ 0 ≤ i ∧ i < M.2.2.1 a) (hx : x = 0 ∨ x = 1) (hd : decode mi.2.1 pc = .ok (.bastore, 1)) (kk : V mi d b0 b1 bc bs (pc + 1) ls st (mst M a i x) dec X) : V mi d b0 b1 bc bs pc ls (pI x :: pI i :: pA a :: st) M dec X := by
  obtain ⟨hk, h0, hl⟩ := h
  refine v_step kk (fun hM hL hS => ⟨hM.st (fun n hn _ => ?_), hL, (okS_cons.mp (okS_cons.mp (okS_cons.mp hS).2).2).2⟩) (fun hM hL hS G b p l e s m args below meth c Q Cc H locs cells slots lsA D w => ?_)
  · rw [hk]; exact hx
  obtain ⟨a0, a1, a2⟩ := wsM_get (cA := G.2.2.1) (b := b) hM (a := a) (by rw [hk]; omega)
  rw [cE_arr (k := 13) (by rw [toNat_c a0]; exact hk) (Or.inr (Or.inr rfl)), toNat_c a0] at a2
  have hi := (okS_cons.mp (okS_cons.mp hS).2).1
  have hin := q_vp (n := (M.2.2.1 a).toNat) hi h0 (by omega)
  simp only [List.map_cons, eV]
  rw [eR_nn a0]
  refine W.zast Cc.1 Cc.2.1 (D.2.1 a.toNat _ a2) ((Cc.2.2.2.2.2.2.2.2.1.1.2 2 _ rfl).1 (M.2.2.1 a).toNat (fun j => .int (Int32.ofInt (M.1 a j)))) (fun q => by cases q) (by show ¬ (_ < 0 ∨ (arrV _ _ _).slots.size ≤ _); rw [arrV_size]; exact hin) rfl rfl hd fun H1 e1 z oq => ?_
  refine w H1 _ cells slots lsA (D.set a0 a1 ?_ z oq)
  rw [cE_st_arr (Or.inr (Or.inr rfl)) a0 h0 hk]
  show H1[b + a.toNat]? = some (vp_cell _ _)
  rw [e1, vp_cell_i, vp_cell_i, arrV_store, q_clamp hi h0]
  congr 2
  funext q
  by_cases hq : q = i.toNat
  · subst hq
    simp only [updV, upd, if_true]
    exact nar_z hx
  · simp [updV, upd, hq]
end RulesR
