theorem inGT {ws : List Cond} (h : ws.all (fun w => decide (w ∈ tables_1) && goodWord w) = true) : ∀ w ∈ ws, w ∈ GT := fun w hw => by
  have h1 := List.all_eq_true.mp h w hw
  simp only [Bool.and_eq_true, decide_eq_true_eq] at h1
  exact List.mem_filter.mpr ⟨List.mem_append_right _ h1.1, h1.2⟩
theorem eR_nn {b : Nat} {cs : Nat → Nat} {a : Int} (h : 0 ≤ a) : eR b cs a = .ref (b + a.toNat) := by unfold eR; rw [if_neg (by omega), if_pos h]
theorem toNat_c {a : Int} (h : 0 ≤ a) : ((a.toNat : Nat) : Int) = a := Int.toNat_of_nonneg h
/-- a cell of the memory, at its place in the world -/
theorem wsM_get {cA : Nat → ClassId} {b : Nat} {M : Mem} (hM : MemOK M) {a : Int} (h : M.2.1 a ≠ -1) : 0 ≤ a ∧ a.toNat < M.2.2.2 ∧ (wsM cA b M)[a.toNat]? = some (b + a.toNat, cE cA b M a.toNat) := by
  obtain ⟨h0, h1⟩ := hM.1 a h
  have h2 : a.toNat < M.2.2.2 := by omega
  exact ⟨h0, h2, wsM_at h2⟩
theorem MemOK.st {M : Mem} (h : MemOK M) {a i v : Int} (hv : ∀ n : Nat, i = n → M.2.1 a ≠ -1 → okT (tOf (M.2.1 a) n) v) : MemOK (mst M a i v) := by
  obtain ⟨h1, h2, h3, h4⟩ := h
  refine ⟨h1, h2, h3, fun x n hx => ?_⟩
  show okT (tOf (M.2.1 x) n) (if x = a ∧ (n : Int) = i then v else M.1 x n)
  split
  · rename_i hq
    obtain ⟨rfl, hq⟩ := hq
    exact hv n hq.symm hx
  · exact h4 x n hx
def tOKb : FieldType → Bool
  | .int => true
  | .long => true
  | .boolean => true
  | .object _ => true
  | .array _ => true
  | _ => false
theorem eT_fit {b : Nat} {t : FieldType} {x : Int} (ht : tOKb t = true) (h : okT t x) : narrow t (eT b t x) = eT b t x ∧ fits t (eT b t x) = true := by
  cases t with
  | int => exact ⟨rfl, rfl⟩
  | long => exact ⟨rfl, rfl⟩
  | boolean => rcases h with rfl | rfl <;> (simp only [eT]; exact ⟨by decide, by decide⟩)
  | object n => simp only [eT]; cases eO b x <;> exact ⟨rfl, rfl⟩
  | array n => simp only [eT]; cases eO b x <;> exact ⟨rfl, rfl⟩
  | _ => cases ht
theorem map_set {α : Type} (f : Nat → α) (n k : Nat) (v : α) : ((List.range n).map f).set k v = (List.range n).map (fun j => if j = k then v else f j) := by
  apply List.ext_getElem?
  intro j
  rw [List.getElem?_set, List.getElem?_map, List.getElem?_map]
  by_cases hj : j < n
  · rw [List.getElem?_range hj]
    by_cases hk : k = j
    · subst hk; simp [hj]
    · rw [if_neg hk]; simp [Ne.symm hk]
  · have : (List.range n)[j]? = none := by rw [List.getElem?_eq_none_iff]; simpa using Nat.not_lt.mp hj
    rw [this]
    by_cases hk : k = j
    · subst hk; simp [hj]
    · rw [if_neg hk]; rfl
theorem cls_n {ci : Nat} {C : String} {T : u_T} {N : Nat} (hc : vwCl[ci]? = some (C, T, N)) : ci ≤ 10 ∧ nfl ci = N := by
  match ci, hc with
  | 0, hc => cases hc; exact ⟨by decide, rfl⟩
  | 1, hc => cases hc; exact ⟨by decide, rfl⟩
  | 2, hc => cases hc; exact ⟨by decide, rfl⟩
  | 3, hc => cases hc; exact ⟨by decide, rfl⟩
  | 4, hc => cases hc; exact ⟨by decide, rfl⟩
  | 5, hc => cases hc; exact ⟨by decide, rfl⟩
  | 6, hc => cases hc; exact ⟨by decide, rfl⟩
  | 7, hc => cases hc; exact ⟨by decide, rfl⟩
  | 8, hc => cases hc; exact ⟨by decide, rfl⟩
  | 9, hc => cases hc; exact ⟨by decide, rfl⟩
  | 10, hc => cases hc; exact ⟨by decide, rfl⟩
  | n + 11, hc => simp [vwCl] at hc
theorem cls_ty {ci : Nat} {C : String} {T : u_T} {N : Nat} (hc : vwCl[ci]? = some (C, T, N)) : (∀ k, k < N → parseFieldDescriptor (T k).2.2.1 = some (fty ci k)) ∧ (∀ a, a < N → ∀ b, b < N → a ≠ b → (T a).2.1 ≠ (T b).2.1) := by
  match ci, hc with
  | 0, hc => cases hc; exact ⟨tyX0_ok, nmX0⟩
  | 1, hc => cases hc; exact ⟨tyX1_ok, nmX1⟩
  | 2, hc => cases hc; exact ⟨tyX2_ok, nmX2⟩
  | 3, hc => cases hc; exact ⟨tyX3_ok, nmX3⟩
  | 4, hc => cases hc; exact ⟨tyX4_ok, nmX4⟩
  | 5, hc => cases hc; exact ⟨tyX5_ok, nmX5⟩
  | 6, hc => cases hc; exact ⟨tyX6_ok, nmX6⟩
  | 7, hc => cases hc; exact ⟨tyX7_ok, nmX7⟩
  | 8, hc => cases hc; exact ⟨tyX9_ok, nmX9⟩
  | 9, hc => cases hc; exact ⟨tyX10_ok, nmX10⟩
  | 10, hc => cases hc; exact ⟨tyX11_ok, nmX11⟩
  | n + 11, hc => simp [vwCl] at hc
section RulesM
variable {ρ : Type} {mi : MI} {d b0 b1 bc bs pc : Nat} {ls ls' : List (Option PV)} {st : List PV} {M : Mem} {dec : ρ → Option PV × Mem} {X A B : Option ρ}
theorem tOf_obj {ci i : Nat} (h : ci ≤ 10) : tOf (ci : Int) i = fty ci i := by
  unfold tOf
  rw [if_neg (by omega), if_neg (by omega), if_neg (by omega), if_neg (by omega)]
  rfl
theorem fs_at {b N k : Nat} {g : Nat → Value} (h : k < N) : ((List.range N).map g)[k]? = some (g k) := by
  rw [List.getElem?_map, List.getElem?_range h]; rfl
theorem v_get {C : String} {T : u_T} {N index : Nat} {a : Int} {v : PV} (ci k : Nat) (hc : vwCl[ci]? = some (C, T, N)) (hin : ∀ w ∈ u_ws C T N, w ∈ GT) (hk : k < N) (hlk : Cond.fieldLink mi.1.cls index (T k).1 (T k).2.1 (T k).2.2.1 ∈ GT) (hd : decode mi.2.1 pc = .ok (.getfield index, 3))
    (ha : M.2.1 a = (ci : Int)) (hv : tagT (fty ci k) (M.1 a k) = v) (kk : V mi d b0 b1 bc bs (pc + 3) ls (v :: st) M dec X) : V mi d b0 b1 bc bs pc ls (pA a :: st) M dec X := by
  subst hv
  obtain ⟨c10, hN⟩ := cls_n hc
  have ok : MemOK M → okT (fty ci k) (M.1 a k) := fun hM => by
    have := hM.2.2.2 a k (by rw [ha]; omega)
    rw [ha, tOf_obj c10] at this
    exact this
  refine v_step kk (fun hM hL hS => ⟨hM, hL, okS_cons.mpr ⟨okV_tag (ok hM), (okS_cons.mp hS).2⟩⟩) (fun hM hL hS G b p l e s m args below meth c Q Cc H locs cells slots lsA D w => ?_)
  obtain ⟨a0, a1, a2⟩ := wsM_get (cA := G.2.2.1) (b := b) hM (a := a) (by rw [ha]; omega)
  rw [cE_obj (k := (ci : Int)) (by rw [toNat_c a0]; exact ha) (by omega)] at a2
  have w2 := w H locs cells slots lsA D
  simp only [List.map_cons] at w2 ⊢
  rw [← eV_tag (ok hM)] at w2
  simp only [eV]
  rw [eR_nn a0]
  exact va_get (ref := (T k).1) Cc.1 Cc.2.1 Cc.2.2.2.2.2.1 hin Cc.2.2.2.2.1 Cc.2.2.2.2.2.2.2.2.1.1 D.2.1 a.toNat a2 (by rw [Int.toNat_natCast]; exact hc) k hk (Cc.2.2.2.2.2.1 _ hlk) (fun _ h => h) (v := eT b (fty ci k) (M.1 a k)) (by
    rw [Int.toNat_natCast, hN, fs_at (b := 0) hk, toNat_c a0]) hd w2
/-- the world behind a store into one cell -/
theorem Dy.set {G : GG} {b : Nat} {s : State} {H H1 : Heap} {locs : List Loc} {cells slots j : Nat} {lsA : Array Slot} {a i v : Int} (D : Dy mi G b b0 b1 bc bs s M ls H locs cells slots lsA) (a0 : 0 ≤ a) (a1 : a.toNat < M.2.2.2)
    (he : va_at (G.1, G.2.1) vwCl (b + a.toNat, cE G.2.2.1 b (mst M a i v) a.toNat) H1) (hz : H1.size = H.size) (oq : ∀ q : Nat, q ≠ b + a.toNat → H1[q]? = H[q]?) : Dy mi G b b0 b1 bc bs s (mst M a i v) ls H1 (locs ++ [⟨b + a.toNat, j⟩]) cells slots lsA := by
  obtain ⟨D1, D2, D3, D4, D5⟩ := D
  have hs := wsM_set (cA := G.2.2.1) (b := b) (i := i) (v := v) a1
  rw [toNat_c a0] at hs
  refine ⟨hz.trans D1, ?_, D3.put hz oq (Nat.le_add_right _ _), D4, D5⟩
  rw [← hs]
  exact D2.set wsM_D (wsM_at a1) he oq
theorem cE_st_obj {cA : Nat → ClassId} {b ci k : Nat} {a x : Int} (c10 : ci ≤ 10) (a0 : 0 ≤ a) (ha : M.2.1 a = (ci : Int)) : cE cA b (mst M a k x) a.toNat = .inr (ci, ((List.range (nfl ci)).map fun j => eT b (fty ci j) (M.1 a j)).set k (eT b (fty ci k) x)) := by
  rw [cE_obj (k := (ci : Int)) (by rw [toNat_c a0]; exact ha) (by omega), Int.toNat_natCast, map_set, toNat_c a0]
  congr 2
  apply List.map_congr_left
  intro j _
  show eT b (fty ci j) (if a = a ∧ (j : Int) = (k : Int) then x else M.1 a j) = _
  by_cases hj : j = k
  · subst hj; simp
  · rw [if_neg (by rintro ⟨-, q⟩; omega), if_neg hj]
theorem v_put {C : String} {T : u_T} {N index : Nat} {a x : Int} {v : PV} (ci k : Nat) (hc : vwCl[ci]? = some (C, T, N)) (hin : ∀ w ∈ u_ws C T N, w ∈ GT) (hk : k < N) (hlk : Cond.fieldLink mi.1.cls index (T k).1 (T k).2.1 (T k).2.2.1 ∈ GT) (hf : (T k).2.2.2 = false ∨ ((T k).2.2.2 = true ∧ mi.1.name = "<init>" ∧ (T k).1 = mi.1.cls)) (ht : tOKb (fty ci k) = true) (hd : decode mi.2.1 pc = .ok (.putfield index, 3))
    (ha : M.2.1 a = (ci : Int)) (hv : tagT (fty ci k) x = v) (hx : okV v → okT (fty ci k) x) (kk : V mi d b0 b1 bc bs (pc + 3) ls st (mst M a k x) dec X) : V mi d b0 b1 bc bs pc ls (v :: pA a :: st) M dec X := by
  subst hv
  obtain ⟨c10, hN⟩ := cls_n hc
  obtain ⟨hty, hnm⟩ := cls_ty hc
  refine v_step kk (fun hM hL hS => ⟨hM.st (fun n hn _ => ?_), hL, (okS_cons.mp (okS_cons.mp hS).2).2⟩) (fun hM hL hS G b p l e s m args below meth c Q Cc H locs cells slots lsA D w => ?_)
  · have : n = k := by omega
    subst this
    rw [ha, tOf_obj c10]
    exact hx (okS_cons.mp hS).1
  obtain ⟨a0, a1, a2⟩ := wsM_get (cA := G.2.2.1) (b := b) hM (a := a) (by rw [ha]; omega)
  have ok := hx (okS_cons.mp hS).1
  obtain ⟨hn, hfit⟩ := eT_fit (b := b) ht ok
  rw [cE_obj (k := (ci : Int)) (by rw [toNat_c a0]; exact ha) (by omega)] at a2
  simp only [List.map_cons]
  rw [← eV_tag ok]
  simp only [eV]
  rw [eR_nn a0]
  have hts := Cc.2.2.2.2.2.1
  have hK := Cc.2.2.2.2.2.2.2.2.1.1
  have hap := va_apart (own := mi.1.cls) hts hin (fty ci) hty hnm hK hc
  obtain ⟨r, h1, cell, q1, q2, q3, q4⟩ := D.2.1 a.toNat _ a2
  rw [Int.toNat_natCast] at h1 q2 q4
  have hr : r = (C, T, N) := Option.some.inj (h1.symm.trans hc)
  subst hr
  obtain ⟨hS', hfc, kC, hkC, hkind⟩ := hK.1 ci _ hc
  obtain ⟨cf, kf, fi, f, hi, hsl⟩ := hS' k hk
  have hst := (u_facts hfc hkC (u_lays hts hin hk) hi).1
  have hlen : k < ((List.range (nfl ci)).map fun j => eT b (fty ci j) (M.1 ((a.toNat : Nat) : Int) j)).length := by rw [List.length_map, List.length_range, hN]; exact hk
  have fin : ∀ H' : Heap, H'[b + a.toNat]? = some (cell.setSlot f.slot (eT b (fty ci k) x)) → H'.size = H.size → (∀ q, q ≠ b + a.toNat → H'[q]? = H[q]?) → W p l e (rmD d b0 b1) s m args below meth c H' (locs ++ [⟨b + a.toNat, f.slot⟩]) cells slots Q (F0 m (pc + 3) lsA (st.map (eV b G.2.2.2.1))) := fun H' e1 e2 e3 => by
    refine w H' _ cells slots lsA (D.set a0 a1 ?_ e2 e3)
    rw [hsl] at e1
    rw [cE_st_obj c10 a0 ha]
    rw [toNat_c a0] at q4 hlen
    exact ⟨_, hc, t_OB.to (V := updV (vp_V _) k (eT b (fty ci k) x)) ⟨_, e1, q2, q3, t_set q4 hap hk _⟩ (fun j _ => vp_updV_set hlen _ j)⟩
  have hlay := hts _ (hin _ (u_in_lay hk))
  unfold u_lay at hlay
  rcases hf with hf | ⟨hf, hi1, hi2⟩
  · rw [if_neg (by rw [hf]; decide)] at hlay
    have h6 := u_store hfc hkC hkind hlay hi (hty k hk) hn hfit
    exact W.putK Cc.1 Cc.2.1 (f := f) ⟨Cc.2.2.2.2.1, hts _ hlk, ⟨_, _, _, hi⟩, hst⟩ (by rw [q2]; exact h6) q1 q3 (by rw [hsl]; exact k2_hasslot (q4 k hk)) rfl rfl hd fin
  · rw [if_pos hf] at hlay
    have hcf : m.cls = cf := by
      obtain ⟨_, _, c', _, _, _, -, -, hf', -, -, -, hown2, -⟩ := Cond.laysFinal_spec hlay
      have e1 : c' = cf := by have := hi.symm.trans hf'; simp at this; exact this.1.symm
      rw [hi2] at hown2
      rw [← e1]; exact Option.some.inj (Cc.2.2.2.2.1.symm.trans hown2)
    have h6 := u_fits hfc hkC hkind (Or.inr hlay) hi (hty k hk) hn hfit
    exact W.putFinK Cc.1 Cc.2.1 Cc.2.2.2.2.1 (hts _ hlk) hi hst hcf (Cc.2.2.2.2.2.2.2.1 hi1) (by rw [q2]; exact h6) q1 q3 (by rw [hsl]; exact k2_hasslot (q4 k hk)) rfl rfl hd fin
end RulesM
