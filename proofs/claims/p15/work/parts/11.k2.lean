section RulesK2
variable {ρ : Type} {mi : MI} {d b0 b1 bc bs pc : Nat} {ls ls' : List (Option PV)} {st : List PV} {M : Mem} {dec : ρ → Option PV × Mem} {X A B : Option ρ}
theorem eR_k {b : Nat} {cs : Nat → Nat} {a : Int} (k : Nat) (h : a = -2 - (k : Int)) : eR b cs a = .ref (cs k) := by
  unfold eR
  rw [if_neg (by omega), if_neg (by omega)]
  congr 2
  omega
theorem v_gets {index : Nat} (k : Nat) (hk : k < 4) (hlk : Cond.fieldLink mi.1.cls index RX3 (sNm k) "[I" ∈ GT) (hd : decode mi.2.1 pc = .ok (.getstatic index, 3)) {a : Int} (ha : a = -2 - (k : Int)) (kk : V mi d b0 b1 bc bs (pc + 3) ls (pA a :: st) M dec X) : V mi d b0 b1 bc bs pc ls st M dec X :=
  v_step kk (fun hM hL hS => ⟨hM, hL, okS_cons.mpr ⟨trivial, hS⟩⟩) (fun hM hL hS G b p l e s m args below meth c Q Cc H locs cells slots lsA D w => by
    have w2 := w H locs cells slots lsA D
    simp only [List.map_cons, eV] at w2
    rw [eR_k k ha] at w2
    exact va_gets Cc.1 Cc.2.1 (Cc.2.2.2.2.2.2.2.2.1.2.2.1 k hk).1 D.2.2.1 Cc.2.2.2.2.1 (Cc.2.2.2.2.2.1 _ hlk) (fun _ h => h) hd w2)
theorem sTab_r : ∀ k, k < 4 → (sTab k).all (fun x => decide (0 ≤ x) && decide (x ≤ 99)) = true := by decide +kernel
theorem sTab_in {k : Nat} (hk : k < 4) (i : Nat) : 0 ≤ (sTab k).getD i 0 ∧ (sTab k).getD i 0 ≤ 99 := by
  by_cases hi : i < (sTab k).length
  · have h := List.all_eq_true.mp (sTab_r k hk) ((sTab k).getD i 0) (by rw [List.getD_eq_getElem?_getD, List.getElem?_eq_getElem hi]; exact List.getElem_mem hi)
    simp only [Bool.and_eq_true, decide_eq_true_eq] at h
    exact h
  · rw [List.getD_eq_getElem?_getD, List.getElem?_eq_none_iff.mpr (Nat.not_lt.mp hi)]
    exact ⟨Int.le_refl 0, by decide⟩
theorem v_ciald {a i : Int} (k : Nat) (hk : k < 4) {n : Int} (hn : ((sTab k).length : Int) = n) (ha : a = -2 - (k : Int)) (h : 0 ≤ i ∧ i < n) (hd : decode mi.2.1 pc = .ok (.iaload, 1)) (kk : V mi d b0 b1 bc bs (pc + 1) ls (pI ((sTab k).getD i.toNat 0) :: st) M dec X) : V mi d b0 b1 bc bs pc ls (pI i :: pA a :: st) M dec X :=
  v_step kk (fun hM hL hS => ⟨hM, hL, okS_cons.mpr ⟨(show r32 _ by have := sTab_in hk i.toNat; unfold r32; omega), (okS_cons.mp (okS_cons.mp hS).2).2⟩⟩) (fun hM hL hS G b p l e s m args below meth c Q Cc H locs cells slots lsA D w => by
    have hi := (okS_cons.mp hS).1
    have w2 := w H locs cells slots lsA D
    simp only [List.map_cons, eV] at w2 ⊢
    rw [eR_k k ha]
    exact va_ti Cc.1 Cc.2.1 (Cc.2.2.2.2.2.2.2.2.1.2.2.1 k hk).2 D.2.2.1 (q_vp hi h.1 (by omega)) (by rw [q_clamp hi h.1]) hd w2)
theorem v_ldcS {index : Nat} (i : Nat) (hi : i < 19) {a : Int} (ha : a = -6 - (i : Int)) (hx : sIx.getD i 0 = index) (hc : mi.1.cls = RX3) (hd : decode mi.2.1 pc = .ok (.ldc index, 2)) (kk : V mi d b0 b1 bc bs (pc + 2) ls (pA a :: st) M dec X) : V mi d b0 b1 bc bs pc ls st M dec X :=
  v_step kk (fun hM hL hS => ⟨hM, hL, okS_cons.mpr ⟨trivial, hS⟩⟩) (fun hM hL hS G b p l e s m args below meth c Q Cc H locs cells slots lsA D w => by
    have w2 := w H locs cells slots lsA D
    simp only [List.map_cons, eV] at w2
    rw [eR_k (4 + i) (by omega)] at w2
    have hr := Cc.2.2.2.2.2.2.2.2.1.2.2.2.2.2.2.1 i hi
    rw [hx] at hr
    exact va_ldcS Cc.1 Cc.2.1 Cc.2.2.2.2.1 (by rw [hc]; exact hr) hd w2)
end RulesK2
section RulesB
variable {ρ : Type} {mi : MI} {d b0 b1 bc bs pc : Nat} {ls ls' : List (Option PV)} {st : List PV} {M : Mem} {dec : ρ → Option PV × Mem} {X A B : Option ρ}
/-- less room is enough -/
theorem v_bw {bc' bs' : Nat} (h1 : bc' ≤ bc) (h2 : bs' ≤ bs) (k : V mi d b0 b1 bc' bs' pc ls st M dec X) : V mi d b0 b1 bc bs pc ls st M dec X :=
  v_step k (fun hM hL hS => ⟨hM, hL, hS⟩) (fun hM hL hS G b p l e s m args below meth c Q Cc H locs cells slots lsA D w => w H locs cells slots lsA ⟨D.1, D.2.1, D.2.2.1, D.2.2.2.1, by have := D.2.2.2.2.1; omega, by have := D.2.2.2.2.2; omega⟩)
/-- a loop that makes cells: the room that is left is told by its state -/
theorem v_loopB {σ : Type} (LS : σ → List (Option PV)) (MM : σ → Mem) (BC BS : σ → Nat) {b : (σ → Option ρ) → σ → Option ρ} {n : Nat} {s0 : σ} (hc : BC s0 = bc) (hs : BS s0 = bs)
    (h : ∀ rec : σ → Option ρ, (∀ s, V mi d b0 b1 (BC s) (BS s) pc (LS s) [] (MM s) dec (rec s)) → ∀ s, V mi d b0 b1 (BC s) (BS s) pc (LS s) [] (MM s) dec (b rec s)) : V mi d b0 b1 bc bs pc (LS s0) [] (MM s0) dec (iterC b n s0) := by
  subst hc; subst hs
  have key : ∀ n s, V mi d b0 b1 (BC s) (BS s) pc (LS s) [] (MM s) dec (iterC b n s) := by
    intro n
    induction n with
    | zero => intro s; exact v_none
    | succ n ih => intro s; exact h (iterC b n) ih s
  exact key n s0
end RulesB
section RulesB2
variable {ρ : Type} {mi : MI} {d b0 b1 bc bs pc : Nat} {ls ls' : List (Option PV)} {st : List PV} {M : Mem} {dec : ρ → Option PV × Mem} {X A B : Option ρ}
theorem v_joinB {τ : Type} (LS : τ → List (Option PV)) (ST : τ → List PV) (MM : τ → Mem) (pj : Nat) {k : τ → Option ρ} {body : (τ → Option ρ) → Option ρ} (hk : ∀ t, V mi d b0 b1 0 0 pj (LS t) (ST t) (MM t) dec (k t))
    (hb : ∀ j : τ → Option ρ, (∀ t, V mi d b0 b1 0 0 pj (LS t) (ST t) (MM t) dec (j t)) → V mi d b0 b1 bc bs pc ls st M dec (body j)) : V mi d b0 b1 bc bs pc ls st M dec (jn k body) := hb k hk
theorem byte_r (hM : MemOK M) {a i : Int} (h : M.2.1 a = 11 ∨ M.2.1 a = 13) (h0 : 0 ≤ i) : -128 ≤ M.1 a i ∧ M.1 a i ≤ 127 := by
  have := hM.2.2.2 a i.toNat (by omega)
  rw [toNat_c h0] at this
  rcases h with h | h <;> rw [h] at this
  · exact this
  · rcases this with q | q <;> omega
end RulesB2
