/-! a small calculus: X is some r with Q r -/
def TT {ρ : Type} (X : Option ρ) (Q : ρ → Prop) : Prop := ∃ r, X = some r ∧ Q r
section WP
variable {α β ρ σ τ : Type}
theorem TT.ok {r : ρ} {Q : ρ → Prop} (h : Q r) : TT (some r) Q := ⟨r, rfl, h⟩
theorem TT.eq {X : Option ρ} {r : ρ} {Q : ρ → Prop} (e : X = some r) (h : Q r) : TT X Q := ⟨r, e, h⟩
theorem TT.mono {X : Option ρ} {Q Q' : ρ → Prop} (h : TT X Q) (hq : ∀ r, Q r → Q' r) : TT X Q' := by
  obtain ⟨r, e, h⟩ := h; exact ⟨r, e, hq r h⟩
theorem TT.bind {X : Option α} {f : α → Option β} {P : α → Prop} {Q : β → Prop} (h : TT X P) (hf : ∀ r, P r → TT (f r) Q) : TT (X.bind f) Q := by
  obtain ⟨r, e, h⟩ := h; rw [e]; exact hf r h
theorem TT.bindE {X : Option α} {f : α → Option β} {r : α} {Q : β → Prop} (e : X = some r) (hf : TT (f r) Q) : TT (X.bind f) Q := by
  rw [e]; exact hf
theorem TT.guard {c : Prop} [Decidable c] {A : Option ρ} {Q : ρ → Prop} (hc : c) (h : TT A Q) : TT (if c then A else none) Q := by
  rw [if_pos hc]; exact h
theorem TT.pos {c : Prop} [Decidable c] {A B : Option ρ} {Q : ρ → Prop} (hc : c) (h : TT A Q) : TT (if c then A else B) Q := by
  rw [if_pos hc]; exact h
theorem TT.neg {c : Prop} [Decidable c] {A B : Option ρ} {Q : ρ → Prop} (hc : ¬ c) (h : TT B Q) : TT (if c then A else B) Q := by
  rw [if_neg hc]; exact h
theorem TT.ite {c : Prop} [Decidable c] {A B : Option ρ} {Q : ρ → Prop} (h1 : c → TT A Q) (h2 : ¬ c → TT B Q) : TT (if c then A else B) Q := by
  by_cases hc : c
  · rw [if_pos hc]; exact h1 hc
  · rw [if_neg hc]; exact h2 hc
theorem TT.sM {M : Mem} {f : Mem → Option ρ} {Q : ρ → Prop} (h : TT (f M) Q) : TT (bM M f) Q := h
theorem TT.jI {k : τ → Option ρ} {body : (τ → Option ρ) → Option ρ} {Q : ρ → Prop} (h : TT (body k) Q) : TT (jn k body) Q := h
theorem TT.join {k : τ → Option ρ} {body : (τ → Option ρ) → Option ρ} {Q : ρ → Prop} (P : τ → Prop) (hk : ∀ t, P t → TT (k t) Q) (h : ∀ j : τ → Option ρ, (∀ t, P t → TT (j t) Q) → TT (body j) Q) : TT (jn k body) Q := h k hk
theorem TT.iter {b : (σ → Option ρ) → σ → Option ρ} {Q : ρ → Prop} (I : σ → Prop) (μ : σ → Nat)
    (hb : ∀ rec s, I s → (∀ s', I s' → μ s' < μ s → TT (rec s') Q) → TT (b rec s) Q) : ∀ n s, I s → μ s < n → TT (iterC b n s) Q
  | 0, s, _, h => absurd h (Nat.not_lt_zero _)
  | n + 1, s, hI, h => hb (iterC b n) s hI (fun s' hI' hm => TT.iter I μ hb n s' hI' (by omega))
end WP
theorem mst_2 (M : Mem) (a i v : Int) : (mst M a i v).2 = M.2 := rfl
theorem mst_k (M : Mem) (a i v : Int) : (mst M a i v).2.1 = M.2.1 := rfl
theorem mst_l (M : Mem) (a i v : Int) : (mst M a i v).2.2.1 = M.2.2.1 := rfl
theorem mst_n (M : Mem) (a i v : Int) : (mst M a i v).2.2.2 = M.2.2.2 := rfl
theorem mst_at (M : Mem) (a i v : Int) : (mst M a i v).1 a i = v := if_pos ⟨rfl, rfl⟩
theorem mst_ne (M : Mem) (a i v x y : Int) (h : x ≠ a) : (mst M a i v).1 x y = M.1 x y := if_neg (fun q => h q.1)
theorem mst_nf (M : Mem) (a i v x y : Int) (h : y ≠ i) : (mst M a i v).1 x y = M.1 x y := if_neg (fun q => h q.2)
theorem mst_r (M : Mem) (a i v x y : Int) : (mst M a i v).1 x y = if x = a ∧ y = i then v else M.1 x y := rfl
