/-! loops, joins, names for values -/
def iterC {σ ρ : Type} (b : (σ → Option ρ) → σ → Option ρ) : Nat → σ → Option ρ
  | 0, _ => none
  | n + 1, s => b (iterC b n) s
def BIG : Nat := 3000000
def jn {τ ρ : Type} (k : τ → Option ρ) (body : (τ → Option ρ) → Option ρ) : Option ρ := body k
def bM {ρ : Type} (M : Mem) (f : Mem → Option ρ) : Option ρ := f M
def bI {ρ : Type} (x : Int) (f : Int → Option ρ) : Option ρ := f x
abbrev dI (M : Mem) : Int → Option PV × Mem := fun r => (some (pI r), M)
abbrev dA (M : Mem) : Int → Option PV × Mem := fun r => (some (pA r), M)
abbrev dIM : Int × Mem → Option PV × Mem := fun r => (some (pI r.1), r.2)
abbrev dAM : Int × Mem → Option PV × Mem := fun r => (some (pA r.1), r.2)
abbrev dV : Mem → Option PV × Mem := fun r => (none, r)
section RulesL
variable {ρ : Type} {mi : MI} {d b0 b1 bc bs pc : Nat} {ls ls' : List (Option PV)} {st : List PV} {M : Mem} {dec : ρ → Option PV × Mem} {X A B : Option ρ}
theorem ls_e {b : List (Option PV)} : lsle [] b := trivial
theorem ls_n {a b : List (Option PV)} {x : Option PV} (h : lsle a b) : lsle (none :: a) (x :: b) := h
theorem ls_s {a b : List (Option PV)} {v : PV} (h : lsle a b) : lsle (some v :: a) (some v :: b) := ⟨rfl, h⟩
theorem v_loop {σ : Type} (LS : σ → List (Option PV)) (MM : σ → Mem) {b : (σ → Option ρ) → σ → Option ρ} {n : Nat} {s0 : σ}
    (h : ∀ rec : σ → Option ρ, (∀ s, V mi d b0 b1 bc bs pc (LS s) [] (MM s) dec (rec s)) → ∀ s, V mi d b0 b1 bc bs pc (LS s) [] (MM s) dec (b rec s)) : V mi d b0 b1 bc bs pc (LS s0) [] (MM s0) dec (iterC b n s0) := by
  have key : ∀ n s, V mi d b0 b1 bc bs pc (LS s) [] (MM s) dec (iterC b n s) := by
    intro n
    induction n with
    | zero => intro s; exact v_none
    | succ n ih => intro s; exact h (iterC b n) ih s
  exact key n s0
theorem v_join {τ : Type} (LS : τ → List (Option PV)) (ST : τ → List PV) (MM : τ → Mem) (pj : Nat) {k : τ → Option ρ} {body : (τ → Option ρ) → Option ρ} (hk : ∀ t, V mi d b0 b1 bc bs pj (LS t) (ST t) (MM t) dec (k t))
    (hb : ∀ j : τ → Option ρ, (∀ t, V mi d b0 b1 bc bs pj (LS t) (ST t) (MM t) dec (j t)) → V mi d b0 b1 bc bs pc ls st M dec (body j)) : V mi d b0 b1 bc bs pc ls st M dec (jn k body) := hb k hk
theorem v_bM {f : Mem → Option ρ} (h : ∀ M1, M1 = M → V mi d b0 b1 bc bs pc ls st M1 dec (f M1)) : V mi d b0 b1 bc bs pc ls st M dec (bM M f) := h M rfl
end RulesL
