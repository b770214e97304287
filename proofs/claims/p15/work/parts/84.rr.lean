/-! two runs side by side: what holds of all that both end in; sums; a town's own values -/
def RR {ρ σ : Type} (X : Option ρ) (Y : Option σ) (Q : ρ → σ → Prop) : Prop := ∀ r u, X = some r → Y = some u → Q r u
section RRs
variable {α α' ρ σ τ τ' S T : Type}
theorem RR.ok {r : ρ} {u : σ} {Q : ρ → σ → Prop} (h : Q r u) : RR (some r) (some u) Q := fun q v e e' => by cases e; cases e'; exact h
theorem RR.okp {X : Option ρ} {Y : Option σ} {P : ρ → Prop} {P' : σ → Prop} {Q : ρ → σ → Prop} (h : PC X P) (h' : PC Y P') (q : ∀ r u, P r → P' u → Q r u) : RR X Y Q := fun r u e e' => q r u (h r e) (h' u e')
theorem RR.mono {X : Option ρ} {Y : Option σ} {Q Q' : ρ → σ → Prop} (h : RR X Y Q) (hq : ∀ r u, Q r u → Q' r u) : RR X Y Q' := fun r u e e' => hq r u (h r u e e')
theorem RR.xl {Y : Option σ} {Q : ρ → σ → Prop} : RR (none : Option ρ) Y Q := fun _ _ e => by cases e
theorem RR.xr {X : Option ρ} {Q : ρ → σ → Prop} : RR X (none : Option σ) Q := fun _ _ _ e => by cases e
theorem RR.gl {c : Prop} [Decidable c] {A : Option ρ} {Y : Option σ} {Q : ρ → σ → Prop} (h : c → RR A Y Q) : RR (if c then A else none) Y Q := by
  by_cases hc : c
  · rw [if_pos hc]; exact h hc
  · rw [if_neg hc]; exact RR.xl
theorem RR.gr {c : Prop} [Decidable c] {X : Option ρ} {A : Option σ} {Q : ρ → σ → Prop} (h : c → RR X A Q) : RR X (if c then A else none) Q := by
  by_cases hc : c
  · rw [if_pos hc]; exact h hc
  · rw [if_neg hc]; exact RR.xr
theorem RR.il {c : Prop} [Decidable c] {A B : Option ρ} {Y : Option σ} {Q : ρ → σ → Prop} (h1 : c → RR A Y Q) (h2 : ¬ c → RR B Y Q) : RR (if c then A else B) Y Q := by
  by_cases hc : c
  · rw [if_pos hc]; exact h1 hc
  · rw [if_neg hc]; exact h2 hc
theorem RR.ir {c : Prop} [Decidable c] {X : Option ρ} {A B : Option σ} {Q : ρ → σ → Prop} (h1 : c → RR X A Q) (h2 : ¬ c → RR X B Q) : RR X (if c then A else B) Q := by
  by_cases hc : c
  · rw [if_pos hc]; exact h1 hc
  · rw [if_neg hc]; exact h2 hc
theorem RR.ii {c d : Prop} [Decidable c] [Decidable d] {A B : Option ρ} {A' B' : Option σ} {Q : ρ → σ → Prop} (hcd : c ↔ d) (h1 : c → d → RR A A' Q) (h2 : ¬ c → ¬ d → RR B B' Q) : RR (if c then A else B) (if d then A' else B') Q := by
  by_cases hc : c
  · rw [if_pos hc, if_pos (hcd.mp hc)]; exact h1 hc (hcd.mp hc)
  · rw [if_neg hc, if_neg (fun h => hc (hcd.mpr h))]; exact h2 hc (fun h => hc (hcd.mpr h))
theorem RR.posl {c : Prop} [Decidable c] {A B : Option ρ} {Y : Option σ} {Q : ρ → σ → Prop} (hc : c) (h : RR A Y Q) : RR (if c then A else B) Y Q := by rw [if_pos hc]; exact h
theorem RR.negl {c : Prop} [Decidable c] {A B : Option ρ} {Y : Option σ} {Q : ρ → σ → Prop} (hc : ¬ c) (h : RR B Y Q) : RR (if c then A else B) Y Q := by rw [if_neg hc]; exact h
theorem RR.posr {c : Prop} [Decidable c] {X : Option ρ} {A B : Option σ} {Q : ρ → σ → Prop} (hc : c) (h : RR X A Q) : RR X (if c then A else B) Q := by rw [if_pos hc]; exact h
theorem RR.negr {c : Prop} [Decidable c] {X : Option ρ} {A B : Option σ} {Q : ρ → σ → Prop} (hc : ¬ c) (h : RR X B Q) : RR X (if c then A else B) Q := by rw [if_neg hc]; exact h
theorem RR.bl {X : Option α} {f : α → Option ρ} {Y : Option σ} {P : α → Prop} {Q : ρ → σ → Prop} (h : PC X P) (hf : ∀ r, P r → RR (f r) Y Q) : RR (X.bind f) Y Q := by
  cases X with
  | none => exact RR.xl
  | some r => exact hf r (h r rfl)
theorem RR.br {X : Option ρ} {Y : Option α} {g : α → Option σ} {P : α → Prop} {Q : ρ → σ → Prop} (h : PC Y P) (hf : ∀ r, P r → RR X (g r) Q) : RR X (Y.bind g) Q := by
  cases Y with
  | none => exact RR.xr
  | some r => exact hf r (h r rfl)
theorem RR.bb {X : Option α} {f : α → Option ρ} {Y : Option α'} {g : α' → Option σ} {P : α → α' → Prop} {Q : ρ → σ → Prop} (h : RR X Y P) (hf : ∀ r u, P r u → RR (f r) (g u) Q) : RR (X.bind f) (Y.bind g) Q := by
  cases X with
  | none => exact RR.xl
  | some r => cases Y with
    | none => exact RR.xr
    | some u => exact hf r u (h r u rfl rfl)
theorem RR.rl {X : Option ρ} {Y : Option σ} {Q : ρ → σ → Prop} (h : RR X Y Q) : RR (X.bind fun r => some r) Y Q := by
  cases X with
  | none => exact RR.xl
  | some r => exact h
theorem RR.jl {k : τ → Option ρ} {body : (τ → Option ρ) → Option ρ} {Y : Option σ} {Q : ρ → σ → Prop} (h : RR (body k) Y Q) : RR (jn k body) Y Q := h
theorem RR.jr {k : τ → Option σ} {body : (τ → Option σ) → Option σ} {X : Option ρ} {Q : ρ → σ → Prop} (h : RR X (body k) Q) : RR X (jn k body) Q := h
theorem RR.ml {M : Mem} {f : Mem → Option ρ} {Y : Option σ} {Q : ρ → σ → Prop} (h : RR (f M) Y Q) : RR (bM M f) Y Q := h
theorem RR.mr {M : Mem} {f : Mem → Option σ} {X : Option ρ} {Q : ρ → σ → Prop} (h : RR X (f M) Q) : RR X (bM M f) Q := h
theorem RR.iter {b : (S → Option ρ) → S → Option ρ} {b' : (T → Option σ) → T → Option σ} {Q : ρ → σ → Prop} (R : S → T → Prop)
    (hb : ∀ rec rec' s t, R s t → (∀ s' t', R s' t' → RR (rec s') (rec' t') Q) → RR (b rec s) (b' rec' t) Q) : ∀ n m s t, R s t → RR (iterC b n s) (iterC b' m t) Q
  | 0, _, _, _, _ => fun _ _ e => by cases e
  | _ + 1, 0, _, _, _ => fun _ _ _ e => by cases e
  | n + 1, m + 1, s, t, h => hb (iterC b n) (iterC b' m) s t h (fun s' t' h' => RR.iter R hb n m s' t' h')
theorem TT.rr {X : Option Int} {Y : Option (Int × Mem)} {P : Int → Prop} {Q : Int × Mem → Prop} (hx : TT X P) (hy : TT Y Q) (h : RR X Y (fun r u => r = u.1)) : TT X (fun r => TT Y (fun u => r = u.1 ∧ Q u)) := by
  obtain ⟨r, e, _⟩ := hx
  obtain ⟨u, e', q⟩ := hy
  exact ⟨r, e, u, e', h r u e e', q⟩
theorem TT.rrm {X : Option (Int × Mem)} {Y : Mem → Option (Int × Mem)} {P : Int × Mem → Prop} {Q : Mem → Int × Mem → Prop} (hx : TT X P) (hy : ∀ N, (∃ i, P (i, N)) → TT (Y N) (Q N)) (h : ∀ N, (∃ i, P (i, N)) → RR X (Y N) (fun r u => r.1 = u.1)) : TT X (fun r => P r ∧ TT (Y r.2) (fun u => r.1 = u.1 ∧ Q r.2 u)) := by
  obtain ⟨⟨i, N⟩, e, p⟩ := hx
  obtain ⟨u, e', q⟩ := hy N ⟨i, p⟩
  exact ⟨(i, N), e, p, u, e', h N ⟨i, p⟩ _ u e e', q⟩
theorem RR.flag {c : Prop} [Decidable c] {A B : Option ρ} {A' B' : Option σ} {Q : ρ → σ → Prop} (h1 : c → RR B B' Q) (h0 : ¬ c → RR A A' Q) : RR ((some (if c then (1 : Int) else 0)).bind fun r => if r = 0 then A else B) ((some (if c then (1 : Int) else 0)).bind fun r => if r = 0 then A' else B') Q := by
  by_cases hc : c
  · rw [if_pos hc]; exact h1 hc
  · rw [if_neg hc]; exact h0 hc
theorem RR.flagl {c : Prop} [Decidable c] {A B : Option ρ} {Y : Option σ} {Q : ρ → σ → Prop} (h1 : c → RR B Y Q) (h0 : ¬ c → RR A Y Q) : RR ((some (if c then (1 : Int) else 0)).bind fun r => if r = 0 then A else B) Y Q := by
  by_cases hc : c
  · rw [if_pos hc]; exact h1 hc
  · rw [if_neg hc]; exact h0 hc
theorem RR.flagr {c : Prop} [Decidable c] {X : Option ρ} {A B : Option σ} {Q : ρ → σ → Prop} (h1 : c → RR X B Q) (h0 : ¬ c → RR X A Q) : RR X ((some (if c then (1 : Int) else 0)).bind fun r => if r = 0 then A else B) Q := by
  by_cases hc : c
  · rw [if_pos hc]; exact h1 hc
  · rw [if_neg hc]; exact h0 hc
end RRs
/-- sums -/
def sm (f : Int → Int) : Nat → Int
  | 0 => 0
  | n + 1 => sm f n + f (n : Int)
def sI (f : Int → Int) (i : Int) : Int := sm f i.toNat
section Sums
variable {f g : Int → Int}
theorem sI_0 : sI f 0 = 0 := rfl
theorem sI_s {i : Int} (h : 0 ≤ i) : sI f (i + 1) = sI f i + f i := by
  unfold sI
  rw [show (i + 1).toNat = i.toNat + 1 by omega]
  show sm f i.toNat + f ((i.toNat : Nat) : Int) = _
  rw [show ((i.toNat : Nat) : Int) = i by omega]
theorem sI_neg {i : Int} (h : i ≤ 0) : sI f i = 0 := by
  unfold sI
  rw [show i.toNat = 0 by omega]; rfl
theorem sm_bd {lo hi : Int} {n : Nat} : (∀ j : Int, 0 ≤ j → j < n → lo ≤ f j ∧ f j ≤ hi) → lo * (n : Int) ≤ sm f n ∧ sm f n ≤ hi * (n : Int) := by
  induction n with
  | zero => intro _; simp [sm]
  | succ m ih =>
    intro h
    have a := ih (fun j p q => h j p (by omega))
    have b := h (m : Int) (by omega) (by omega)
    show lo * ((m + 1 : Nat) : Int) ≤ sm f m + f (m : Int) ∧ sm f m + f (m : Int) ≤ hi * ((m + 1 : Nat) : Int)
    have e : ((m + 1 : Nat) : Int) = (m : Int) + 1 := by omega
    rw [e, Int.mul_add, Int.mul_add, Int.mul_one, Int.mul_one]
    omega
theorem sI_bd {lo hi i : Int} (h : ∀ j : Int, 0 ≤ j → j < i → lo ≤ f j ∧ f j ≤ hi) (h0 : 0 ≤ i) : lo * i ≤ sI f i ∧ sI f i ≤ hi * i := by
  have := sm_bd (f := f) (lo := lo) (hi := hi) (n := i.toNat) (fun j p q => h j p (by omega))
  rw [show ((i.toNat : Nat) : Int) = i by omega] at this
  exact this
theorem sm_cong {n : Nat} : (∀ j : Int, 0 ≤ j → j < n → f j = g j) → sm f n = sm g n := by
  induction n with
  | zero => intro _; rfl
  | succ m ih =>
    intro h
    show sm f m + f (m : Int) = sm g m + g (m : Int)
    rw [ih (fun j p q => h j p (by omega)), h (m : Int) (by omega) (by omega)]
theorem sI_cong {i : Int} (h : ∀ j : Int, 0 ≤ j → j < i → f j = g j) : sI f i = sI g i := sm_cong (fun j p q => h j p (by omega))
theorem mul_bd {x y a b : Int} (x0 : 0 ≤ x) (xa : x ≤ a) (y0 : 0 ≤ y) (yb : y ≤ b) : 0 ≤ x * y ∧ x * y ≤ a * b := ⟨Int.mul_nonneg x0 y0, Int.mul_le_mul xa yb y0 (Int.le_trans x0 xa)⟩
end Sums
theorem RR.handR {ρ σ : Type} {M N0 : Mem} {X : Option ρ} {g : Int × Mem → Option σ} {Q : ρ → σ → Prop} (h : INV2 M) (k0 : Keep M N0) (k : Int) (hno : ¬(0 ≤ k ∧ k < M.1 3 0) → RR X (g (0, N0)) Q) (hyes : (0 ≤ k ∧ k < M.1 3 0) → ∀ N, RD N k (fun y => M.1 91 (92 * k + y)) → Keep N0 N → (∀ y, (y < 24 ∨ 27 ≤ y) → N.1 85 y = N0.1 85 y) → RR X (g (1, N)) Q) : RR X ((fX11_hand N0 85 k).bind g) Q := by
  refine RR.br (PC.of (hand_V (h.1.1.keep k0) k)) (fun r q => ?_)
  have e90 : N0.1 90 0 = M.1 3 0 := by rw [keep_lo k0 _ (Or.inr (by decide))]; exact cnt90 h (by decide) (by decide)
  rw [e90] at q
  rcases q with ⟨c, q1, q2, q3, q4⟩ | ⟨c, q⟩
  · obtain ⟨r1, r2⟩ := r
    simp only at q1 q2 q3 q4
    subst q1
    have e : (fun y => N0.1 91 (92 * k + y)) = (fun y => M.1 91 (92 * k + y)) := funext fun y => keep_lo k0 _ (Or.inr (by decide))
    rw [e] at q3
    exact hyes c r2 q3 q2 q4
  · rw [q]; exact hno c
theorem RR.town {ρ σ : Type} {M : Mem} {f : Int → Option ρ} {g : Int × Mem → Option σ} {Q : ρ → σ → Prop} (h : INV2 M) (k : Int) (hno : RR (f (-1)) (g (0, mst M 85 0 0)) Q) (hyes : ∀ a N D, a ≠ -1 → TD M a D → RD N k D → DBd D → Keep M N → RR (f a) (g (1, N)) Q) : RR ((fX6_townAt M 1 k).bind f) ((fX11_hand (mst M 85 0 0) 85 k).bind g) Q := by
  rw [townAt_V h.1.1 k]
  refine RR.handR h m85 k (fun c => ?_) (fun c N d q _ => ?_)
  · rw [if_neg c]; exact hno
  · rw [if_pos c]
    have t := townV_D h c.1 c.2
    exact hyes _ N _ (by omega) t d t.bd (m85.trans q)
