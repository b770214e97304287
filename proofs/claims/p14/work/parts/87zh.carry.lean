/-! carry -/
/-- the least of k from a on -/
def mnf (V : Int → Int) (a : Int) : Nat → Int
  | 0 => 1000000
  | k + 1 => imin (mnf V a k) (V (a + (k : Int)))
def MN (V : Int → Int) (a b m : Int) : Prop := m ≤ 1000000 ∧ (∀ x, a ≤ x → x ≤ b → m ≤ V x) ∧ (m = 1000000 ∨ ∃ x, (a ≤ x ∧ x ≤ b) ∧ m = V x)
/-- behind one more house -/
def nxV (V : Int → Int) (l s f : Int) : Int := if -54 ≤ f ∧ f ≤ 54 then imin 1000000 (mnf V (f + l - s) (s + 1).toNat + ab f) else 1000000
def cV (D : Int → Int) (g : Int) : Nat → Int → Int
  | 0 => fun f => if f = 0 then 0 else 1000000
  | h + 1 => nxV (cV D g h) (lkS D (h : Int) g) (spS D (h : Int) g)
section Carry
variable {M N A B : Mem} {D : Int → Int} {V W R : Int → Int}
theorem mnf_MN {a : Int} : ∀ k : Nat, MN V a (a + (k : Int) - 1) (mnf V a k)
  | 0 => ⟨Int.le_refl _, fun x p q => by omega, Or.inl rfl⟩
  | k + 1 => by
    obtain ⟨h1, h2, h3⟩ := mnf_MN (a := a) k
    show MN V a _ (imin (mnf V a k) (V (a + (k : Int))))
    have key : ∀ m, m = imin (mnf V a k) (V (a + (k : Int))) → MN V a (a + ((k + 1 : Nat) : Int) - 1) m := by
      intro m hm
      unfold imin at hm
      refine ⟨by split at hm <;> omega, fun x p q => ?_, ?_⟩
      · by_cases e : x = a + (k : Int)
        · rw [e]; split at hm <;> omega
        · have := h2 x p (by omega)
          split at hm <;> omega
      · split at hm
        · exact Or.inr ⟨_, ⟨by omega, by omega⟩, hm⟩
        · rcases h3 with h3 | ⟨x, ⟨p, q⟩, e⟩
          · exact Or.inl (by omega)
          · exact Or.inr ⟨x, ⟨p, by omega⟩, by omega⟩
    exact key _ rfl
theorem MN.uniq {a b m m' : Int} (h : MN V a b m) (g : MN W a b m') (e : ∀ x, a ≤ x → x ≤ b → V x = W x) : m = m' := by
  obtain ⟨h1, h2, h3⟩ := h
  obtain ⟨g1, g2, g3⟩ := g
  have x1 : m ≤ m' := by
    rcases g3 with g3 | ⟨x, ⟨p, q⟩, g3⟩
    · omega
    · have := h2 x p q; rw [e x p q] at this; omega
  have x2 : m' ≤ m := by
    rcases h3 with h3 | ⟨x, ⟨p, q⟩, h3⟩
    · omega
    · have := g2 x p q; rw [← e x p q] at this; omega
  omega
theorem mn_nx {l s f : Int} (s0 : 0 ≤ s) : MN V (f + l - s) (f + l) (mnf V (f + l - s) (s + 1).toNat) := by
  have := mnf_MN (V := V) (a := f + l - s) (s + 1).toNat
  rw [show f + l - s + (((s + 1).toNat : Nat) : Int) - 1 = f + l by omega] at this
  exact this
theorem ab_c (x : Int) : (0 ≤ x ∧ ab x = x) ∨ (x < 0 ∧ ab x = -x) := by unfold ab; split <;> omega
theorem nxV_in {l s f : Int} (h0 : -54 ≤ f) (h1 : f ≤ 54) : nxV V l s f = imin 1000000 (mnf V (f + l - s) (s + 1).toNat + ab f) := by unfold nxV; exact if_pos ⟨h0, h1⟩
theorem nxV_out {l s f : Int} (h : f < -54 ∨ 54 < f) : nxV V l s f = 1000000 := by unfold nxV; exact if_neg (by omega)
/-- it costs what it costs -/
theorem cV_bd {g : Int} : ∀ (h : Nat) (f : Int), (0 ≤ cV D g h f ∧ cV D g h f ≤ 1000000)
  | 0, f => by
    show 0 ≤ (if f = 0 then (0 : Int) else 1000000) ∧ (if f = 0 then (0 : Int) else 1000000) ≤ 1000000
    split <;> decide
  | h + 1, f => by
    show 0 ≤ nxV _ _ _ f ∧ nxV _ _ _ f ≤ 1000000
    by_cases c : -54 ≤ f ∧ f ≤ 54
    · rw [nxV_in c.1 c.2]
      have e := mnf_MN (V := cV D g h) (a := f + lkS D (h : Int) g - spS D (h : Int) g) (spS D (h : Int) g + 1).toNat
      obtain ⟨_, _, e3⟩ := e
      have a := ab_c f
      have p : 0 ≤ mnf (cV D g h) (f + lkS D (h : Int) g - spS D (h : Int) g) (spS D (h : Int) g + 1).toNat := by
        rcases e3 with e3 | ⟨x, _, e3⟩
        · rw [e3]; decide
        · rw [e3]; exact (cV_bd h x).1
      unfold imin
      split <;> omega
    · rw [nxV_out (by omega)]; decide
theorem cV_out {g : Int} : ∀ (h : Nat) (f : Int), (f < -54 ∨ 54 < f) → cV D g h f = 1000000
  | 0, f, c => by show (if f = 0 then (0 : Int) else 1000000) = _; rw [if_neg (by omega)]
  | _ + 1, _, c => nxV_out c
def lkB (D : Int → Int) (g : Int) (h : Nat) : Int := sm (fun j => lkS D j g) h
def spB (D : Int → Int) (g : Int) (h : Nat) : Int := sm (fun j => spS D j g) h
theorem lkB_s {g : Int} (h : Nat) : lkB D g (h + 1) = lkB D g h + lkS D (h : Int) g := rfl
theorem spB_s {g : Int} (h : Nat) : spB D g (h + 1) = spB D g h + spS D (h : Int) g := rfl
theorem lkB_bd (bd : DBd D) {g : Int} (g0 : 0 ≤ g) (g1 : g < 5) : ∀ h : Nat, h ≤ 6 → (0 ≤ lkB D g h ∧ lkB D g h ≤ 9 * (h : Int)) ∧ 0 ≤ spB D g h ∧ spB D g h ≤ 9 * (h : Int)
  | 0, _ => by unfold lkB spB sm; decide
  | h + 1, c => by
    have := lkB_bd bd g0 g1 h (by omega)
    have p := sp_bd bd (show (0 : Int) ≤ (h : Int) by omega) (by omega) g0 g1
    rw [lkB_s, spB_s]
    omega
/-- what can't be reached -/
theorem cV_no (bd : DBd D) {g : Int} (g0 : 0 ≤ g) (g1 : g < 5) : ∀ (h : Nat) (f : Int), h ≤ 6 → (f < -lkB D g h ∨ spB D g h - lkB D g h < f) → cV D g h f = 1000000
  | 0, f, _, c => by
    have e1 : lkB D g 0 = 0 := rfl
    have e2 : spB D g 0 = 0 := rfl
    show (if f = 0 then (0 : Int) else 1000000) = _
    rw [if_neg (by omega)]
  | h + 1, f, h6, c => by
    rw [lkB_s, spB_s] at c
    have p := sp_bd bd (show (0 : Int) ≤ (h : Int) by omega) (by omega) g0 g1
    show nxV _ _ _ f = _
    by_cases z : -54 ≤ f ∧ f ≤ 54
    · rw [nxV_in z.1 z.2]
      obtain ⟨e1, _, e3⟩ := mn_nx (V := cV D g h) (l := lkS D (h : Int) g) (f := f) p.1.1
      have a := ab_c f
      have q : mnf (cV D g h) (f + lkS D (h : Int) g - spS D (h : Int) g) (spS D (h : Int) g + 1).toNat = 1000000 := by
        rcases e3 with e3 | ⟨x, ⟨x0, x1⟩, e3⟩
        · exact e3
        · rw [e3]; exact cV_no bd g0 g1 h x (by omega) (by omega)
      rw [q]
      unfold imin
      split <;> omega
    · exact nxV_out (by omega)
/-- what can -/
theorem cV_yes (bd : DBd D) {g : Int} (g0 : 0 ≤ g) (g1 : g < 5) : ∀ (h : Nat) (f : Int), h ≤ 6 → -lkB D g h ≤ f → f ≤ spB D g h - lkB D g h → cV D g h f ≤ 54 * (h : Int)
  | 0, f, _, c1, c2 => by
    have e1 : lkB D g 0 = 0 := rfl
    have e2 : spB D g 0 = 0 := rfl
    show (if f = 0 then (0 : Int) else 1000000) ≤ _
    rw [if_pos (by omega)]; decide
  | h + 1, f, h6, c1, c2 => by
    have lb := lkB_bd bd g0 g1 (h + 1) h6
    have lb' := lkB_bd bd g0 g1 h (by omega)
    rw [lkB_s] at c1
    rw [lkB_s, spB_s] at c2 lb
    have p := sp_bd bd (show (0 : Int) ≤ (h : Int) by omega) (by omega) g0 g1
    show nxV _ _ _ f ≤ _
    rw [nxV_in (by omega) (by omega)]
    obtain ⟨_, e2, _⟩ := mn_nx (V := cV D g h) (l := lkS D (h : Int) g) (f := f) p.1.1
    have a := ab_c f
    have key : ∀ x, f + lkS D (h : Int) g - spS D (h : Int) g ≤ x → x ≤ f + lkS D (h : Int) g → -lkB D g h ≤ x → x ≤ spB D g h - lkB D g h → mnf (cV D g h) (f + lkS D (h : Int) g - spS D (h : Int) g) (spS D (h : Int) g + 1).toNat ≤ 54 * (h : Int) := fun x x0 x1 x2 x3 => Int.le_trans (e2 x x0 x1) (cV_yes bd g0 g1 h x (by omega) x2 x3)
    have q : mnf (cV D g h) (f + lkS D (h : Int) g - spS D (h : Int) g) (spS D (h : Int) g + 1).toNat ≤ 54 * (h : Int) := by
      by_cases z : -lkB D g h ≤ f + lkS D (h : Int) g - spS D (h : Int) g
      · exact key (f + lkS D (h : Int) g - spS D (h : Int) g) (by omega) (by omega) z (by omega)
      · exact key (-lkB D g h) (by omega) (by omega) (by omega) (by omega)
    unfold imin
    split <;> omega
theorem cV_0 (bd : DBd D) {g : Int} (g0 : 0 ≤ g) (g1 : g < 5) : ∀ h : Nat, h ≤ 6 → lkB D g h = 0 → cV D g h 0 = 0
  | 0, _, _ => rfl
  | h + 1, h6, z => by
    have lb := lkB_bd bd g0 g1 h (by omega)
    have p := sp_bd bd (show (0 : Int) ≤ (h : Int) by omega) (by omega) g0 g1
    rw [lkB_s] at z
    have ih := cV_0 bd g0 g1 h (by omega) (by omega)
    have e0 := (cV_bd (D := D) (g := g) (h + 1) 0).1
    show nxV _ _ _ 0 = 0
    have e0' : 0 ≤ nxV (cV D g h) (lkS D (h : Int) g) (spS D (h : Int) g) 0 := e0
    rw [nxV_in (by decide) (by decide)] at e0' ⊢
    obtain ⟨_, e2, _⟩ := mn_nx (V := cV D g h) (l := lkS D (h : Int) g) (f := 0) p.1.1
    have q := e2 0 (by omega) (by omega)
    rw [ih] at q
    have a := ab_c 0
    revert e0'
    unfold imin
    split <;> omega
/-! the reference -/
theorem rAt {k : Int} (d : RD N k D) {x i v : Int} (h : x = 109 ∨ x = 110) : RD (mst N x i v) k D := d.stA (by omega)
def prc (k n l s x k' : Int) : Prop := 0 ≤ k' ∧ k' ≤ 108 ∧ (k' < k ∨ (k' = k ∧ x + l - k < n)) ∧ x + l - s ≤ k' ∧ k' ≤ x + l
def THn (R W : Int → Int) (l s k n : Int) : Prop := ∀ x, 0 ≤ x → x ≤ 108 → W x ≤ 1000000 ∧ (∀ k', prc k n l s x k' → R k' < 1000000 → W x ≤ R k' + ab (x - 54)) ∧ (W x = 1000000 ∨ ∃ k', prc k n l s x k' ∧ R k' < 1000000 ∧ W x = R k' + ab (x - 54))
theorem THn.row {l s k n : Int} {R' W' : Int → Int} (h : THn R W l s k n) (eR : ∀ x, 0 ≤ x → x ≤ 108 → R' x = R x) (eW : ∀ x, 0 ≤ x → x ≤ 108 → W' x = W x) : THn R' W' l s k n := by
  intro x x0 x1
  obtain ⟨h1, h2, h3⟩ := h x x0 x1
  rw [eW x x0 x1]
  refine ⟨h1, fun k' p q => ?_, ?_⟩
  · rw [eR k' p.1 p.2.1] at q ⊢; exact h2 k' p q
  · rcases h3 with h3 | ⟨k', p, q, e⟩
    · exact Or.inl h3
    · exact Or.inr ⟨k', p, by rw [eR k' p.1 p.2.1]; exact q, by rw [eR k' p.1 p.2.1]; exact e⟩
theorem THn.sub {l s k n k2 n2 : Int} (h : THn R W l s k n) (e : ∀ x k', 0 ≤ x → x ≤ 108 → R k' < 1000000 → (prc k2 n2 l s x k' ↔ prc k n l s x k')) : THn R W l s k2 n2 := by
  intro x x0 x1
  obtain ⟨h1, h2, h3⟩ := h x x0 x1
  refine ⟨h1, fun k' p q => h2 k' ((e x k' x0 x1 q).mp p) q, ?_⟩
  rcases h3 with h3 | ⟨k', p, q, e3⟩
  · exact Or.inl h3
  · exact Or.inr ⟨k', (e x k' x0 x1 q).mpr p, q, e3⟩
theorem THn.one {l s k n : Int} (h : THn R W l s k n) (k0 : 0 ≤ k) (k1 : k ≤ 108) (n0 : 0 ≤ n) (n1 : n ≤ s) (hR : R k < 1000000) (W' : Int → Int) (x0 : Int) (ex : x0 = k + n - l) (e1 : ∀ x, 0 ≤ x → x ≤ 108 → x ≠ x0 → W' x = W x) (e2 : W' x0 = imin (W x0) (R k + ab (x0 - 54))) : THn R W' l s k (n + 1) := by
  intro x xa xb
  obtain ⟨h1, h2, h3⟩ := h x xa xb
  by_cases c : x = x0
  · rw [c] at h1 h2 h3 ⊢
    have pk : prc k (n + 1) l s x0 k := by unfold prc; omega
    have eq : ∀ k', prc k (n + 1) l s x0 k' → k' ≠ k → prc k n l s x0 k' := fun k' p q => by unfold prc at p ⊢; omega
    have eq' : ∀ k', prc k n l s x0 k' → prc k (n + 1) l s x0 k' := fun k' p => by unfold prc at p ⊢; omega
    unfold imin at e2
    refine ⟨by split at e2 <;> omega, fun k' p q => ?_, ?_⟩
    · by_cases z : k' = k
      · rw [z]; split at e2 <;> omega
      · have := h2 k' (eq k' p z) q
        split at e2 <;> omega
    · split at e2
      · exact Or.inr ⟨k, pk, hR, e2⟩
      · rcases h3 with h3 | ⟨k', p, q, e3⟩
        · exact Or.inl (by omega)
        · exact Or.inr ⟨k', eq' k' p, q, by omega⟩
  · rw [e1 x xa xb c]
    have eq : ∀ k', prc k (n + 1) l s x k' ↔ prc k n l s x k' := fun k' => by unfold prc; omega
    refine ⟨h1, fun k' p q => h2 k' ((eq k').mp p) q, ?_⟩
    rcases h3 with h3 | ⟨k', p, q, e3⟩
    · exact Or.inl h3
    · exact Or.inr ⟨k', (eq k').mpr p, q, e3⟩
theorem THn.fin {l s : Int} (h : THn R W l s 109 0) (s0 : 0 ≤ s) (eV : ∀ f, -54 ≤ f → f ≤ 54 → R (54 + f) = V f) (oV : ∀ f, (f < -54 ∨ 54 < f) → V f = 1000000) {f : Int} (f0 : -54 ≤ f) (f1 : f ≤ 54) : W (54 + f) = nxV V l s f := by
  rw [nxV_in f0 f1]
  obtain ⟨m1, m2, m3⟩ := mn_nx (V := V) (l := l) (f := f) s0
  generalize mnf V (f + l - s) (s + 1).toNat = m at *
  obtain ⟨h1, h2, h3⟩ := h (54 + f) (by omega) (by omega)
  rw [show 54 + f - 54 = f by omega] at h2 h3
  have a := ab_c f
  have up : W (54 + f) ≤ m + ab f := by
    by_cases z : m < 1000000
    · rcases m3 with m3 | ⟨x, ⟨x0, x1⟩, m3⟩
      · omega
      · have xr : ¬(x < -54 ∨ 54 < x) := fun q => by rw [oV x q] at m3; omega
        have e := eV x (by omega) (by omega)
        have := h2 (54 + x) (by unfold prc; omega) (by omega)
        omega
    · omega
  have dn : W (54 + f) = 1000000 ∨ m + ab f ≤ W (54 + f) := by
    rcases h3 with h3 | ⟨k', p, q, e⟩
    · exact Or.inl h3
    · right
      unfold prc at p
      have e' := eV (k' - 54) (by omega) (by omega)
      rw [show 54 + (k' - 54) = k' by omega] at e'
      have := m2 (k' - 54) (by omega) (by omega)
      omega
  unfold imin
  split <;> omega
theorem RD.carryOn {k h g : Int} (d : RD N k D) (bd : DBd D) (h0 : 0 ≤ h) (h1 : h < 6) (g0 : 0 ≤ g) (g1 : g < 5) (bV : ∀ f, 0 ≤ V f ∧ V f ≤ 1000000) (oV : ∀ f, (f < -54 ∨ 54 < f) → V f = 1000000) (eV : ∀ f, -54 ≤ f → f ≤ 54 → N.1 109 (54 + f) = V f) : PC (fX11_carryOn N 85 h g) (fun r => RD r k D ∧ ∀ f, -54 ≤ f → f ≤ 54 → r.1 109 (54 + f) = nxV V (lkS D h g) (spS D h g) f) := by
  have sp := sp_bd bd h0 h1 g0 g1
  have bR : ∀ x, 0 ≤ x → x ≤ 108 → 0 ≤ N.1 109 x ∧ N.1 109 x ≤ 1000000 := fun x p q => by
    have := eV (x - 54) (by omega) (by omega)
    rw [show 54 + (x - 54) = x by omega] at this
    rw [this]; exact bV _
  unfold fX11_carryOn
  refine PC.iter (fun s => (0 ≤ s.1 ∧ s.1 ≤ 109) ∧ RD s.2 k D ∧ (∀ y, s.2.1 109 y = N.1 109 y) ∧ ∀ y, 0 ≤ y → y < s.1 → s.2.1 110 y = 1000000) ?_ _ _ ⟨⟨by (try dsimp only); omega, by (try dsimp only); omega⟩, d, fun _ => rfl, fun y p q => by (try dsimp only at q); omega⟩
  rintro rec ⟨i, A⟩ ⟨⟨i0, i1⟩, dA, rA, tA⟩ hrec
  simp only at i0 i1 dA rA tA ⊢
  rw [wp85_47 dA.1]
  refine PC.ite (fun c => ?_) (fun c => PC.guard (fun _ => PC.guard (fun _ => PC.sM (hrec _ ⟨?_, rAt dA (Or.inr rfl), fun y => by rw [← rA y]; exact mst_ne _ _ _ _ _ _ (by decide), fun y p q => ?_⟩))))
  rotate_left
  · (try dsimp only)
    rw [w32_of (by omega) (by omega)]; omega
  · (try dsimp only at q)
    rw [w32_of (by omega) (by omega)] at q
    show (mst A 110 i 1000000).1 110 y = _
    by_cases e : y = i
    · rw [e, mst_at]
    · rw [mst_nf _ _ _ _ _ _ e]; exact tA y p (by omega)
  have ei : i = 109 := by omega
  subst ei
  have th0 : THn (A.1 109) (A.1 110) (lkS D h g) (spS D h g) 0 0 := by
    intro x x0 x1
    rw [tA x x0 (by omega)]
    exact ⟨Int.le_refl _, fun k' p _ => by unfold prc at p; omega, Or.inl rfl⟩
  clear hrec rec tA
  refine PC.iter (fun s => (0 ≤ s.1 ∧ s.1 ≤ 109) ∧ RD s.2 k D ∧ (∀ y, s.2.1 109 y = N.1 109 y) ∧ THn (s.2.1 109) (s.2.1 110) (lkS D h g) (spS D h g) s.1 0) ?_ _ _ ⟨⟨by (try dsimp only); omega, by (try dsimp only); omega⟩, dA, rA, th0⟩
  clear th0 dA rA A c
  rintro rec ⟨j, A⟩ ⟨⟨j0, j1⟩, dA, rA, tA⟩ hrec
  simp only at j0 j1 dA rA tA ⊢
  refine PC.ite (fun c => ?_) (fun c => ?_)
  · have ej : j = 109 := by omega
    subst ej
    have fin : ∀ f, -54 ≤ f → f ≤ 54 → A.1 110 (54 + f) = nxV V (lkS D h g) (spS D h g) f := fun f f0 f1 => tA.fin sp.1.1 (fun f p q => by rw [rA]; exact eV f p q) oV f0 f1
    refine PC.iter (fun s => (0 ≤ s.1 ∧ s.1 ≤ 109) ∧ RD s.2 k D ∧ (∀ y, s.2.1 110 y = A.1 110 y) ∧ ∀ y, 0 ≤ y → y < s.1 → s.2.1 109 y = A.1 110 y) ?_ _ _ ⟨⟨by (try dsimp only); omega, by (try dsimp only); omega⟩, dA, fun _ => rfl, fun y p q => by (try dsimp only at q); omega⟩
    rintro rec2 ⟨i, B⟩ ⟨⟨i0, i1⟩, dB, rB, tB⟩ hrec2
    simp only at i0 i1 dB rB tB ⊢
    rw [wp85_46 dB.1, wp85_47 dB.1]
    refine PC.ite (fun c2 => PC.ok ⟨dB, fun f f0 f1 => by rw [tB _ (by omega) (by omega)]; exact fin f f0 f1⟩) (fun c2 => PC.guard (fun _ => PC.guard (fun _ => PC.guard (fun _ => PC.sM (hrec2 _ ⟨?_, rAt dB (Or.inl rfl), fun y => by rw [← rB y]; exact mst_ne _ _ _ _ _ _ (by decide), fun y p q => ?_⟩)))))
    · (try dsimp only)
      rw [w32_of (by omega) (by omega)]; omega
    · (try dsimp only at q)
      rw [w32_of (by omega) (by omega)] at q
      show (mst B 109 i _).1 109 y = _
      by_cases e : y = i
      · rw [e, mst_at]; exact rB i
      · rw [mst_nf _ _ _ _ _ _ e]; exact tB y p (by omega)
  refine PC.iter (fun s => (0 ≤ s.1 ∧ s.1 ≤ spS D h g + 1) ∧ RD s.2 k D ∧ (∀ y, s.2.1 109 y = N.1 109 y) ∧ THn (s.2.1 109) (s.2.1 110) (lkS D h g) (spS D h g) j s.1) ?_ _ _ ⟨⟨by (try dsimp only); omega, by (try dsimp only); omega⟩, dA, rA, tA⟩
  clear dA rA tA A
  rintro rec2 ⟨n, A⟩ ⟨⟨n0, n1⟩, dA, rA, tA⟩ hrec2
  simp only at n0 n1 dA rA tA ⊢
  have wj : w32 (j + 1) = j + 1 := w32_of (by omega) (by omega)
  have wn : w32 (n + 1) = n + 1 := w32_of (by omega) (by omega)
  have rj := bR j j0 (by omega)
  rw [← rA j] at rj
  rw [dA.spare bd h0 h1 g0 g1, dA.lack bd h0 h1 g0 g1, wp85_46 dA.1, wp85_47 dA.1, wj, wn, w32_of (x := j + n) (by omega) (by omega)]
  refine PC.guard (fun _ => PC.bindE rfl (PC.ite (fun c4 => hrec _ ⟨⟨by (try dsimp only); omega, by (try dsimp only); omega⟩, dA, rA, ?_⟩) (fun c4 => PC.guard (fun _ => PC.ite (fun c5 => PC.bindE rfl ?_) (fun c5 => hrec _ ⟨⟨by (try dsimp only); omega, by (try dsimp only); omega⟩, dA, rA, ?_⟩)))))
  · exact tA.sub (fun x k' x0 x1 _ => by (try dsimp only); unfold prc; omega)
  · rw [w32_of (x := j + n - lkS D h g) (by omega) (by omega), in_v2]
    by_cases c6 : 0 ≤ j + n - lkS D h g ∧ j + n - lkS D h g ≤ 108
    rotate_left
    · rw [if_neg c6]
      refine PC.bindE rfl (PC.pos rfl (hrec2 _ ⟨⟨by (try dsimp only); omega, by (try dsimp only); omega⟩, dA, rA, ?_⟩))
      exact tA.sub (fun x k' x0 x1 _ => by (try dsimp only); unfold prc; omega)
    rw [if_pos c6]
    have a := ab_c (j + n - lkS D h g - 54)
    have wx := tA (j + n - lkS D h g) c6.1 c6.2
    rw [w32_of (x := j + n - lkS D h g - 54) (by omega) (by omega), sizeV (by omega) (by omega)]
    refine PC.bindE rfl (PC.neg n10 (PC.guard (fun _ => PC.guard (fun _ => PC.bindE rfl ?_))))
    rw [w32_of (x := A.1 109 j + ab (j + n - lkS D h g - 54)) (by omega) (by omega), lesserV]
    refine PC.bindE rfl (PC.guard (fun _ => PC.sM (hrec2 _ ⟨⟨by (try dsimp only); omega, by (try dsimp only); omega⟩, rAt dA (Or.inr rfl), fun y => by rw [← rA y]; exact mst_ne _ _ _ _ _ _ (by decide), ?_⟩)))
    have e109 : (mst A 110 (j + n - lkS D h g) (imin (A.1 109 j + ab (j + n - lkS D h g - 54)) (A.1 110 (j + n - lkS D h g)))).1 109 = A.1 109 := funext fun y => mst_ne _ _ _ _ _ _ (by decide)
    show THn ((mst A 110 (j + n - lkS D h g) _).1 109) _ _ _ j (n + 1)
    rw [e109]
    refine tA.one j0 (by omega) n0 (by omega) c5 _ (j + n - lkS D h g) rfl (fun x _ _ z => mst_nf _ _ _ _ _ _ z) ?_
    rw [mst_at, imin_c]
  · exact tA.sub (fun x k' x0 x1 q => by
      (try dsimp only)
      have : k' ≠ j := fun e => c5 (by rw [← e]; exact q)
      unfold prc; omega)
theorem RD.carryGood {k g : Int} (d : RD N k D) (bd : DBd D) (g0 : 0 ≤ g) (g1 : g < 5) : PC (fX11_carryGood N 85 g) (fun u => RD u.2 k D ∧ u.1 = cV D g (D 0).toNat 0) := by
  have b0 := bd.1
  unfold fX11_carryGood
  refine PC.iter (fun s => (0 ≤ s.1 ∧ s.1 ≤ 109) ∧ RD s.2 k D ∧ ∀ y, 0 ≤ y → y < s.1 → s.2.1 109 y = if y = 54 then 0 else 1000000) ?_ _ _ ⟨⟨by (try dsimp only); omega, by (try dsimp only); omega⟩, d, fun y p q => by (try dsimp only at q); omega⟩
  rintro rec ⟨i, A⟩ ⟨⟨i0, i1⟩, dA, rA⟩ hrec
  simp only at i0 i1 dA rA ⊢
  refine PC.ite (fun c => ?_) (fun c => ?_)
  rotate_left
  · rw [wp85_46 dA.1, w32_of (x := i + 1) (by omega) (by omega)]
    have go : ∀ v : Int, v = (if i = 54 then (0 : Int) else 1000000) → PC (rec (i + 1, mst A 109 i v)) (fun u => RD u.2 k D ∧ u.1 = cV D g (D 0).toNat 0) := fun v hv => hrec _ ⟨⟨by (try dsimp only); omega, by (try dsimp only); omega⟩, rAt dA (Or.inl rfl), fun y p q => by
      (try dsimp only at q)
      show (mst A 109 i v).1 109 y = _
      by_cases e : y = i
      · rw [e, mst_at]; exact hv
      · rw [mst_nf _ _ _ _ _ _ e]; exact rA y p (by omega)⟩
    exact PC.guard (fun _ => PC.jI (PC.ite (fun z => PC.guard (fun _ => PC.sM (go 0 (by rw [if_pos z])))) (fun z => PC.guard (fun _ => PC.sM (go 1000000 (by rw [if_neg z]))))))
  have ei : i = 109 := by omega
  subst ei
  refine PC.iter (fun s => (0 ≤ s.1 ∧ s.1 ≤ D 0) ∧ RD s.2 k D ∧ ∀ f, -54 ≤ f → f ≤ 54 → s.2.1 109 (54 + f) = cV D g s.1.toNat f) ?_ _ _ ⟨⟨by (try dsimp only); omega, by (try dsimp only); omega⟩, dA, fun f f0 f1 => ?_⟩
  rotate_left
  · show A.1 109 (54 + f) = if f = 0 then 0 else 1000000
    rw [rA _ (by omega) (by omega)]
    by_cases e : f = 0
    · rw [if_pos e, if_pos (by omega)]
    · rw [if_neg e, if_neg (by omega)]
  clear hrec rec dA rA A
  rintro rec ⟨h, A⟩ ⟨⟨h0, h1⟩, dA, rA⟩ hrec
  simp only at h0 h1 dA rA ⊢
  rw [dA.2.2.1.2.1, wp85_46 dA.1]
  refine PC.guard (fun _ => PC.ite (fun c1 => ?_) (fun c1 => PC.guard (fun _ => PC.ok ⟨dA, ?_⟩)))
  · refine PC.bind (dA.carryOn bd h0 (by omega) g0 g1 (V := cV D g h.toNat) (fun f => cV_bd _ f) (fun f q => cV_out _ f q) rA) (fun r q => hrec _ ?_)
    (try dsimp only)
    rw [w32_of (by omega) (by omega)]
    refine ⟨⟨by omega, by omega⟩, q.1, fun f f0 f1 => ?_⟩
    rw [q.2 f f0 f1, show (h + 1).toNat = h.toNat + 1 by omega]
    show _ = nxV _ (lkS D ((h.toNat : Nat) : Int) g) (spS D ((h.toNat : Nat) : Int) g) f
    rw [show ((h.toNat : Nat) : Int) = h by omega]
  · have := rA 0 (by decide) (by decide)
    rw [show D 0 = h by omega]; exact this
/-! the class -/
theorem TD.keepC {a : Int} (h : TD M a D) (k : KeepC M N) : TD N a D := by
  obtain ⟨hT, ha, h1, h2, h3, h4, h5⟩ := h
  have e : ∀ x y, x < 47 → N.1 x y = M.1 x y := fun x y z => k.2 x y (scr_lo y (by omega) (by omega) (by omega)) (by omega)
  have a47 : a + 8 < 47 := by rcases ha with e | e <;> omega
  refine ⟨hT.keepC k, ha, by rw [e a _ (by omega), e a _ (by omega)]; exact h1, fun y p q => ?_, fun y p q => ?_, fun y p q => ?_, fun y p q => ?_⟩
  · rw [e _ y (by omega), e _ y (by omega)]; exact h2 y p q
  · rw [e _ y (by omega), e _ y (by omega)]; exact h3 y p q
  · rw [e _ y (by omega), e _ y (by omega)]; exact h4 y p q
  · rw [e _ y (by omega), e _ y (by omega)]; exact h5 y p q
theorem leastOf_V {x y : Int} (hx : x ≤ 200) : PC (fX5_leastOf M 79 x y) (fun r => MN (fun f => if -54 ≤ f ∧ f ≤ 54 then M.1 (M.1 79 0) (54 + f) else 1000000) x y r) := by
  unfold fX5_leastOf
  have hm : -54 ≤ imax x (-54) ∧ x ≤ imax x (-54) ∧ imax x (-54) ≤ 200 ∧ (imax x (-54) = x ∨ imax x (-54) = -54) := by unfold imax; split <;> omega
  refine PC.iter (fun s => (imax x (-54) ≤ s.2 ∧ s.2 ≤ 200) ∧ s.1 ≤ 1000000 ∧ (∀ f, imax x (-54) ≤ f → f ≤ 54 → f < s.2 → s.1 ≤ M.1 (M.1 79 0) (54 + f)) ∧ (s.1 = 1000000 ∨ ∃ f, (imax x (-54) ≤ f ∧ f ≤ 54 ∧ f < s.2 ∧ f ≤ y) ∧ s.1 = M.1 (M.1 79 0) (54 + f))) ?_ _ _ ⟨⟨Int.le_refl _, hm.2.2.1⟩, Int.le_refl _, fun f p _ q => by (try dsimp only at q); omega, Or.inl rfl⟩
  rintro rec ⟨m, i⟩ ⟨⟨i0, i1⟩, m1, m2, m3⟩ hrec
  simp only at i0 i1 m1 m2 m3 ⊢
  have fin : (y < i ∨ 54 < i) → MN (fun f => if -54 ≤ f ∧ f ≤ 54 then M.1 (M.1 79 0) (54 + f) else 1000000) x y m := by
    intro hi
    refine ⟨m1, fun f p q => ?_, ?_⟩
    · clear m3
      by_cases c : -54 ≤ f ∧ f ≤ 54
      · simp only [if_pos c]; exact m2 f (by omega) c.2 (by omega)
      · simp only [if_neg c]; exact m1
    · rcases m3 with m3 | ⟨f, ⟨p, q, z, z'⟩, e⟩
      · exact Or.inl m3
      · refine Or.inr ⟨f, ⟨by omega, z'⟩, ?_⟩
        simp only [if_pos (show -54 ≤ f ∧ f ≤ 54 by omega)]; exact e
  refine PC.ite (fun c => PC.ok (fin (Or.inl c))) (fun c => PC.ite (fun c2 => PC.ok (fin (Or.inr c2))) (fun c2 => PC.guard (fun _ => PC.guard (fun _ => hrec _ ?_))))
  (try dsimp only)
  rw [w32_of (x := i + 1) (by omega) (by omega), w32_of (x := 54 + i) (by omega) (by omega)]
  generalize hv : M.1 (M.1 79 0) (54 + i) = v at *
  have key : ∀ w, w = imin m v → (imax x (-54) ≤ i + 1 ∧ i + 1 ≤ 200) ∧ w ≤ 1000000 ∧ (∀ f, imax x (-54) ≤ f → f ≤ 54 → f < i + 1 → w ≤ M.1 (M.1 79 0) (54 + f)) ∧ (w = 1000000 ∨ ∃ f, (imax x (-54) ≤ f ∧ f ≤ 54 ∧ f < i + 1 ∧ f ≤ y) ∧ w = M.1 (M.1 79 0) (54 + f)) := by
    intro w hw
    unfold imin at hw
    refine ⟨by clear m3; omega, by clear m3; split at hw <;> omega, fun f p q z => ?_, ?_⟩
    · clear m3
      by_cases e : f = i
      · rw [e, hv]; split at hw <;> omega
      · have := m2 f p q (by omega)
        split at hw <;> omega
    · split at hw
      · clear m3
        exact Or.inr ⟨i, ⟨i0, by omega, by omega, by omega⟩, by omega⟩
      · rcases m3 with m3 | ⟨f, ⟨p, q, z, z'⟩, e⟩
        · exact Or.inl (by omega)
        · exact Or.inr ⟨f, ⟨p, q, by omega, z'⟩, by omega⟩
  exact key _ rfl
theorem iabsV {x : Int} (h0 : -100 ≤ x) (h1 : x ≤ 100) : iabs x = ab x := by
  have a := ab_c x
  unfold iabs
  by_cases c : 0 ≤ x
  · rw [if_pos c]; omega
  · rw [if_neg c, w32_of (by omega) (by omega)]; omega
/-- the rows of the class behind h houses -/
def CR (D : Int → Int) (g T : Int) (h : Nat) (A : Mem) : Prop := (∀ f, -54 ≤ f → f ≤ 54 → f ≤ T - lkB D g h → A.1 (A.1 79 0) (54 + f) = cV D g h f) ∧ ∀ f, -54 ≤ f → f < -T → A.1 (A.1 79 0) (54 + f) = 1000000 ∧ A.1 (A.1 79 1) (54 + f) = 1000000
def NE3 (c d : Int) : Prop := c ≠ d ∧ c ≠ 79 ∧ d ≠ 79
def CKk (M : Mem) (c d : Int) : Prop := (M.2.1 c = 12 ∧ M.2.2.1 c = 109 ∧ (∀ y, scr c y = true) ∧ c ≠ 79 ∧ -1 ≤ c) ∧ (M.2.1 d = 12 ∧ M.2.2.1 d = 109 ∧ (∀ y, scr d y = true) ∧ d ≠ 79 ∧ -1 ≤ d)
theorem CD.kk {c d : Int} (h : CD c d) (hT : WT M) : CKk M c d := CD.k h hT
theorem CD.ne {c d : Int} (h : CD c d) : NE3 c d := by unfold NE3; rcases h with ⟨rfl, rfl⟩ | ⟨rfl, rfl⟩ <;> decide
theorem lkB_mono (bd : DBd D) {g : Int} (g0 : 0 ≤ g) (g1 : g < 5) {i : Nat} : ∀ n : Nat, i + n ≤ 6 → lkB D g i ≤ lkB D g (i + n)
  | 0, _ => Int.le_refl _
  | m + 1, q => by
    have ih := lkB_mono bd g0 g1 (i := i) m (by omega)
    have e : lkB D g (i + (m + 1)) = lkB D g (i + m) + lkS D ((i + m : Nat) : Int) g := rfl
    have := (sp_bd bd (show (0 : Int) ≤ ((i + m : Nat) : Int) by omega) (by omega) g0 g1).2.1
    omega
theorem cV_val {g : Int} {h : Nat} {u m : Int} {l s : Int} (el : l = lkS D (h : Int) g) (es : s = spS D (h : Int) g) (s0 : 0 ≤ s) (u0 : -54 ≤ u) (u1 : u ≤ 54) (hm : MN (fun f => if -54 ≤ f ∧ f ≤ 54 then R f else 1000000) (u + l - s) (u + l) m) (hR : ∀ f, -54 ≤ f → f ≤ 54 → f ≤ u + l → R f = cV D g h f) : imin 1000000 (w32 (m + ab u)) = cV D g (h + 1) u := by
  have a := ab_c u
  have em : m = mnf (cV D g h) (u + l - s) (s + 1).toNat := by
    refine hm.uniq (mn_nx (V := cV D g h) (l := l) (f := u) s0) (fun x x0 x1 => ?_)
    (try dsimp only)
    by_cases c : -54 ≤ x ∧ x ≤ 54
    · rw [if_pos c]; exact hR x c.1 c.2 x1
    · rw [if_neg c, cV_out _ _ (by omega)]
  have mb : -1000000 ≤ m ∧ m ≤ 1000000 := by
    obtain ⟨g1', _, g3⟩ := mn_nx (V := cV D g h) (l := l) (f := u) s0
    rw [← em] at g1' g3
    refine ⟨?_, g1'⟩
    rcases g3 with g3 | ⟨x, _, g3⟩
    · omega
    · have := (cV_bd (D := D) (g := g) h x).1; omega
  rw [w32_of (by omega) (by omega)]
  show _ = nxV (cV D g h) (lkS D (h : Int) g) (spS D (h : Int) g) u
  rw [nxV_in u0 u1, em, el, es]
set_option maxHeartbeats 1000000 in
theorem carryGood_V {a g : Int} (d : TD M a D) (hS : SC M) (g0 : 0 ≤ g) (g1 : g < 5) : PC (fX5_carryGood M 79 a g) (fun r => r.1 = cV D g (D 0).toNat 0) := by
  have bd := d.bd
  have b0 := bd.1
  have hT := d.1
  have ha := d.2.1
  have T6 := lkB_bd bd g0 g1 (D 0).toNat (by omega)
  have eT : lkA D g = lkB D g (D 0).toNat := rfl
  unfold fX5_carryGood
  refine PC.guard (fun _ => PC.bind (d.lackAll g0 g1) (fun r1 q1 => ?_))
  have hi : imin 54 r1 = lkA D g := by rw [q1, eT]; unfold imin; split <;> omega
  rw [hi]
  refine PC.ite (fun z => PC.ok ?_) (fun z => PC.guard (fun _ => ?_))
  · (try dsimp only)
    rw [cV_0 bd g0 g1 (D 0).toNat (by omega) (by omega)]
  rw [eT] at z ⊢
  generalize hTg : lkB D g (D 0).toNat = T at *
  clear hi q1 r1 eT
  have hk := CD.kk hS hT
  have hne := CD.ne hS
  refine PC.bind (PC.of (fillRow_T (n := 109) 1000000 hk.1.1 hk.1.2.1 (by decide) (by decide))) (fun r6 q6 => ?_)
  have hK6 : KeepC M r6 := KeepC.of q6.1 q6.2.1 hk.1.2.2.1
  have hT6 := hT.keepC hK6
  have a0 : r6.1 79 0 = M.1 79 0 := q6.2.1 79 0 (fun e => hne.2.1 e.symm)
  have a1 : r6.1 79 1 = M.1 79 1 := q6.2.1 79 1 (fun e => hne.2.1 e.symm)
  have hS6 : SC r6 := by unfold SC; rw [a0, a1]; exact hS
  have hk6 := CD.kk hS6 hT6
  have hne6 := CD.ne hS6
  refine PC.guard (fun _ => PC.bind (PC.of (fillRow_T (n := 109) 1000000 hk6.2.1 hk6.2.2.1 (by decide) (by decide))) (fun r9 q9 => ?_))
  have hK9 : KeepC M r9 := hK6.trans (KeepC.of q9.1 q9.2.1 hk6.2.2.2.1)
  have hT9 := hT.keepC hK9
  have b9 : r9.1 79 0 = r6.1 79 0 := q9.2.1 79 0 (fun e => hne6.2.2 e.symm)
  have b1 : r9.1 79 1 = r6.1 79 1 := q9.2.1 79 1 (fun e => hne6.2.2 e.symm)
  have hS9 : SC r9 := by unfold SC; rw [b9, b1]; exact hS6
  have hk9 := CD.kk hS9 hT9
  have hne9 := CD.ne hS9
  refine PC.guard (fun _ => PC.guard (fun _ => PC.sM ?_))
  have hK13 : KeepC M (mst r9 (r9.1 79 0) 54 0) := hK9.st (hk9.1.2.2.1 _)
  have z0 : (mst r9 (r9.1 79 0) 54 0).1 79 0 = r9.1 79 0 := mst_ne _ _ _ _ _ _ (fun e => hne9.2.1 e.symm)
  have z1 : (mst r9 (r9.1 79 0) 54 0).1 79 1 = r9.1 79 1 := mst_ne _ _ _ _ _ _ (fun e => hne9.2.1 e.symm)
  have hS13 : SC (mst r9 (r9.1 79 0) 54 0) := by unfold SC; rw [z0, z1]; exact hS9
  have c0 : ∀ f, -54 ≤ f → f ≤ 54 → r9.1 (r9.1 79 0) (54 + f) = 1000000 := fun f p q => by
    rw [b9, q9.2.1 _ _ hne6.1, a0, q6.2.2, if_pos ⟨by omega, by omega⟩]
  have c1 : ∀ f, -54 ≤ f → f ≤ 54 → r9.1 (r9.1 79 1) (54 + f) = 1000000 := fun f p q => by
    rw [b1, q9.2.2, if_pos ⟨by omega, by omega⟩]
  have cr0 : CR D g T 0 (mst r9 (r9.1 79 0) 54 0) := by
    refine ⟨fun f p q _ => ?_, fun f p q => ⟨?_, ?_⟩⟩
    · rw [z0]
      show _ = if f = 0 then (0 : Int) else 1000000
      by_cases e : f = 0
      · rw [if_pos e, e]; exact mst_at _ _ _ _
      · rw [if_neg e, mst_nf _ _ _ _ _ _ (by omega)]; exact c0 f p q
    · rw [z0, mst_nf _ _ _ _ _ _ (by omega)]; exact c0 f p (by omega)
    · rw [z1, mst_nf _ _ _ _ _ _ (by omega)]; exact c1 f p (by omega)
  generalize mst r9 (r9.1 79 0) 54 0 = M13 at *
  refine PC.iter (fun s => (0 ≤ s.1 ∧ s.1 ≤ D 0) ∧ (KeepC M s.2 ∧ SC s.2) ∧ CR D g T s.1.toNat s.2) ?_ _ _ ⟨⟨by (try dsimp only); omega, by (try dsimp only); omega⟩, ⟨hK13, hS13⟩, cr0⟩
  rintro rec ⟨h, A⟩ ⟨⟨h0, h1⟩, ⟨kA, sA⟩, cr⟩ hrec
  simp only at h0 h1 kA sA cr ⊢
  have dA := d.keepC kA
  rw [dA.2.2.1.1]
  refine PC.guard (fun _ => PC.ite (fun c1 => ?_) (fun c1 => PC.guard (fun _ => PC.guard (fun _ => PC.ok ?_))))
  rotate_left
  · have := cr.1 0 (by decide) (by decide) (by rw [show h.toNat = (D 0).toNat by omega, hTg]; omega)
    rw [show D 0 = h by omega]; exact this
  have lbh := lkB_bd bd g0 g1 h.toNat (by omega)
  have lbs : lkB D g (h.toNat + 1) = lkB D g h.toNat + lkS D h g := by rw [lkB_s, show ((h.toNat : Nat) : Int) = h by omega]
  have spb := sp_bd bd h0 (show h < 6 by omega) g0 g1
  have mono : lkB D g (h.toNat + 1) ≤ T := by
    have := lkB_mono bd g0 g1 (i := h.toNat + 1) ((D 0).toNat - (h.toNat + 1)) (by omega)
    rw [show h.toNat + 1 + ((D 0).toNat - (h.toNat + 1)) = (D 0).toNat by omega, hTg] at this
    exact this
  rw [w32_of (x := -T) (by omega) (by omega)]
  refine PC.iter (fun s => (-T ≤ s.1 ∧ s.1 ≤ T + 1) ∧ (KeepC M s.2 ∧ SC s.2) ∧ (s.2.1 79 0 = A.1 79 0 ∧ s.2.1 79 1 = A.1 79 1) ∧ (∀ y, s.2.1 (A.1 79 0) y = A.1 (A.1 79 0) y) ∧ (∀ f, -54 ≤ f → f < -T → s.2.1 (A.1 79 1) (54 + f) = 1000000) ∧ ∀ f, -T ≤ f → f < s.1 → f ≤ T - lkB D g (h.toNat + 1) → s.2.1 (A.1 79 1) (54 + f) = cV D g (h.toNat + 1) f) ?_ _ _ ⟨⟨by (try dsimp only); omega, by (try dsimp only); omega⟩, ⟨kA, sA⟩, ⟨rfl, rfl⟩, fun _ => rfl, fun f p q => (cr.2 f p q).2, fun f p q _ => by (try dsimp only at q); omega⟩
  rintro rec2 ⟨u, B⟩ ⟨⟨u0, u1⟩, ⟨kB, sB⟩, ⟨p0, p1⟩, cu, oB, nB⟩ hrec2
  simp only at u0 u1 kB sB p0 p1 cu oB nB ⊢
  have neA := CD.ne sA
  have dB := d.keepC kB
  have wh : w32 (h + 1) = h + 1 := w32_of (by omega) (by omega)
  have wu : w32 (u + 1) = u + 1 := w32_of (by omega) (by omega)
  refine PC.ite (fun c2 => PC.guard (fun _ => PC.guard (fun _ => PC.sM (PC.guard (fun _ => PC.sM (hrec _ ?_)))))) (fun c2 => ?_)
  · have x0 : (mst (mst B 79 0 (B.1 79 1)) 79 1 (B.1 79 0)).1 79 0 = A.1 79 1 := by rw [mst_nf _ _ _ _ _ _ (by decide), mst_at, p1]
    have x1 : (mst (mst B 79 0 (B.1 79 1)) 79 1 (B.1 79 0)).1 79 1 = A.1 79 0 := by rw [mst_at, p0]
    have xo : ∀ x y, x ≠ 79 → (mst (mst B 79 0 (B.1 79 1)) 79 1 (B.1 79 0)).1 x y = B.1 x y := fun x y e => by rw [mst_ne _ _ _ _ _ _ e, mst_ne _ _ _ _ _ _ e]
    (try dsimp only)
    rw [wh]
    refine ⟨⟨by omega, by omega⟩, ⟨kB.st79.st79, ?_⟩, ?_⟩
    · unfold SC; rw [x0, x1]; exact CD.sw sA
    · rw [show (h + 1).toNat = h.toNat + 1 by omega]
      unfold CR
      rw [x0, x1]
      refine ⟨fun f f0 f1 f2 => ?_, fun f f0 f1 => ⟨?_, ?_⟩⟩
      · rw [xo _ _ neA.2.2]
        by_cases e : f < -T
        · rw [oB f f0 e, cV_no bd g0 g1 (h.toNat + 1) f (by omega) (Or.inl (by omega))]
        · have lb1 := lkB_bd bd g0 g1 (h.toNat + 1) (by omega)
          exact nB f (by omega) (by omega) f2
      · rw [xo _ _ neA.2.2]; exact oB f f0 f1
      · rw [xo _ _ neA.2.1, cu]; exact (cr.2 f f0 f1).1
  rw [dB.lack h0 (by omega) g0 g1, dB.spare h0 (by omega) g0 g1, w32_of (x := 54 + u) (by omega) (by omega), wu, p1, iabsV (by omega) (by omega)]
  refine PC.guard (fun _ => PC.bindE rfl (PC.bindE rfl (PC.guard (fun _ => ?_))))
  rw [w32_of (x := u + lkS D h g) (by omega) (by omega), w32_of (x := u + lkS D h g - spS D h g) (by omega) (by omega)]
  refine PC.bind (leastOf_V (by omega)) (fun m hm => PC.guard (fun _ => PC.sM (hrec2 _ ?_)))
  have hkB := CD.kk sB dB.1
  have kB' : KeepC M (mst B (A.1 79 1) (54 + u) (imin 1000000 (w32 (m + ab u)))) := by rw [← p1]; exact kB.st (hkB.2.2.2.1 _)
  have y0 : ∀ y, (mst B (A.1 79 1) (54 + u) (imin 1000000 (w32 (m + ab u)))).1 79 y = B.1 79 y := fun y => mst_ne _ _ _ _ _ _ (fun e => neA.2.2 e.symm)
  (try dsimp only)
  refine ⟨⟨by omega, by omega⟩, ⟨kB', ?_⟩, ⟨(y0 0).trans p0, (y0 1).trans p1⟩, fun y => ?_, fun f f0 f1 => ?_, fun f f0 f1 f2 => ?_⟩
  · unfold SC; rw [y0, y0]; exact sB
  · rw [mst_ne _ _ _ _ _ _ neA.1]; exact cu y
  · rw [mst_nf _ _ _ _ _ _ (by omega)]; exact oB f f0 f1
  · by_cases e : f = u
    · rw [e, mst_at]
      have hn : ((h.toNat : Nat) : Int) = h := Int.toNat_of_nonneg h0
      refine cV_val (R := fun f => B.1 (B.1 79 0) (54 + f)) (by rw [hn]) (by rw [hn]) spb.1.1 (by omega) (by omega) hm (fun x x0 x1 x2 => ?_)
      (try dsimp only)
      rw [p0, cu]
      exact cr.1 x x0 x1 (by omega)
    · rw [mst_nf _ _ _ _ _ _ (by omega)]; exact nB f f0 (by omega) f2
def caS (D : Int → Int) : Int := if enB D = true then sI (fun g => D (74 + g) * cV D g (D 0).toNat 0) 5 else -1
theorem cv_ok (bd : DBd D) {g : Int} (g0 : 0 ≤ g) (g1 : g < 5) : (lkA D g ≤ spA D g → 0 ≤ cV D g (D 0).toNat 0 ∧ cV D g (D 0).toNat 0 ≤ 324) ∧ (cV D g (D 0).toNat 0 < 1000000 → lkA D g ≤ spA D g) := by
  have b0 := bd.1
  have lb := lkB_bd bd g0 g1 (D 0).toNat (by omega)
  have e1 : lkA D g = lkB D g (D 0).toNat := rfl
  have e2 : spA D g = spB D g (D 0).toNat := rfl
  refine ⟨fun h => ⟨(cV_bd _ _).1, ?_⟩, fun h => ?_⟩
  · have := cV_yes bd g0 g1 (D 0).toNat 0 (by omega) (by omega) (by omega)
    omega
  · by_cases c : spA D g < lkA D g
    · have := cV_no bd g0 g1 (D 0).toNat 0 (by omega) (Or.inr (by omega))
      omega
    · omega
theorem ca_bd (bd : DBd D) (hen : ∀ g, 0 ≤ g → g < 5 → lkA D g ≤ spA D g) {i : Int} (i0 : 0 ≤ i) (i5 : i < 5) : 0 ≤ D (74 + i) * cV D i (D 0).toNat 0 ∧ D (74 + i) * cV D i (D 0).toNat 0 ≤ 2916 := by
  have w := bd.2.2.2.2.1 i i0 i5
  have c := (cv_ok bd i0 i5).1 (hen i i0 i5)
  have := mul_bd (x := D (74 + i)) (y := cV D i (D 0).toNat 0) (a := 9) (b := 324) (by omega) (by omega) c.1 c.2
  omega
theorem carryAll_V {a : Int} (d : TD M a D) (hS : SC M) : PC (fX5_carryAll M 79 a) (fun r => r.1 = caS D) := by
  have bd := d.bd
  have ha := d.2.1
  unfold fX5_carryAll caS
  refine PC.bind d.isEnough (fun r1 q1 => ?_)
  rcases q1 with ⟨q1, en⟩ | ⟨q1, en⟩
  rotate_left
  · exact PC.pos q1 (PC.ok (by rw [if_neg (by rw [en]; decide)]))
  have hen := enB_iff.mp en
  refine PC.neg (by rw [q1]; decide) ?_
  rw [if_pos en]
  refine PC.iter (fun s => (0 ≤ s.2.1 ∧ s.2.1 ≤ 5) ∧ (KeepC M s.2.2 ∧ SC s.2.2) ∧ s.1 = sI (fun g => D (74 + g) * cV D g (D 0).toNat 0) s.2.1) ?_ _ _ ⟨⟨by (try dsimp only); omega, by (try dsimp only); omega⟩, ⟨KeepC.self, hS⟩, rfl⟩
  rintro rec ⟨v, g, A⟩ ⟨⟨g0, g5⟩, ⟨kA, sA⟩, hv⟩ hrec
  simp only at g0 g5 kA sA hv ⊢
  refine PC.ite (fun c => ?_) (fun c => PC.ok (by (try dsimp only); rw [hv, show g = 5 by omega]))
  have dA := d.keepC kA
  have sb := sI_bd (f := fun g => D (74 + g) * cV D g (D 0).toNat 0) (lo := 0) (hi := 2916) (i := g) (fun j p q => ca_bd bd hen p (by omega)) g0
  have tb := ca_bd bd hen g0 c
  rw [← hv] at sb
  rw [tp6_ dA.1 ha, (dA.2.2.2.2.2.1 g g0 c).1, w32_of (x := g + 1) (by omega) (by omega)]
  refine PC.guard (fun _ => PC.guard (fun _ => PC.guard (fun _ => PC.bind (PC.and (carryGood_V dA sA g0 c) (PC.of (carryGood_T dA.1 sA ha g g0 c))) (fun r q => hrec _ ?_))))
  (try dsimp only)
  rw [q.1, w32_of (x := D (74 + g) * cV D g (D 0).toNat 0) (by omega) (by omega), w32_of (by omega) (by omega)]
  refine ⟨⟨by omega, by omega⟩, ⟨kA.trans q.2.2.1, q.2.2.2⟩, ?_⟩
  rw [sI_s g0, ← hv]
theorem carryR_V {k : Int} (d : RD N k D) (bd : DBd D) : PC (iterC (fun (rec7 : (Int × Int × Mem) → Option (Int × Mem)) (s8 : Int × Int × Mem) => if s8.2.1 < 5 then (if s8.2.2.2.1 85 = 10 then (fX11_carryGood s8.2.2 85 s8.2.1).bind fun r10 => if r10.1 < 1000000 then (if r10.2.2.1 85 = 10 then (fX11_of r10.2 85 (w32 (74 + s8.2.1))).bind fun r14 => rec7 (w32 (s8.1 + (w32 (r10.1 * r14))), w32 (s8.2.1 + 1), r10.2) else none) else (some ((-1), r10.2)) else none) else (some (s8.1, s8.2.2))) BIG (0, 0, N)) (fun u => u.1 = caS D) := by
  refine PC.iter (fun s => (0 ≤ s.2.1 ∧ s.2.1 ≤ 5) ∧ RD s.2.2 k D ∧ (∀ j, 0 ≤ j → j < s.2.1 → lkA D j ≤ spA D j) ∧ s.1 = sI (fun g => D (74 + g) * cV D g (D 0).toNat 0) s.2.1) ?_ _ _ ⟨⟨by (try dsimp only); omega, by (try dsimp only); omega⟩, d, fun j p q => by (try dsimp only at q); omega, rfl⟩
  rintro rec ⟨v, g, A⟩ ⟨⟨g0, g5⟩, dA, hen, hv⟩ hrec
  simp only at g0 g5 dA hen hv ⊢
  refine PC.ite (fun c => PC.guard (fun _ => PC.bind (dA.carryGood bd g0 c) (fun r q => PC.ite (fun z => PC.guard (fun _ => ?_)) (fun z => PC.ok ?_)))) (fun c => PC.ok ?_)
  · obtain ⟨q1, q2⟩ := q
    have ok := cv_ok bd g0 c
    rw [q2] at z ⊢
    have eg := ok.2 z
    have cb := ok.1 eg
    have w := bd.2.2.2.2.1 g g0 c
    have tb := mul_bd (x := D (74 + g)) (y := cV D g (D 0).toNat 0) (a := 9) (b := 324) (by omega) (by omega) cb.1 cb.2
    have sb := sI_bd (f := fun g => D (74 + g) * cV D g (D 0).toNat 0) (lo := 0) (hi := 2916) (i := g) (fun j p q => by
      have w := bd.2.2.2.2.1 j p (by omega)
      have c := (cv_ok bd p (show j < 5 by omega)).1 (hen j p q)
      have := mul_bd (x := D (74 + j)) (y := cV D j (D 0).toNat 0) (a := 9) (b := 324) (by omega) (by omega) c.1 c.2
      omega) g0
    rw [← hv] at sb
    rw [w32_of (x := 74 + g) (by omega) (by omega), q1.of (by omega) (by omega), w32_of (x := g + 1) (by omega) (by omega)]
    refine PC.bindE rfl (hrec _ ?_)
    (try dsimp only)
    rw [Int.mul_comm (cV D g (D 0).toNat 0), w32_of (x := D (74 + g) * cV D g (D 0).toNat 0) (by omega) (by omega), w32_of (by omega) (by omega)]
    refine ⟨⟨by omega, by omega⟩, q1, fun j p q => ?_, ?_⟩
    · by_cases e : j = g
      · rw [e]; exact eg
      · exact hen j p (by omega)
    · rw [sI_s g0, ← hv]
  · obtain ⟨q1, q2⟩ := q
    rw [q2] at z
    unfold caS
    rw [if_neg]
    intro en
    have eg := enB_iff.mp en g g0 c
    have := ((cv_ok bd g0 c).1 eg).2
    omega
  · have e5 : g = 5 := by omega
    subst e5
    unfold caS
    rw [if_pos (enB_iff.mpr hen)]; exact hv
theorem carry_E (h : INV2 M) (k : Int) : TT (fX10_carry M 0 k) (fun r => INV2 r.2 ∧ TT (fX11_carry r.2 85 k) (fun u => r.1 = u.1 ∧ Keep r.2 u.2)) := by
  have hT := h.1.1
  have hS := h.1.2.1
  refine (TT.rrm (P := fun r => KeepC M r.2 ∧ SC r.2) (Q := fun N u => Keep N u.2) (Y := fun N => fX11_carry N 85 k) (carryX_T hT hS k) (fun N hN => by obtain ⟨i, kN⟩ := hN; have kN : KeepC M N ∧ SC N := kN; exact carryY_T (hT.keepC kN.1) k) (fun N hN => ?_)).mono (fun r q => ⟨h.keepC q.1.1 q.1.2, q.2⟩)
  obtain ⟨_, kN⟩ := hN
  have kN : KeepC M N ∧ SC N := kN
  have hN := h.keepC kN.1 kN.2
  have k0 : Keep N (mst N 85 0 0) := m85
  have e3 : N.1 3 0 = M.1 3 0 := kN.1.2 3 0 (scr_lo 0 (by decide) (by decide) (by decide)) (by decide)
  have e91 : ∀ y, N.1 91 y = M.1 91 y := fun y => kN.1.2 91 y (scr_lo y (by decide) (by decide) (by decide)) (by decide)
  unfold fX10_carry fX11_carry
  rw [wp0_0 hT, townAt_V hT, wp0_4 hT, bd1]
  refine RR.gl (fun _ => RR.gl (fun _ => RR.gr (fun _ => RR.mr (RR.handR hN k0 k (fun c => ?_) (fun c N2 d k2 _ => ?_)))))
  · rw [e3] at c
    rw [if_neg c]
    exact RR.posl rfl (RR.posr rfl (RR.ok rfl))
  rw [e3] at c
  rw [if_pos c]
  have eD : (fun y => N.1 91 (92 * k + y)) = (fun y => M.1 91 (92 * k + y)) := funext fun y => e91 _
  rw [eD] at d
  have tt := townV_D h c.1 c.2
  have bd := tt.bd
  refine RR.negl (by omega) (RR.negr n10 (RR.gl (fun _ => ?_)))
  exact RR.okp (PC.bind (carryAll_V tt hS) (fun r q => PC.ok (Q := fun (v : Int × Mem) => v.1 = caS (fun y => M.1 91 (92 * k + y))) q)) (carryR_V d bd) (fun r u p p' => by rw [p, p'])
end Carry
