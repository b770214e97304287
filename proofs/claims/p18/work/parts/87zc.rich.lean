/-! wealth: the views -/
section Rich
variable {O P A B M N : Mem} {D L E : Int → Int} {a l k q n kn : Int}
def wA (A : Mem) (D : Int → Int) (h : Int) : Int := woE D (fun y => A.1 69 y) h
theorem CW.wealth (c : CW O A a l D L) (sb : SBd' A) (h : Int) : PC (fX8_wealthOf A 68 h) (fun r => r = if 0 ≤ h ∧ h < D 0 then wA A D h else 0) := by
  have bd := c.1.bd
  have b0 := bd.1
  unfold fX8_wealthOf
  rw [c.2.2.1, wp68_2 c.1.1, c.1.isHouse]
  refine PC.guard (fun _ => PC.guard (fun _ => PC.flag (fun ch => ?_) (fun ch => PC.ok (by rw [if_neg ch]))))
  rw [if_pos ch]
  exact PC.bind (c.1.worthIn (E := fun y => A.1 69 y) (fun _ _ _ => rfl) sb ch.1 (by omega)) (fun r hr => PC.ok hr)
theorem CW.wealthI (c : CW O A a l D L) (sb : SBd' A) {h : Int} (h0 : 0 ≤ h) (h1 : h < D 0) : PC (fX8_wealthOf A 68 h) (fun r => r = wA A D h) := (c.wealth sb h).mono (fun r hr => by rw [hr, if_pos ⟨h0, h1⟩])
theorem WB.wealth (w : WB O P a l k q D L A B) {h : Int} (h0 : 0 ≤ h) (h1 : h < D 0) : PC (fX11_wealthOf B 85 h) (fun r => r = wA A D h) := by
  obtain ⟨c, e, ⟨bd, lb⟩, r69, _, _, _, _, _, _, _, _, _, _, sb⟩ := w
  have b0 := bd.1
  unfold fX11_wealthOf wA woE
  rw [wp85_29 e.1.1]
  refine PC.iter (fun s => (0 ≤ s.2 ∧ s.2 ≤ 5) ∧ s.1 = sI (fun g => A.1 69 (5 * h + g) * D (79 + g)) s.2) ?_ _ _ ⟨⟨by decide, by decide⟩, rfl⟩
  rintro rec ⟨x, g⟩ ⟨⟨g0, g5⟩, hx⟩ hrec
  simp only at g0 g5 hx ⊢
  refine PC.ite (fun cc => PC.guard (fun _ => PC.guard (fun _ => ?_))) (fun cc => PC.ok ?_)
  rotate_left
  · rw [hx, show g = 5 by omega]
  rw [w32_of (x := 5 * h) (by omega) (by omega), w32_of (x := 5 * h + g) (by omega) (by omega), w32_of (x := 79 + g) (by omega) (by omega), e.1.of (by omega) (by omega), ← r69 (5 * h + g) (by omega) (by omega)]
  refine PC.bindE rfl (hrec _ ⟨⟨?_, ?_⟩, ?_⟩)
  · show 0 ≤ w32 (g + 1)
    rw [w32_of (by omega) (by omega)]; omega
  · show w32 (g + 1) ≤ 5
    rw [w32_of (by omega) (by omega)]; omega
  · show w32 (x + w32 (A.1 69 (5 * h + g) * D (79 + g))) = sI _ (w32 (g + 1))
    have b1 := woE_in (E := fun y => A.1 69 y) bd sb h0 (by omega) g0 cc
    have b2 := woE_bd (E := fun y => A.1 69 y) bd sb h0 (by omega) g0 g5
    rw [← hx] at b2
    rw [w32_of (x := g + 1) (by omega) (by omega), sI_s g0, ← hx, w32_of (x := A.1 69 (5 * h + g) * D (79 + g)) (by omega) (by omega), w32_of (by omega) (by omega)]
theorem wA_bd (bd : DBd D) (sb : SBd' A) {h : Int} (h0 : 0 ≤ h) (h1 : h < D 0) : 0 ≤ wA A D h ∧ wA A D h ≤ 405 := woE_bd (E := fun y => A.1 69 y) bd sb h0 (by have := bd.1; omega) (by decide) (by decide)
/-- the rank of a house: those ahead of it -/
def ahd (W : Int → Int) (h o : Int) : Int := if W h < W o ∨ (W o = W h ∧ o < h) then 1 else 0
theorem ahd_bd (W : Int → Int) (h o : Int) : 0 ≤ ahd W h o ∧ ahd W h o ≤ 1 := by unfold ahd; split <;> decide
def rk (W : Int → Int) (n h : Int) : Int := sI (ahd W h) n
theorem CW.rank (c : CW O A a l D L) (sb : SBd' A) {h : Int} (h0 : 0 ≤ h) (h1 : h < D 0) : PC (fX8_rankOf A 68 h) (fun r => r = rk (wA A D) (D 0) h) := by
  have bd := c.1.bd
  have b0 := bd.1
  have n0 := c.1.2.2.1.1
  unfold fX8_rankOf
  refine PC.bind (c.wealthI sb h0 h1) (fun v hv => ?_)
  rw [hv, c.2.2.1]
  refine PC.iter (fun s => (0 ≤ s.2 ∧ s.2 ≤ D 0) ∧ s.1 = sI (ahd (wA A D) h) s.2) ?_ _ _ ⟨⟨by decide, by (try dsimp only); omega⟩, rfl⟩
  rintro rec ⟨x, o⟩ ⟨⟨o0, o1⟩, hx⟩ hrec
  simp only at o0 o1 hx ⊢
  have b2 := sI_bd (f := ahd (wA A D) h) (lo := 0) (hi := 1) (fun j _ _ => ahd_bd _ h j) o0
  rw [← hx] at b2
  rw [n0, w32_of (x := o + 1) (by omega) (by omega), w32_of (x := x + 1) (by omega) (by omega)]
  refine PC.guard (fun _ => PC.guard (fun _ => PC.ite (fun cc => PC.bind (c.wealthI sb o0 cc) (fun u hu => ?_)) (fun cc => PC.ok ?_)))
  rotate_left
  · rw [hx, show o = D 0 by omega]; rfl
  have y1 : ahd (wA A D) h o = 1 → PC (rec (x + 1, o + 1)) (fun r => r = rk (wA A D) (D 0) h) := fun z => hrec _ ⟨⟨by (try dsimp only); omega, by (try dsimp only); omega⟩, by (try dsimp only); rw [sI_s o0, z, hx]⟩
  have y0 : ahd (wA A D) h o = 0 → PC (rec (x, o + 1)) (fun r => r = rk (wA A D) (D 0) h) := fun z => hrec _ ⟨⟨by (try dsimp only); omega, by (try dsimp only); omega⟩, by (try dsimp only); rw [sI_s o0, z, hx, Int.add_zero]⟩
  rw [hu]
  refine PC.ite (fun d1 => y1 (by unfold ahd; rw [if_pos (Or.inl d1)])) (fun d1 => PC.ite (fun d2 => PC.ite (fun d3 => y1 (by unfold ahd; rw [if_pos (Or.inr ⟨d2, d3⟩)])) (fun d3 => y0 (by unfold ahd; rw [if_neg (by omega)]))) (fun d2 => y0 (by unfold ahd; rw [if_neg (by omega)])))
theorem sm_le2 {f g : Int → Int} {n : Nat} : (∀ j : Int, 0 ≤ j → j < n → f j ≤ g j) → sm f n ≤ sm g n := by
  induction n with
  | zero => exact fun _ => Int.le_refl _
  | succ n ih =>
    intro h
    have a := ih (fun j p q => h j p (by omega))
    have b := h n (by omega) (by omega)
    show sm f n + f n ≤ sm g n + g n
    omega
theorem sm_lt2 {f g : Int → Int} {n : Nat} : (∀ j : Int, 0 ≤ j → j < n → f j ≤ g j) → ∀ x : Int, 0 ≤ x → x < n → f x < g x → sm f n < sm g n := by
  induction n with
  | zero => intro _ x a b; omega
  | succ n ih =>
    intro h x x0 x1 hx
    have b := h n (by omega) (by omega)
    show sm f n + f n < sm g n + g n
    by_cases c : x = n
    · rw [c] at hx
      have a := sm_le2 (f := f) (g := g) (n := n) (fun j p q => h j p (by omega))
      omega
    · have a := ih (fun j p q => h j p (by omega)) x x0 (by omega) hx
      omega
theorem rk_lt {W : Int → Int} {n i j : Int} (i0 : 0 ≤ i) (i1 : i < n) (z : W j < W i ∨ (W i = W j ∧ i < j)) : rk W n i < rk W n j := by
  unfold rk sI
  refine sm_lt2 (fun o _ _ => ?_) i i0 (by omega) ?_
  · unfold ahd
    split <;> split <;> omega
  · unfold ahd
    rw [if_pos z, if_neg (by omega)]
    decide
theorem rk_bd {W : Int → Int} {n i : Int} (i0 : 0 ≤ i) (i1 : i < n) : 0 ≤ rk W n i ∧ rk W n i < n := by
  have a := sI_bd (f := ahd W i) (lo := 0) (hi := 1) (i := n) (fun j _ _ => ahd_bd W i j) (by omega)
  have b := sI_bd (f := fun _ => (1 : Int)) (lo := 1) (hi := 1) (i := n) (fun j _ _ => ⟨Int.le_refl _, Int.le_refl _⟩) (by omega)
  have d : rk W n i < sI (fun _ => (1 : Int)) n := by
    unfold rk sI
    refine sm_lt2 (fun o _ _ => (ahd_bd W i o).2) i i0 (by omega) ?_
    unfold ahd
    rw [if_neg (by omega)]
    decide
  have e : rk W n i = sI (ahd W i) n := rfl
  omega
theorem rk_inj {W : Int → Int} {n i j : Int} (i0 : 0 ≤ i) (i1 : i < n) (j0 : 0 ≤ j) (j1 : j < n) (e : rk W n i = rk W n j) : i = j := by
  by_cases h1 : W j < W i ∨ (W i = W j ∧ i < j)
  · have := rk_lt (n := n) i0 i1 h1; omega
  by_cases h2 : W i < W j ∨ (W j = W i ∧ j < i)
  · have := rk_lt (n := n) j0 j1 h2; omega
  omega
theorem rk_ex {W : Int → Int} {n k : Int} (k0 : 0 ≤ k) (k1 : k < n) : ∃ j, (0 ≤ j ∧ j < n) ∧ rk W n j = k := by
  apply Classical.byContradiction
  intro hno
  have hne : ∀ j, 0 ≤ j → j < n → rk W n j ≠ k := fun j a b e => hno ⟨j, ⟨a, b⟩, e⟩
  obtain ⟨i, j, ij, jm, e⟩ := pig (n - 1).toNat (fun i => if k < rk W n (i : Int) then rk W n (i : Int) - 1 else rk W n (i : Int)) (fun i i1 => by
    have a := rk_bd (W := W) (n := n) (i := (i : Int)) (by omega) (by omega)
    have b := hne (i : Int) (by omega) (by omega)
    (try dsimp only)
    split <;> omega)
  have a := hne (i : Int) (by omega) (by omega)
  have b := hne (j : Int) (by omega) (by omega)
  have z : rk W n (i : Int) = rk W n (j : Int) := by
    (try dsimp only at e)
    split at e <;> split at e <;> omega
  have := rk_inj (by omega) (by omega) (by omega) (by omega) z
  omega
def RKD (W : Int → Int) (n k r : Int) : Prop := (0 ≤ r ∧ r < n) ∧ rk W n r = k
theorem CW.ranked (c : CW O A a l D L) (sb : SBd' A) {k : Int} (k0 : 0 ≤ k) (k1 : k < D 0) : PC (fX8_ranked A 68 k) (RKD (wA A D) (D 0) k) := by
  have bd := c.1.bd
  have b0 := bd.1
  have n0 := c.1.2.2.1.1
  unfold fX8_ranked
  rw [c.2.2.1]
  refine PC.iter (fun s => (0 ≤ s ∧ s ≤ D 0) ∧ ∀ j, 0 ≤ j → j < s → rk (wA A D) (D 0) j ≠ k) ?_ _ _ ⟨⟨by decide, by omega⟩, fun j p q => by omega⟩
  rintro rec s ⟨⟨s0, s1⟩, hs⟩ hrec
  rw [n0]
  refine PC.guard (fun _ => PC.guard (fun _ => PC.ite (fun cc => PC.bind (c.rank sb s0 cc) (fun u hu => ?_)) (fun cc => ?_)))
  · refine PC.ite (fun d => PC.ok ⟨⟨s0, cc⟩, by rw [← hu, d]⟩) (fun d => hrec _ ?_)
    rw [w32_of (by omega) (by omega)]
    refine ⟨⟨by omega, by omega⟩, fun j p q => ?_⟩
    by_cases x : j = s
    · rw [x, ← hu]; exact d
    · exact hs j p (by omega)
  · obtain ⟨j, ⟨p, q⟩, e⟩ := rk_ex (W := wA A D) k0 k1
    exact absurd e (hs j p (by omega))
theorem WB.ranked (w : WB O P a l k q D L A B) {i : Int} (k0 : 0 ≤ i) (k1 : i < D 0) : PC (fX11_ranked B 85 i) (RKD (wA A D) (D 0) i) := by
  have bd := w.2.2.1.1
  have b0 := bd.1
  have e := w.2.1.1
  unfold fX11_ranked
  refine PC.iter (fun s => (0 ≤ s ∧ s ≤ D 0) ∧ ∀ j, 0 ≤ j → j < s → rk (wA A D) (D 0) j ≠ i) ?_ _ _ ⟨⟨by decide, by omega⟩, fun j p q => by omega⟩
  rintro rec s ⟨⟨s0, s1⟩, hs⟩ hrec
  rw [e.2.2.1.2.1]
  refine PC.guard (fun _ => PC.ite (fun cc => ?_) (fun cc => ?_))
  rotate_left
  · obtain ⟨j, ⟨p, q⟩, e⟩ := rk_ex (W := wA A D) k0 k1
    exact absurd e (hs j p (by omega))
  have fin : PC (if rk (wA A D) (D 0) s = i then (some s) else (rec (w32 (s + 1)))) (RKD (wA A D) (D 0) i) := by
    refine PC.ite (fun d => PC.ok ⟨⟨s0, cc⟩, d⟩) (fun d => hrec _ ?_)
    rw [w32_of (by omega) (by omega)]
    refine ⟨⟨by omega, by omega⟩, fun j p q => ?_⟩
    by_cases x : j = s
    · rw [x]; exact d
    · exact hs j p (by omega)
  refine PC.iter (fun t => (0 ≤ t.2 ∧ t.2 ≤ D 0) ∧ t.1 = sI (ahd (wA A D) s) t.2) ?_ _ _ ⟨⟨by decide, by (try dsimp only); omega⟩, rfl⟩
  rintro rec2 ⟨x, o⟩ ⟨⟨o0, o1⟩, hx⟩ hrec2
  simp only at o0 o1 hx ⊢
  have b2 := sI_bd (f := ahd (wA A D) s) (lo := 0) (hi := 1) (fun j _ _ => ahd_bd _ s j) o0
  rw [← hx] at b2
  rw [w32_of (x := o + 1) (by omega) (by omega), w32_of (x := x + 1) (by omega) (by omega), w32_of (x := x + 0) (by omega) (by omega), Int.add_zero]
  refine PC.ite (fun dd => PC.bind (w.wealth o0 dd) (fun u hu => PC.bind (w.wealth s0 cc) (fun v hv => ?_))) (fun dd => ?_)
  rotate_left
  · rw [hx, show o = D 0 by omega]; exact fin
  have y1 : ahd (wA A D) s o = 1 → PC (rec2 (x + 1, o + 1)) (RKD (wA A D) (D 0) i) := fun z => hrec2 _ ⟨⟨by (try dsimp only); omega, by (try dsimp only); omega⟩, by (try dsimp only); rw [sI_s o0, z, hx]⟩
  have y0 : ahd (wA A D) s o = 0 → PC (rec2 (x, o + 1)) (RKD (wA A D) (D 0) i) := fun z => hrec2 _ ⟨⟨by (try dsimp only); omega, by (try dsimp only); omega⟩, by (try dsimp only); rw [sI_s o0, z, hx, Int.add_zero]⟩
  rw [hu, hv]
  refine PC.ite (fun d1 => y1 (by unfold ahd; rw [if_pos (Or.inl d1)])) (fun d1 => PC.bind (w.wealth o0 dd) (fun u' hu' => PC.bind (w.wealth s0 cc) (fun v' hv' => ?_)))
  rw [hu', hv']
  refine PC.ite (fun d2 => PC.ite (fun d3 => y1 (by unfold ahd; rw [if_pos (Or.inr ⟨d2, d3⟩)])) (fun d3 => y0 (by unfold ahd; rw [if_neg (by omega)]))) (fun d2 => y0 (by unfold ahd; rw [if_neg (by omega)]))
theorem RKD.top {W : Int → Int} {n r : Int} (h : RKD W n 0 r) : ∀ o, 0 ≤ o → o < n → W o ≤ W r := fun o p q => by
  by_cases c : W r < W o
  · have a := rk_lt (n := n) (i := o) (j := r) p q (Or.inl c)
    have b := rk_bd (W := W) p q
    have e := h.2
    omega
  · omega
theorem RKD.bot {W : Int → Int} {n r : Int} (h : RKD W n (n - 1) r) : ∀ o, 0 ≤ o → o < n → W r ≤ W o := fun o p q => by
  by_cases c : W o < W r
  · have a := rk_lt (n := n) (i := r) (j := o) h.1.1 h.1.2 (Or.inl c)
    have b := rk_bd (W := W) p q
    have e := h.2
    omega
  · omega
def GAP (W : Int → Int) (n r : Int) : Prop := ∃ x y, (0 ≤ x ∧ x < n) ∧ (0 ≤ y ∧ y < n) ∧ (∀ o, 0 ≤ o → o < n → W o ≤ W x) ∧ (∀ o, 0 ≤ o → o < n → W y ≤ W o) ∧ r = w32 (W x - W y)
theorem GAP.uniq {W : Int → Int} {n r s : Int} (h : GAP W n r) (g : GAP W n s) : r = s := by
  obtain ⟨x, y, x0, y0, h1, h2, h3⟩ := h
  obtain ⟨x', y', x0', y0', g1, g2, g3⟩ := g
  have a := h1 x' x0'.1 x0'.2
  have b := g1 x x0.1 x0.2
  have c := h2 y' y0'.1 y0'.2
  have d := g2 y y0.1 y0.2
  rw [h3, g3, show W x = W x' by omega, show W y = W y' by omega]
theorem CW.gap (c : CW O A a l D L) (sb : SBd' A) : PC (fX8_gap A 68) (GAP (wA A D) (D 0)) := by
  have bd := c.1.bd
  have b0 := bd.1
  have n0 := c.1.2.2.1.1
  unfold fX8_gap
  refine PC.bind (c.wealthI sb (h := 0) (by decide) (by omega)) (fun v hv => ?_)
  rw [c.2.2.1]
  refine PC.iter (fun s => (1 ≤ s.2.2 ∧ s.2.2 ≤ D 0) ∧ (∃ x, (0 ≤ x ∧ x < D 0) ∧ s.1 = wA A D x) ∧ (∃ y, (0 ≤ y ∧ y < D 0) ∧ s.2.1 = wA A D y) ∧ ∀ o, 0 ≤ o → o < s.2.2 → wA A D o ≤ s.1 ∧ s.2.1 ≤ wA A D o) ?_ _ _ ⟨⟨by (try dsimp only); omega, b0.1⟩, ⟨0, ⟨by decide, by omega⟩, hv⟩, ⟨0, ⟨by decide, by omega⟩, hv⟩, fun o p q => ?_⟩
  rotate_left
  · (try dsimp only at q)
    have z : o = 0 := by omega
    subst z
    show wA A D 0 ≤ v ∧ v ≤ wA A D 0
    rw [hv]
    exact ⟨Int.le_refl _, Int.le_refl _⟩
  rintro rec ⟨mx, mn, o⟩ ⟨⟨o0, o1⟩, ⟨x, xr, hx⟩, ⟨y, yr, hy⟩, ho⟩ hrec
  simp only at o0 o1 hx hy ho ⊢
  rw [n0]
  refine PC.guard (fun _ => PC.guard (fun _ => PC.ite (fun cc => PC.bind (c.wealthI sb (by omega) cc) (fun u hu => PC.bind (c.wealthI sb (by omega) cc) (fun u' hu' => ?_))) (fun cc => PC.ok ⟨x, y, xr, yr, fun z p q => by rw [← hx]; exact (ho z p (by omega)).1, fun z p q => by rw [← hy]; exact (ho z p (by omega)).2, by rw [hx, hy]⟩)))
  rw [w32_of (x := o + 1) (by omega) (by omega), hu, hu']
  refine hrec _ ⟨⟨by (try dsimp only); omega, by (try dsimp only); omega⟩, ?_, ?_, ?_⟩
  · (try dsimp only); unfold imax; split
    · exact ⟨o, ⟨by omega, cc⟩, rfl⟩
    · exact ⟨x, xr, hx⟩
  · (try dsimp only); unfold imin; split
    · exact ⟨o, ⟨by omega, cc⟩, rfl⟩
    · exact ⟨y, yr, hy⟩
  · intro z p q
    (try dsimp only at q ⊢)
    by_cases e : z = o
    · subst e
      unfold imax imin
      split <;> split <;> omega
    · have := ho z p (by omega)
      unfold imax imin
      split <;> split <;> omega
theorem WB.gap (w : WB O P a l k q D L A B) : PC (fX11_gap B 85) (GAP (wA A D) (D 0)) := by
  have bd := w.2.2.1.1
  have b0 := bd.1
  unfold fX11_gap
  rw [w.2.1.1.2.2.1.2.1, w32_of (x := D 0 - 1) (by omega) (by omega)]
  refine PC.guard (fun _ => PC.bind (w.ranked (by decide) (by omega)) (fun r hr => PC.bind (w.wealth hr.1.1 hr.1.2) (fun v hv => PC.bind (w.ranked (by omega) (by omega)) (fun s hs => PC.bind (w.wealth hs.1.1 hs.1.2) (fun u hu => PC.ok ⟨r, s, hr.1, hs.1, hr.top, hs.bot, by rw [hv, hu]⟩)))))
/-- sums that wrap -/
def wS (f : Int → Int) : Nat → Int
  | 0 => 0
  | n + 1 => w32 (wS f n + f (n : Int))
def wI (f : Int → Int) (i : Int) : Int := wS f i.toNat
theorem wI_s {f : Int → Int} {i : Int} (h : 0 ≤ i) : wI f (i + 1) = w32 (wI f i + f i) := by
  unfold wI
  rw [show (i + 1).toNat = i.toNat + 1 by omega]
  show w32 (wS f i.toNat + f ((i.toNat : Nat) : Int)) = _
  rw [show ((i.toNat : Nat) : Int) = i by omega]
theorem RR.itr {ρ σ T : Type} {X : Option ρ} {b' : (T → Option σ) → T → Option σ} {Q : ρ → σ → Prop} (I : T → Prop) (hb : ∀ rec' t, I t → (∀ t', I t' → RR X (rec' t') Q) → RR X (b' rec' t) Q) : ∀ m t, I t → RR X (iterC b' m t) Q
  | 0, _, _ => fun _ _ _ e => by cases e
  | m + 1, t, h => hb (iterC b' m) t h (fun t' h' => RR.itr I hb m t' h')
theorem CW.took (c : CW O A a l D L) {t h : Int} (t0 : 0 ≤ t) (t1 : t < 4) (h0 : 0 ≤ h) (h1 : h < 6) : PC (fX8_tookFrom A 68 t h) (fun r => r = wI (fun g => A.1 71 (30 * t + 5 * h + g)) 5) := by
  unfold fX8_tookFrom
  rw [wp68_4 c.1.1]
  refine PC.iter (fun s => (0 ≤ s.2 ∧ s.2 ≤ 5) ∧ s.1 = wI (fun g => A.1 71 (30 * t + 5 * h + g)) s.2) ?_ _ _ ⟨⟨by decide, by decide⟩, rfl⟩
  rintro rec ⟨x, g⟩ ⟨⟨g0, g1⟩, hx⟩ hrec
  simp only at g0 g1 hx ⊢
  refine PC.ite (fun cc => PC.guard (fun _ => ?_)) (fun cc => PC.ok (by rw [hx, show g = 5 by omega]))
  rw [c3V t0 t1 h0 h1 g0 cc, w32_of (x := g + 1) (by omega) (by omega)]
  exact PC.bindE rfl (PC.guard (fun _ => hrec _ ⟨⟨by (try dsimp only); omega, by (try dsimp only); omega⟩, by (try dsimp only); rw [wI_s g0, hx]⟩))
theorem WB.robbed (w : WB O P a l k q D L A B) : RR (fX8_robbed A 68) (fX11_robbed B 85) (fun r u => r = u) := by
  obtain ⟨c, e, ⟨bd, lb⟩, _, _, r71, _⟩ := w
  have b0 := bd.1
  have b1 := bd.2.1
  have n0 := c.1.2.2.1.1
  have n1 := c.1.2.2.1.2
  unfold fX8_robbed fX11_robbed
  rw [c.2.2.1, n0, n1, e.1.2.2.1.2.1, e.1.2.2.1.2.2, wp85_31 e.1.1]
  refine RR.iter (fun s s' => s = s' ∧ 0 ≤ s.2 ∧ s.2 ≤ D 0) ?_ _ _ _ _ ⟨rfl, by decide, by (try dsimp only); omega⟩
  rintro rec rec' ⟨z, h⟩ s' ⟨hs, s0, s1⟩ hrec
  subst hs
  simp only at s0 s1 ⊢
  refine RR.gl (fun _ => RR.gl (fun _ => RR.gr (fun _ => RR.ii Iff.rfl (fun cc _ => ?_) (fun _ _ => RR.ok rfl))))
  have nx : ∀ v, RR (rec (v, w32 (h + 1))) (rec' (v, w32 (h + 1))) (fun r u => r = u) := fun v => hrec _ _ ⟨rfl, by (try dsimp only); rw [w32_of (by omega) (by omega)]; omega, by (try dsimp only); rw [w32_of (by omega) (by omega)]; omega⟩
  refine RR.iter (fun s s' => s = s' ∧ 0 ≤ s.2 ∧ s.2 ≤ D 1) ?_ _ _ _ _ ⟨rfl, by decide, by (try dsimp only); omega⟩
  rintro rec2 rec2' ⟨y, t⟩ s' ⟨hs, t0, t1⟩ hrec2
  subst hs
  simp only at t0 t1 ⊢
  refine RR.ii Iff.rfl (fun ct _ => ?_) (fun _ _ => ?_)
  rotate_left
  · by_cases cy : y < 2
    · exact RR.posl cy (RR.negr (by omega) (nx _))
    · exact RR.negl cy (RR.posr (by omega) (nx _))
  have nt : ∀ v, RR (rec2 (v, w32 (t + 1))) (rec2' (v, w32 (t + 1))) (fun r u => r = u) := fun v => hrec2 _ _ ⟨rfl, by (try dsimp only); rw [w32_of (by omega) (by omega)]; omega, by (try dsimp only); rw [w32_of (by omega) (by omega)]; omega⟩
  refine RR.bl (c.took t0 (by omega) s0 (by omega)) (fun v hv => ?_)
  refine RR.itr (fun s => (0 ≤ s.2 ∧ s.2 ≤ 5) ∧ s.1 = wI (fun g => A.1 71 (30 * t + 5 * h + g)) s.2) ?_ _ _ ⟨⟨by decide, by decide⟩, rfl⟩
  rintro rec3 ⟨x, g⟩ ⟨⟨g0, g1⟩, hx⟩ hrec3
  simp only at g0 g1 hx ⊢
  refine RR.ir (fun cg => ?_) (fun cg => ?_)
  · rw [plV t0 (by omega) s0 (by omega) g0 cg, w32_of (x := g + 1) (by omega) (by omega)]
    refine RR.br (PC.ok (Q := fun r => r = 30 * t + 5 * h + g) rfl) (fun r hr => RR.gr (fun _ => hrec3 _ ⟨⟨by (try dsimp only); omega, by (try dsimp only); omega⟩, ?_⟩))
    (try dsimp only)
    rw [wI_s g0, hx, hr, r71 (30 * t + 5 * h + g) (by omega) (by omega)]
  · have ex : x = v := by rw [hx, hv, show g = 5 by omega]
    rw [ex]
    exact RR.ii Iff.rfl (fun _ _ => nt _) (fun _ _ => nt _)
theorem CW.lack (c : CW O A a l D L) (sb : SBd' A) {h g : Int} (h0 : 0 ≤ h) (h1 : h < 6) (g0 : 0 ≤ g) (g1 : g < 5) : PC (fX9_lackOf A 68 h g) (fun r => r = imax 0 (w32 (D (32 + (5 * h + g)) - A.1 69 (5 * h + g)))) := by
  have hT := c.1.1
  have ha := c.1.2.1
  have e2 := c.1.2.2.2.1
  unfold fX9_lackOf
  rw [cellV h0 h1 g0 g1, c.2.2.1, wp68_2 hT, tp3_ hT ha]
  refine PC.guard (fun _ => PC.guard (fun _ => PC.bindE rfl (PC.guard (fun _ => PC.bindE rfl (PC.guard (fun _ => ?_))))))
  rw [(e2 (5 * h + g) (by omega) (by omega)).2]
  exact PC.ok rfl
theorem WB.can (w : WB O P a l k q D L A B) {t : Int} (t0 : 0 ≤ t) (t1 : t < D 1) : RR (fX8_can A 68 t) (fX11_can B 85 t) (fun r u => r = u) := by
  obtain ⟨c, e, ⟨bd, lb⟩, r69, r70, r71, _, _, _, _, _, _, ⟨r13, _⟩, _, sb⟩ := w
  have b0 := bd.1
  have b1 := bd.2.1
  have n0 := c.1.2.2.1.1
  unfold fX8_can fX11_can
  rw [c.2.2.1, n0, e.1.2.2.1.2.1, wp85_29 e.1.1, wp85_30 e.1.1, wp85_31 e.1.1, wp68_3 c.1.1, c.isFree, e.isFree bd, ← r13]
  refine RR.gl (fun _ => ?_)
  by_cases fr : (0 ≤ t ∧ t < D 1) ∧ bAnd (bShr (A.1 68 13) t) 1 = 0
  rotate_left
  · rw [if_neg fr]
    refine RR.okp (P := fun r => r = 0) (P' := fun r => r = 0) (PC.bindE rfl (PC.pos rfl (PC.ok rfl))) (PC.iter (fun s => s.1 = 0) ?_ _ _ rfl) (fun r u x y => by rw [x, y])
    rintro rec ⟨x, g⟩ hx hrec
    simp only at hx ⊢
    refine PC.ite (fun _ => PC.iter (fun _ => True) ?_ _ _ trivial) (fun _ => PC.ok hx)
    rintro rec2 s _ hrec2
    refine PC.guard (fun _ => PC.ite (fun _ => PC.bind PC.tr (fun _ _ => PC.guard (fun _ => PC.ite (fun _ => PC.bind PC.tr (fun _ _ => PC.guard (fun _ => PC.bind PC.tr (fun _ _ => hrec2 _ trivial)))) (fun _ => hrec2 _ trivial)))) (fun _ => PC.bindE rfl (PC.pos rfl (hrec _ ?_))))
    (try dsimp only)
    rw [hx]
    exact w32_of (by decide) (by decide)
  rw [if_pos fr]
  refine RR.bl (PC.ok (Q := fun v => v = 1) rfl) (fun v hv => RR.negl (by rw [hv]; decide) ?_)
  refine RR.iter (fun s s' => s = s' ∧ 0 ≤ s.2 ∧ s.2 ≤ 5) ?_ _ _ _ _ ⟨rfl, by decide, by decide⟩
  rintro rec rec' ⟨z, g⟩ s' ⟨hs, g0, g1⟩ hrec
  subst hs
  simp only at g0 g1 ⊢
  refine RR.ii Iff.rfl (fun cg _ => ?_) (fun _ _ => RR.ok rfl)
  refine RR.iter (fun s s' => s = s' ∧ (0 ≤ s.2 ∧ s.2 ≤ D 0) ∧ r32 s.1) ?_ _ _ _ _ ⟨rfl, ⟨by decide, by (try dsimp only); omega⟩, r32_0⟩
  rintro rec2 rec2' ⟨y, h⟩ s' ⟨hs, ⟨h0, h1⟩, hy⟩ hrec2
  subst hs
  simp only at h0 h1 hy ⊢
  refine RR.gl (fun _ => RR.gr (fun _ => RR.ii Iff.rfl (fun ch _ => ?_) (fun _ _ => ?_)))
  rotate_left
  · rw [tgV t0 (by omega) g0 cg, lesserV, ← r70 (5 * t + g) (by omega) (by omega), imin_c]
    refine RR.gl (fun _ => RR.br (PC.ok (Q := fun v => v = 1) rfl) (fun v hv => RR.negr (by rw [hv]; decide) (RR.gr (fun _ => RR.br (PC.ok (Q := fun v => v = _) rfl) (fun u hu => ?_)))))
    rw [hu]
    exact hrec _ _ ⟨rfl, by (try dsimp only); rw [w32_of (by omega) (by omega)]; omega, by (try dsimp only); rw [w32_of (by omega) (by omega)]; omega⟩
  have nx : ∀ v, r32 v → RR (rec2 (v, w32 (h + 1))) (rec2' (v, w32 (h + 1))) (fun r u => r = u) := fun v hv => hrec2 _ _ ⟨rfl, ⟨by (try dsimp only); rw [w32_of (by omega) (by omega)]; omega, by (try dsimp only); rw [w32_of (by omega) (by omega)]; omega⟩, hv⟩
  have bD := (bd.2.2.1 (5 * h + g) (by omega) (by omega)).2
  have bA := sb (5 * h + g) (by omega) (by omega)
  rw [plV t0 (by omega) h0 (by omega) g0 cg, hgI (f := 32) h0 (by omega) g0 cg (by decide) (by decide), hg2 h0 (by omega) g0 cg, e.1.of (by omega) (by omega), ← r69 (5 * h + g) (by omega) (by omega)]
  refine RR.bl (c.takesGift t0 (by omega) h0 (by omega) g0 cg) (fun v hv => RR.br (PC.ok (Q := fun r => r = 30 * t + 5 * h + g) rfl) (fun r hr => RR.gr (fun _ => ?_)))
  rw [hr, ← r71 (30 * t + 5 * h + g) (by omega) (by omega)]
  rcases hv with ⟨hv, m1, m2⟩ | ⟨hv, m⟩
  · refine RR.negl (by rw [hv]; decide) (RR.posr m2 (RR.bl (c.lack sb h0 (by omega) g0 cg) (fun u hu => RR.br (PC.ok (Q := fun v => v = D (32 + (5 * h + g))) rfl) (fun p hp => RR.gr (fun _ => ?_)))))
    rw [hp, greaterV, hu]
    exact RR.br (PC.ok (Q := fun v => v = imax 0 (w32 (D (32 + (5 * h + g)) - A.1 69 (5 * h + g)))) rfl) (fun p' hp' => by rw [hp']; exact nx _ (w32_r _))
  · have ey : w32 (y + 0) = y := by rw [Int.add_zero]; exact w32_id hy
    refine RR.posl hv (RR.ir (fun m2 => RR.br (PC.ok (Q := fun v => v = D (32 + (5 * h + g))) rfl) (fun p hp => RR.gr (fun _ => ?_))) (fun _ => by rw [ey]; exact nx _ hy))
    have nm : ¬ A.1 69 (5 * h + g) < D (32 + (5 * h + g)) := fun z => m ⟨z, m2⟩
    rw [hp, greaterV, w32_of (x := D (32 + (5 * h + g)) - A.1 69 (5 * h + g)) (by omega) (by omega)]
    refine RR.br (PC.ok (Q := fun v => v = 0) ?_) (fun p' hp' => by rw [hp', ey]; exact nx _ hy)
    unfold imax
    split <;> omega
theorem sm_addf {f g : Int → Int} {n : Nat} : sm (fun j => f j + g j) n = sm f n + sm g n := by
  induction n with
  | zero => rfl
  | succ n ih =>
    show sm (fun j => f j + g j) n + (f n + g n) = (sm f n + f n) + (sm g n + g n)
    rw [ih]; omega
theorem sm_swap2 {q : Int → Int → Int} {m n : Nat} : sm (fun a => sm (fun b => q a b) m) n = sm (fun b => sm (fun a => q a b) n) m := by
  induction n with
  | zero =>
    show (0 : Int) = sm (fun _ => 0) m
    induction m with
    | zero => rfl
    | succ m ih => show (0 : Int) = sm (fun _ => 0) m + 0; omega
  | succ n ih =>
    show sm (fun a => sm (fun b => q a b) m) n + sm (fun b => q n b) m = sm (fun b => sm (fun a => q a b) n + q n b) m
    rw [ih, sm_addf]
theorem sI_swap2 {q : Int → Int → Int} {m n : Int} : sI (fun a => sI (fun b => q a b) m) n = sI (fun b => sI (fun a => q a b) n) m := sm_swap2
theorem sI_tail {f : Int → Int} {i : Int} (i0 : 0 ≤ i) : ∀ d : Nat, (∀ j, i ≤ j → j < i + d → f j = 0) → sI f (i + d) = sI f i
  | 0, _ => by rw [show i + ((0 : Nat) : Int) = i by omega]
  | d + 1, h => by
    rw [show i + ((d + 1 : Nat) : Int) = (i + d) + 1 by omega, sI_s (by omega), sI_tail i0 d (fun j a b => h j a (by omega)), h (i + d) (by omega) (by omega), Int.add_zero]
def qd (W : Int → Int) (a b : Int) : Int := if a < b then iabs (W a - W b) else 0
theorem iabs_of {x : Int} (h1 : -2147483647 ≤ x) (h2 : x < 2147483648) : iabs x = if 0 ≤ x then x else -x := by
  unfold iabs
  split
  · rfl
  · rw [w32_of (by omega) (by omega)]; omega
theorem qd_bd (bd : DBd D) (sb : SBd' A) {x y : Int} (x0 : 0 ≤ x) (x1 : x < D 0) (y0 : 0 ≤ y) (y1 : y < D 0) : 0 ≤ qd (wA A D) x y ∧ qd (wA A D) x y ≤ 405 := by
  have a := wA_bd (A := A) bd sb x0 x1
  have b := wA_bd (A := A) bd sb y0 y1
  unfold qd
  split
  · rw [iabs_of (by omega) (by omega)]; split <;> omega
  · exact ⟨by decide, by decide⟩
def UP (W : Int → Int) (n : Int) : Int := sI (fun a => sI (fun b => qd W a b) n) n
def UQ (W : Int → Int) (n : Int) : Int := n * sI W n
theorem CW.unlike (c : CW O A a l D L) (sb : SBd' A) (u : Int) : PC (fX8_unlike A 68 u) (fun r => r = lsS (UP (wA A D) (D 0)) (UQ (wA A D) (D 0)) u) := by
  have bd := c.1.bd
  have b0 := bd.1
  have n0 := c.1.2.2.1.1
  have row : ∀ x, 0 ≤ x → x < D 0 → ∀ i, 0 ≤ i → i ≤ D 0 → 0 ≤ sI (fun b => qd (wA A D) x b) i ∧ sI (fun b => qd (wA A D) x b) i ≤ 2430 := fun x x0 x1 i i0 i1 => by
    have := sI_bd (f := fun b => qd (wA A D) x b) (lo := 0) (hi := 405) (i := i) (fun j p q => qd_bd bd sb x0 x1 p (by omega)) i0
    omega
  unfold fX8_unlike
  rw [c.2.2.1]
  refine PC.iter (fun s => (0 ≤ s.2.2 ∧ s.2.2 ≤ D 0) ∧ s.1 = sI (wA A D) s.2.2 ∧ s.2.1 = sI (fun a => sI (fun b => qd (wA A D) a b) (D 0)) s.2.2) ?_ _ _ ⟨⟨by decide, by (try dsimp only); omega⟩, rfl, rfl⟩
  rintro rec ⟨x, y, h⟩ ⟨⟨h0, h1⟩, hx, hy⟩ hrec
  simp only at h0 h1 hx hy ⊢
  have bx := sI_bd (f := wA A D) (lo := 0) (hi := 405) (i := h) (fun j p q => wA_bd bd sb p (by omega)) h0
  have by' := sI_bd (f := fun a => sI (fun b => qd (wA A D) a b) (D 0)) (lo := 0) (hi := 2430) (i := h) (fun j p q => row j p (by omega) _ (by omega) (by omega)) h0
  rw [← hx] at bx
  rw [← hy] at by'
  rw [n0]
  refine PC.guard (fun _ => PC.guard (fun _ => PC.ite (fun cc => PC.bind (c.wealthI sb h0 cc) (fun v hv => ?_)) (fun cc => ?_)))
  rotate_left
  · have eh : h = D 0 := by omega
    rw [eh] at hx hy bx
    have nn : 0 ≤ D 0 * x ∧ D 0 * x ≤ 6 * 2430 := mul_bd (by omega) b0.2 (by omega) (by omega)
    rw [w32_of (x := D 0 * x) (by omega) (by omega)]
    refine PC.bind (leastX_V (u := u) (by omega) (by omega) nn.1 (by omega) (fun z => ?_)) (fun r hr => PC.ok ?_)
    · have x0 : x = 0 := by
        rcases Int.mul_eq_zero.mp z with e | e
        · omega
        · exact e
      have w0 : ∀ j, 0 ≤ j → j < D 0 → wA A D j = 0 := fun j p q => by
        have i1 := sI_mem (f := wA A D) (n := D 0) (fun i a b => (wA_bd bd sb a b).1) p q
        have i2 := wA_bd (A := A) bd sb p q
        omega
      have := sI_bd (f := fun a => sI (fun b => qd (wA A D) a b) (D 0)) (lo := 0) (hi := 0) (i := D 0) (fun j p q => by
        have := sI_bd (f := fun b => qd (wA A D) j b) (lo := 0) (hi := 0) (i := D 0) (fun i a b => by
          (try dsimp only)
          unfold qd iabs
          rw [w0 i a b, w0 j p q]
          split
          · exact ⟨by decide, by decide⟩
          · exact ⟨by decide, by decide⟩) (by omega)
        omega) (by omega)
      omega
    · rw [hr, hx, hy]; rfl
  rw [hv, w32_of (x := h + 1) (by omega) (by omega)]
  have bw := wA_bd (A := A) bd sb h0 cc
  refine PC.iter (fun s => (h + 1 ≤ s.2 ∧ s.2 ≤ D 0) ∧ s.1 = y + sI (fun b => qd (wA A D) h b) s.2) ?_ _ _ ⟨⟨Int.le_refl _, by (try dsimp only); omega⟩, ?_⟩
  rotate_left
  · (try dsimp only)
    have := sI_bd (f := fun b => qd (wA A D) h b) (lo := 0) (hi := 0) (i := h + 1) (fun i a b => by
      (try dsimp only)
      unfold qd
      rw [if_neg (by omega)]
      exact ⟨by decide, by decide⟩) (by omega)
    omega
  rintro rec2 ⟨z, o⟩ ⟨⟨o0, o1⟩, hz⟩ hrec2
  simp only at o0 o1 hz ⊢
  have bz := row h h0 cc o (by omega) o1
  refine PC.ite (fun co => PC.bind (c.wealthI sb (by omega) co) (fun v' hv' => hrec2 _ ?_)) (fun co => hrec _ ?_)
  · have b1 := wA_bd (A := A) bd sb (h := o) (by omega) co
    have b2 := qd_bd (A := A) (D := D) bd sb h0 cc (y := o) (by omega) co
    have eq : iabs (wA A D h - wA A D o) = qd (wA A D) h o := by unfold qd; rw [if_pos (by omega)]
    (try dsimp only)
    rw [hv', w32_of (x := wA A D h - wA A D o) (by omega) (by omega), eq, w32_of (x := o + 1) (by omega) (by omega), w32_of (x := z + qd (wA A D) h o) (by omega) (by omega), sI_s (by omega), hz]
    exact ⟨⟨by omega, by omega⟩, by omega⟩
  · (try dsimp only)
    have eo : o = D 0 := by omega
    rw [w32_of (x := x + wA A D h) (by omega) (by omega), sI_s h0, sI_s h0, ← hx, ← hy, hz, eo]
    exact ⟨⟨by omega, by omega⟩, rfl, rfl⟩
theorem WB.unlike (w : WB O P a l k q D L A B) (u : Int) : PC (fX11_unlike B 85 u) (fun r => r = lsS (UP (wA A D) (D 0)) (UQ (wA A D) (D 0)) u) := by
  have bd := w.2.2.1.1
  have sb : SBd' A := w.2.2.2.2.2.2.2.2.2.2.2.2.2.2
  have b0 := bd.1
  have col : ∀ x, 0 ≤ x → x < D 0 → ∀ i, 0 ≤ i → i ≤ D 0 → 0 ≤ sI (fun o => qd (wA A D) o x) i ∧ sI (fun o => qd (wA A D) o x) i ≤ 2430 := fun x x0 x1 i i0 i1 => by
    have := sI_bd (f := fun o => qd (wA A D) o x) (lo := 0) (hi := 405) (i := i) (fun j p q => qd_bd bd sb p (by omega) x0 x1) i0
    omega
  have eU : UP (wA A D) (D 0) = sI (fun h => sI (fun o => qd (wA A D) o h) (D 0)) (D 0) := sI_swap2
  rw [eU]
  unfold fX11_unlike
  rw [w.2.1.1.2.2.1.2.1]
  refine PC.iter (fun s => (0 ≤ s.2.2 ∧ s.2.2 ≤ D 0) ∧ s.2.1 = sI (wA A D) s.2.2 ∧ s.1 = sI (fun h => sI (fun o => qd (wA A D) o h) (D 0)) s.2.2) ?_ _ _ ⟨⟨by decide, by (try dsimp only); omega⟩, rfl, rfl⟩
  rintro rec ⟨y, x, h⟩ ⟨⟨h0, h1⟩, hx, hy⟩ hrec
  simp only at h0 h1 hx hy ⊢
  have bx := sI_bd (f := wA A D) (lo := 0) (hi := 405) (i := h) (fun j p q => wA_bd bd sb p (by omega)) h0
  have by' := sI_bd (f := fun h => sI (fun o => qd (wA A D) o h) (D 0)) (lo := 0) (hi := 2430) (i := h) (fun j p q => col j p (by omega) _ (by omega) (by omega)) h0
  rw [← hx] at bx
  rw [← hy] at by'
  refine PC.guard (fun _ => PC.ite (fun cc => PC.bind (w.wealth h0 cc) (fun v hv => ?_)) (fun cc => ?_))
  rotate_left
  · have eh : h = D 0 := by omega
    rw [eh] at hx hy bx
    have nn : 0 ≤ D 0 * x ∧ D 0 * x ≤ 6 * 2430 := mul_bd (by omega) b0.2 (by omega) (by omega)
    rw [w32_of (x := D 0 * x) (by omega) (by omega)]
    refine PC.bind (leastY_V (u := u) (by omega) (by omega) nn.1 (by omega)) (fun r hr => PC.ok ?_)
    rw [hr, hx, hy]; rfl
  rw [hv, w32_of (x := h + 1) (by omega) (by omega)]
  have bw := wA_bd (A := A) bd sb h0 cc
  refine PC.iter (fun s => (0 ≤ s.2 ∧ s.2 ≤ h) ∧ s.1 = y + sI (fun o => qd (wA A D) o h) s.2) ?_ _ _ ⟨⟨by (try dsimp only); omega, h0⟩, by (try dsimp only); rw [sI_0, Int.add_zero]⟩
  rintro rec2 ⟨z, o⟩ ⟨⟨o0, o1⟩, hz⟩ hrec2
  simp only at o0 o1 hz ⊢
  have bz := col h h0 cc o o0 (by omega)
  refine PC.ite (fun co => PC.bind (w.wealth h0 cc) (fun p hp => PC.bind (w.wealth o0 (by omega)) (fun v' hv' => ?_))) (fun co => hrec _ ?_)
  · have b1 := wA_bd (A := A) bd sb (h := o) o0 (by omega)
    have b2 := qd_bd (A := A) (D := D) bd sb (x := o) (y := h) o0 (by omega) h0 cc
    rw [hp, hv', w32_of (x := wA A D h - wA A D o) (by omega) (by omega)]
    refine PC.bind (P := fun r => r = qd (wA A D) o h) ?_ (fun r hr => hrec2 _ ?_)
    · unfold fX11_size qd
      rw [if_pos (show o < h from co), iabs_of (by omega) (by omega)]
      refine PC.ite (fun d => PC.ok ?_) (fun d => PC.ok ?_)
      · rw [w32_of (by omega) (by omega)]
        split <;> omega
      · split <;> omega
    · (try dsimp only)
      rw [hr, w32_of (x := o + 1) (by omega) (by omega), w32_of (x := z + qd (wA A D) o h) (by omega) (by omega), sI_s o0, hz]
      exact ⟨⟨by omega, by omega⟩, by omega⟩
  · (try dsimp only)
    have eo : o = h := by omega
    have et : sI (fun o => qd (wA A D) o h) (D 0) = sI (fun o => qd (wA A D) o h) h := by
      have := sI_tail (f := fun o => qd (wA A D) o h) h0 (D 0 - h).toNat (fun j p q => by (try dsimp only); unfold qd; rw [if_neg (by omega)])
      rw [show h + (((D 0 - h).toNat : Nat) : Int) = D 0 by omega] at this
      exact this
    rw [w32_of (x := x + wA A D h) (by omega) (by omega), sI_s h0, sI_s h0, ← hx, ← hy, hz, eo, et]
    exact ⟨⟨by omega, by omega⟩, rfl, rfl⟩
end Rich
