/-! aid -/
section Aid
variable {M N : Mem} {D : Int → Int} {f g : Int → Int} {F : Int → Int}
theorem sm_upd {i : Int} (i0 : 0 ≤ i) (h : ∀ j : Int, 0 ≤ j → j ≠ i → f j = g j) : ∀ n : Nat, sm f n = sm g n + (if i < n then f i - g i else 0)
  | 0 => by rw [if_neg (by omega)]; rfl
  | n + 1 => by
    show sm f n + f (n : Int) = (sm g n + g (n : Int)) + _
    rw [sm_upd i0 h n]
    by_cases e : i = (n : Int)
    · rw [if_neg (by omega), if_pos (by omega), e]; omega
    · rw [h (n : Int) (by omega) (fun z => e z.symm)]
      by_cases c : i < (n : Int)
      · rw [if_pos c, if_pos (by omega)]; omega
      · rw [if_neg c, if_neg (by omega)]; omega
theorem sm_add : ∀ n : Nat, sm (fun j => f j + g j) n = sm f n + sm g n
  | 0 => rfl
  | n + 1 => by
    show sm (fun j => f j + g j) n + (f (n : Int) + g (n : Int)) = (sm f n + f (n : Int)) + (sm g n + g (n : Int))
    rw [sm_add n]; omega
theorem sm_zero : ∀ n : Nat, sm (fun _ => 0) n = 0
  | 0 => rfl
  | n + 1 => by
    show sm (fun _ => 0) n + 0 = 0
    rw [sm_zero n]; rfl
theorem sm_swap {G : Int → Int → Int} (m : Nat) : ∀ n : Nat, sm (fun h => sm (fun k => G h k) m) n = sm (fun k => sm (fun h => G h k) n) m
  | 0 => (sm_zero m).symm
  | n + 1 => by
    show sm (fun h => sm (fun k => G h k) m) n + sm (fun k => G (n : Int) k) m = sm (fun k => sm (fun h => G h k) n + G (n : Int) k) m
    rw [sm_add, sm_swap m n]
/-- F of the houses ahead of the i-th one watched w times -/
def prS (D F : Int → Int) (w i : Int) : Int := sI (fun h => if D (62 + h) < w ∨ (D (62 + h) = w ∧ h < i) then F h else 0) (D 0)
theorem prS_step {w i : Int} (i0 : 0 ≤ i) (i1 : i < D 0) : prS D F w (i + 1) = prS D F w i + (if D (62 + i) = w then F i else 0) := by
  unfold prS sI
  rw [sm_upd (i := i) i0 (f := fun h => if D (62 + h) < w ∨ (D (62 + h) = w ∧ h < i + 1) then F h else 0) (g := fun h => if D (62 + h) < w ∨ (D (62 + h) = w ∧ h < i) then F h else 0) (fun j j0 ne => ?_), if_pos (by omega)]
  · congr 1
    (try dsimp only)
    by_cases c : D (62 + i) = w
    · rw [if_pos (Or.inr ⟨c, by omega⟩), if_neg (by omega), if_pos c]; omega
    · rw [if_neg c]
      by_cases c' : D (62 + i) < w
      · rw [if_pos (Or.inl c'), if_pos (Or.inl c')]; omega
      · rw [if_neg (by omega), if_neg (by omega)]; rfl
  · (try dsimp only)
    by_cases c : D (62 + j) < w ∨ (D (62 + j) = w ∧ j < i)
    · rw [if_pos c, if_pos (by omega)]
    · rw [if_neg c, if_neg (by omega)]
theorem prS_next {w : Int} : prS D F w (D 0) = prS D F (w + 1) 0 := by
  unfold prS
  refine sI_cong (fun j p q => ?_)
  by_cases c : D (62 + j) < w ∨ (D (62 + j) = w ∧ j < D 0)
  · rw [if_pos c, if_pos (by omega)]
  · rw [if_neg c, if_neg (by omega)]
theorem prS_0 (bd : DBd D) : prS D F 0 0 = 0 := by
  have b := bd.1
  unfold prS
  rw [sI_cong (g := fun _ => 0) (fun j p q => by have := (bd.2.2.2.1 j p (by omega)).1; rw [if_neg (by omega)])]
  exact sm_zero _
theorem prS_10 (bd : DBd D) : prS D F 10 0 = sI F (D 0) := by
  have b := bd.1
  unfold prS
  exact sI_cong (fun j p q => by have := (bd.2.2.2.1 j p (by omega)).1; rw [if_pos (by omega)])
theorem prS_bd {lo hi w i : Int} (b0 : 0 ≤ D 0) (l0 : lo ≤ 0) (h0 : 0 ≤ hi) (h : ∀ j, 0 ≤ j → j < D 0 → lo ≤ F j ∧ F j ≤ hi) : lo * D 0 ≤ prS D F w i ∧ prS D F w i ≤ hi * D 0 := by
  unfold prS
  exact sI_bd (fun j p q => by (try dsimp only); split; exact h j p q; exact ⟨l0, h0⟩) b0
def lkA (D : Int → Int) (g : Int) : Int := sI (fun h => lkS D h g) (D 0)
def spA (D : Int → Int) (g : Int) : Int := sI (fun h => spS D h g) (D 0)
/-- how many of a good are taken from a house -/
def tkS (D : Int → Int) (g h : Int) : Int := imax 0 (imin (lkA D g - prS D (fun h => spS D h g) (D (62 + h)) h) (spS D h g))
theorem sp_bd (bd : DBd D) {h g : Int} (h0 : 0 ≤ h) (h1 : h < 6) (g0 : 0 ≤ g) (g1 : g < 5) : (0 ≤ spS D h g ∧ spS D h g ≤ 9) ∧ (0 ≤ lkS D h g ∧ lkS D h g ≤ 9) := by
  have b := bd.2.2.1 (5 * h + g) (by omega) (by omega)
  unfold spS lkS imax
  constructor
  · split <;> omega
  · split <;> omega
theorem tk_bd (bd : DBd D) {h g : Int} (h0 : 0 ≤ h) (h1 : h < 6) (g0 : 0 ≤ g) (g1 : g < 5) : 0 ≤ tkS D g h ∧ tkS D g h ≤ 9 := by
  have b := (sp_bd bd h0 h1 g0 g1).1
  unfold tkS imax imin
  split
  · split <;> omega
  · omega
theorem lkA_bd (bd : DBd D) {g i : Int} (g0 : 0 ≤ g) (g1 : g < 5) (i0 : 0 ≤ i) (i1 : i ≤ 6) : (0 ≤ sI (fun h => lkS D h g) i ∧ sI (fun h => lkS D h g) i ≤ 54) ∧ 0 ≤ sI (fun h => spS D h g) i ∧ sI (fun h => spS D h g) i ≤ 54 := by
  have a := sI_bd (f := fun h => lkS D h g) (lo := 0) (hi := 9) (i := i) (fun j p q => (sp_bd bd p (by omega) g0 g1).2) i0
  have b := sI_bd (f := fun h => spS D h g) (lo := 0) (hi := 9) (i := i) (fun j p q => (sp_bd bd p (by omega) g0 g1).1) i0
  omega
theorem TD.lackAll {a g : Int} (d : TD M a D) (g0 : 0 ≤ g) (g1 : g < 5) : PC (fX7_lackOfAll M a g) (fun r => r = lkA D g) := by
  have bd := d.bd
  have b := bd.1
  have e0 := d.2.2.1.1
  unfold fX7_lackOfAll lkA
  rw [e0]
  refine PC.iter (fun s => (0 ≤ s.2 ∧ s.2 ≤ D 0) ∧ s.1 = sI (fun h => lkS D h g) s.2) ?_ _ _ ⟨⟨by (try dsimp only); omega, by (try dsimp only); omega⟩, rfl⟩
  rintro rec ⟨x, i⟩ ⟨⟨i0, i1⟩, hx⟩ hrec
  simp only at i0 i1 hx ⊢
  have q := lkA_bd bd g0 g1 i0 (by omega)
  rw [← hx] at q
  refine PC.guard (fun _ => PC.ite (fun c => ?_) (fun c => PC.ok (by rw [hx, show i = D 0 by omega])))
  have wi : w32 (i + 1) = i + 1 := w32_of (by omega) (by omega)
  have p := (sp_bd bd i0 (show i < 6 by omega) g0 g1).2
  rw [d.lack i0 (by omega) g0 g1]
  refine PC.bindE rfl (hrec _ ⟨⟨by (try dsimp only); omega, by (try dsimp only); omega⟩, ?_⟩)
  show w32 (x + lkS D i g) = sI _ (w32 (i + 1))
  rw [wi, sI_s i0, ← hx, w32_of (by omega) (by omega)]
theorem TD.spareAll {a g : Int} (d : TD M a D) (g0 : 0 ≤ g) (g1 : g < 5) : PC (fX7_spareOfAll M a g) (fun r => r = spA D g) := by
  have bd := d.bd
  have b := bd.1
  have e0 := d.2.2.1.1
  unfold fX7_spareOfAll spA
  rw [e0]
  refine PC.iter (fun s => (0 ≤ s.2 ∧ s.2 ≤ D 0) ∧ s.1 = sI (fun h => spS D h g) s.2) ?_ _ _ ⟨⟨by (try dsimp only); omega, by (try dsimp only); omega⟩, rfl⟩
  rintro rec ⟨x, i⟩ ⟨⟨i0, i1⟩, hx⟩ hrec
  simp only at i0 i1 hx ⊢
  have q := lkA_bd bd g0 g1 i0 (by omega)
  rw [← hx] at q
  refine PC.guard (fun _ => PC.ite (fun c => ?_) (fun c => PC.ok (by rw [hx, show i = D 0 by omega])))
  have wi : w32 (i + 1) = i + 1 := w32_of (by omega) (by omega)
  have p := (sp_bd bd i0 (show i < 6 by omega) g0 g1).1
  rw [d.spare i0 (by omega) g0 g1]
  refine PC.bindE rfl (hrec _ ⟨⟨by (try dsimp only); omega, by (try dsimp only); omega⟩, ?_⟩)
  show w32 (x + spS D i g) = sI _ (w32 (i + 1))
  rw [wi, sI_s i0, ← hx, w32_of (by omega) (by omega)]
theorem TD.takenFrom {a h g : Int} (d : TD M a D) (h0 : 0 ≤ h) (h1 : h < 6) (g0 : 0 ≤ g) (g1 : g < 5) : PC (fX5_takenFrom M a h g) (fun r => r = tkS D g h) := by
  have bd := d.bd
  have b := bd.1
  have d' := d
  obtain ⟨hT, ha, ⟨e0, _⟩, _, e3, _⟩ := d
  have lb := (lkA_bd bd g0 g1 (show 0 ≤ D 0 by omega) b.2).1
  unfold fX5_takenFrom
  rw [e0, tp4_ hT ha]
  refine PC.guard (fun _ => PC.bind (d'.lackAll g0 g1) (fun r q => ?_))
  subst q
  refine PC.iter (fun s => (0 ≤ s.2 ∧ s.2 ≤ D 0) ∧ s.1 = lkA D g - sI (fun j => if D (62 + j) < D (62 + h) ∨ (D (62 + j) = D (62 + h) ∧ j < h) then spS D j g else 0) s.2) ?_ _ _ ⟨⟨by (try dsimp only); omega, by (try dsimp only); omega⟩, by show lkA D g = lkA D g - 0; omega⟩
  rintro rec ⟨x, i⟩ ⟨⟨i0, i1⟩, hx⟩ hrec
  simp only at i0 i1 hx ⊢
  refine PC.ite (fun c => ?_) (fun c => ?_)
  rotate_left
  · rw [d'.spare h0 h1 g0 g1]
    refine PC.bindE rfl (PC.ok ?_)
    rw [hx, show i = D 0 by omega]; rfl
  have wi : w32 (i + 1) = i + 1 := w32_of (by omega) (by omega)
  have p := (sp_bd bd i0 (show i < 6 by omega) g0 g1).1
  have sb := sI_bd (f := fun j => if D (62 + j) < D (62 + h) ∨ (D (62 + j) = D (62 + h) ∧ j < h) then spS D j g else 0) (lo := 0) (hi := 9) (i := i) (fun j p q => by (try dsimp only); split; exact (sp_bd bd p (by omega) g0 g1).1; exact ⟨by decide, by decide⟩) i0
  have ss := sI_s (f := fun j => if D (62 + j) < D (62 + h) ∨ (D (62 + j) = D (62 + h) ∧ j < h) then spS D j g else 0) i0
  have lA : 0 ≤ lkA D g ∧ lkA D g ≤ 54 := lb
  rw [(e3 i i0 (by omega)).1, (e3 h h0 h1).1, d'.spare i0 (by omega) g0 g1]
  have no : ¬(D (62 + i) < D (62 + h) ∨ (D (62 + i) = D (62 + h) ∧ i < h)) → PC (rec (x, w32 (i + 1))) (fun r => r = tkS D g h) := fun z => hrec _ ⟨⟨by (try dsimp only); omega, by (try dsimp only); omega⟩, by
    show x = _
    rw [wi, ss, if_neg z, hx]; omega⟩
  have yes : (D (62 + i) < D (62 + h) ∨ (D (62 + i) = D (62 + h) ∧ i < h)) → PC (rec (w32 (x - spS D i g), w32 (i + 1))) (fun r => r = tkS D g h) := fun z => hrec _ ⟨⟨by (try dsimp only); omega, by (try dsimp only); omega⟩, by
    show w32 (x - spS D i g) = _
    rw [wi, ss, if_pos z, w32_of (by omega) (by omega)]; omega⟩
  refine PC.guard (fun _ => PC.guard (fun _ => PC.jI (PC.jI (PC.ite (fun z => PC.neg n10 (PC.bindE rfl (yes (Or.inl z)))) (fun z => PC.guard (fun _ => PC.guard (fun _ => PC.jI (PC.ite (fun z' => PC.ite (fun z2 => PC.neg n10 (PC.bindE rfl (yes (Or.inr ⟨z', z2⟩)))) (fun z2 => PC.pos rfl (no (by omega)))) (fun z' => PC.pos rfl (no (by omega)))))))))))
/-- all of all goods -/
def tkA (D : Int → Int) (F : Int → Int → Int) : Int := sI (fun h => sI (fun g => F g h) 5) (D 0)
theorem tkA_swap (F : Int → Int → Int) : tkA D F = sI (fun g => sI (F g) (D 0)) 5 := sm_swap (G := fun h g => F g h) 5 (D 0).toNat
def ltA (D : Int → Int) : Int := sI (fun t => D (84 + t)) (D 1)
theorem lt_bd (bd : DBd D) {i : Int} (i0 : 0 ≤ i) (i1 : i ≤ 4) : 0 ≤ sI (fun t => D (84 + t)) i ∧ sI (fun t => D (84 + t)) i ≤ 36 := by
  have := sI_bd (f := fun t => D (84 + t)) (lo := 0) (hi := 9) (i := i) (fun j p q => (bd.2.2.2.2.2 j p (by omega)).1) i0
  omega
theorem TD.limitAll {a : Int} (d : TD M a D) : PC (fX7_limitOfAll M a) (fun r => r = ltA D) := by
  have bd := d.bd
  have b := bd.2.1
  obtain ⟨hT, ha, ⟨_, e1⟩, _, _, _, e5⟩ := d
  unfold fX7_limitOfAll ltA
  rw [e1, tp8_ hT ha]
  refine PC.iter (fun s => (0 ≤ s.2 ∧ s.2 ≤ D 1) ∧ s.1 = sI (fun t => D (84 + t)) s.2) ?_ _ _ ⟨⟨by decide, b.1⟩, rfl⟩
  rintro rec ⟨x, i⟩ ⟨⟨i0, i1⟩, hx⟩ hrec
  simp only at i0 i1 hx ⊢
  have lb := lt_bd bd i0 (by omega)
  rw [← hx] at lb
  refine PC.guard (fun _ => PC.ite (fun c => PC.guard (fun _ => ?_)) (fun c => PC.ok (by rw [hx, show i = D 1 by omega])))
  have wi : w32 (i + 1) = i + 1 := w32_of (by omega) (by omega)
  have lim := (bd.2.2.2.2.2 i i0 (by omega)).1
  refine hrec _ ⟨⟨by (try dsimp only); omega, by (try dsimp only); omega⟩, ?_⟩
  show w32 (x + M.1 (a + 7) i) = sI _ (w32 (i + 1))
  rw [wi, sI_s i0, ← hx, (e5 i i0 (by omega)).1, w32_of (by omega) (by omega)]
/-- nights for n things -/
def ngS (n l : Int) : Int := if n = 0 then 0 else if l = 0 then -1 else (n + l - 1) / l
def aiS (D : Int → Int) (x : Int) : Int := if x = 0 then tkA D (fun g h => tkS D g h * D (62 + h)) else if x = 1 then tkA D (tkS D) else if x = 2 then ngS (tkA D (tkS D)) (ltA D) else tkS D ((x - 10) % 5) ((x - 10) / 5)
theorem ngX {n l : Int} (n0 : 0 ≤ n) (n1 : n ≤ 1000000) (l0 : 0 ≤ l) (l1 : l ≤ 36) : PC (fX5_nightsFor M n l) (fun r => r = ngS n l) := by
  unfold fX5_nightsFor ngS
  refine PC.ite (fun c => PC.ok (by rw [if_pos c])) (fun c => PC.ite (fun c1 => PC.guard (fun _ => PC.ok ?_)) (fun c1 => PC.ok (by rw [if_neg c, if_pos (by omega)])))
  have q1 := Int.ediv_nonneg (show 0 ≤ n + l - 1 by omega) l0
  have q2 := Int.ediv_le_self l (show 0 ≤ n + l - 1 by omega)
  rw [if_neg c, if_neg (by omega), w32_of (x := n + l) (by omega) (by omega), w32_of (x := n + l - 1) (by omega) (by omega), Int.tdiv_eq_ediv_of_nonneg (by omega), w32_of (by omega) (by omega)]
theorem tkW_bd (bd : DBd D) {h g : Int} (h0 : 0 ≤ h) (h1 : h < 6) (g0 : 0 ≤ g) (g1 : g < 5) : 0 ≤ tkS D g h * D (62 + h) ∧ tkS D g h * D (62 + h) ≤ 81 := by
  have t := tk_bd bd h0 h1 g0 g1
  have w := (bd.2.2.2.1 h h0 h1).1
  have := mul_bd t.1 t.2 w.1 w.2
  omega
theorem TD.answer {a x : Int} (d : TD M a D) (hx : (0 ≤ x ∧ x ≤ 2) ∨ (10 ≤ x ∧ x < 10 + 5 * D 0)) : PC (fX5_answer M a x) (fun r => r = aiS D x) := by
  have bd := d.bd
  have b := bd.1
  have d' := d
  obtain ⟨hT, ha, ⟨e0, _⟩, _, e3, _⟩ := d
  unfold fX5_answer
  rw [e0, tp4_ hT ha]
  refine PC.ite (fun c => ?_) (fun c => ?_)
  rotate_left
  · rw [w32_of (x := x - 10) (by omega) (by omega), Int.tdiv_eq_ediv_of_nonneg (by omega), Int.tmod_eq_emod_of_nonneg (by omega), w32_of (by omega) (by omega)]
    refine PC.bind (d'.takenFrom (by omega) (by omega) (by omega) (by omega)) (fun r q => PC.ok ?_)
    rw [q]; unfold aiS
    rw [if_neg (by omega), if_neg (by omega), if_neg (by omega)]
  refine PC.iter (fun s => (0 ≤ s.2.2 ∧ s.2.2 ≤ D 0) ∧ s.1 = sI (fun h => sI (fun g => tkS D g h) 5) s.2.2 ∧ s.2.1 = sI (fun h => sI (fun g => tkS D g h * D (62 + h)) 5) s.2.2) ?_ _ _ ⟨⟨by (try dsimp only); omega, by (try dsimp only); omega⟩, rfl, rfl⟩
  rintro rec ⟨n, v, h⟩ ⟨⟨h0, h1⟩, hn, hv⟩ hrec
  simp only at h0 h1 hn hv ⊢
  have n1 : ∀ j, 0 ≤ j → j < 6 → ∀ i, 0 ≤ i → i ≤ 5 → (0 ≤ sI (fun g => tkS D g j) i ∧ sI (fun g => tkS D g j) i ≤ 45) ∧ (0 ≤ sI (fun g => tkS D g j * D (62 + j)) i ∧ sI (fun g => tkS D g j * D (62 + j)) i ≤ 405) := by
    intro j j0 j1 i i0 i1
    have p := sI_bd (f := fun g => tkS D g j) (lo := 0) (hi := 9) (i := i) (fun k a b => tk_bd bd j0 j1 a (by omega)) i0
    have q := sI_bd (f := fun g => tkS D g j * D (62 + j)) (lo := 0) (hi := 81) (i := i) (fun k a b => tkW_bd bd j0 j1 a (by omega)) i0
    omega
  have p := sI_bd (f := fun h => sI (fun g => tkS D g h) 5) (lo := 0) (hi := 45) (i := h) (fun k a b => (n1 k a (by omega) 5 (by decide) (by decide)).1) h0
  have q := sI_bd (f := fun h => sI (fun g => tkS D g h * D (62 + h)) 5) (lo := 0) (hi := 405) (i := h) (fun k a b => (n1 k a (by omega) 5 (by decide) (by decide)).2) h0
  rw [← hn] at p
  rw [← hv] at q
  refine PC.guard (fun _ => PC.ite (fun c1 => ?_) (fun c1 => ?_))
  · have wb := (bd.2.2.2.1 h h0 (by omega)).1
    refine PC.iter (fun s => (0 ≤ s.2.2 ∧ s.2.2 ≤ 5) ∧ s.1 = n + sI (fun g => tkS D g h) s.2.2 ∧ s.2.1 = v + sI (fun g => tkS D g h * D (62 + h)) s.2.2) ?_ _ _ ⟨⟨by (try dsimp only); omega, by (try dsimp only); omega⟩, by show n = n + 0; omega, by show v = v + 0; omega⟩
    rintro rec2 ⟨n', v', g⟩ ⟨⟨g0, g1⟩, hn', hv'⟩ hrec2
    simp only at g0 g1 hn' hv' ⊢
    have k1 := n1 h h0 (by omega) g g0 g1
    refine PC.ite (fun c2 => PC.bind (d'.takenFrom h0 (by omega) g0 c2) (fun r z => PC.guard (fun _ => ?_))) (fun c2 => ?_)
    · subst z
      have t := tk_bd bd h0 (show h < 6 by omega) g0 c2
      have tw := tkW_bd bd h0 (show h < 6 by omega) g0 c2
      have wg : w32 (g + 1) = g + 1 := w32_of (by omega) (by omega)
      have s1 : sI (fun g => tkS D g h) (g + 1) = sI (fun g => tkS D g h) g + tkS D g h := sI_s g0
      have s2 : sI (fun g => tkS D g h * D (62 + h)) (g + 1) = sI (fun g => tkS D g h * D (62 + h)) g + tkS D g h * D (62 + h) := sI_s g0
      refine hrec2 _ ⟨⟨by (try dsimp only); omega, by (try dsimp only); omega⟩, ?_, ?_⟩
      · show w32 (n' + tkS D g h) = n + sI _ (w32 (g + 1))
        rw [wg, s1, w32_of (by omega) (by omega)]; omega
      · show w32 (v' + w32 (tkS D g h * M.1 (a + 3) h)) = v + sI _ (w32 (g + 1))
        rw [wg, s2, (e3 h h0 (by omega)).1, w32_of (x := tkS D g h * D (62 + h)) (by omega) (by omega), w32_of (by omega) (by omega)]; omega
    · have eg : g = 5 := by omega
      subst eg
      have wh : w32 (h + 1) = h + 1 := w32_of (by omega) (by omega)
      refine hrec _ ⟨⟨by (try dsimp only); omega, by (try dsimp only); omega⟩, ?_, ?_⟩
      · show n' = sI _ (w32 (h + 1))
        rw [wh, sI_s h0, ← hn]; exact hn'
      · show v' = sI _ (w32 (h + 1))
        rw [wh, sI_s h0, ← hv]; exact hv'
  · have eh : h = D 0 := by omega
    unfold aiS
    rw [eh] at hn hv
    have hn' : n = tkA D (tkS D) := hn
    have hv' : v = tkA D (fun g h => tkS D g h * D (62 + h)) := hv
    have lb := lt_bd bd bd.2.1.1 bd.2.1.2
    refine PC.ite (fun z => PC.ok (by rw [if_pos z]; exact hv')) (fun z => PC.ite (fun z' => PC.ok (by rw [if_neg z, if_pos z']; exact hn')) (fun z' => PC.bind d'.limitAll (fun r q => ?_)))
    subst q
    refine PC.bind (ngX (by omega) (by omega) lb.1 lb.2) (fun r q => PC.ok ?_)
    rw [if_neg z, if_neg z', if_pos (by omega), ← hn', q]
end Aid
