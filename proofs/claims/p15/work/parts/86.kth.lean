/-! the k-th couple: rest, pairs -/
def al (f : Int → Bool) : Nat → Bool
  | 0 => true
  | n + 1 => al f n && f (n : Int)
theorem al_iff {f : Int → Bool} {n : Nat} : al f n = true ↔ ∀ j : Int, 0 ≤ j → j < n → f j = true := by
  induction n with
  | zero => exact ⟨fun _ j p q => by omega, fun _ => rfl⟩
  | succ m ih =>
    show (al f m && f (m : Int)) = true ↔ _
    rw [Bool.and_eq_true, ih]
    constructor
    · rintro ⟨h1, h2⟩ j p q
      by_cases e : j = (m : Int)
      · rw [e]; exact h2
      · exact h1 j p (by omega)
    · intro h
      exact ⟨fun j p q => h j p (by omega), h (m : Int) (by omega) (by omega)⟩
/-- how many of the first i have P -/
def cn (P : Int → Bool) (i : Int) : Int := sI (fun c => if P c = true then 1 else 0) i
section Kth
variable {P : Int → Bool} {k : Int}
theorem cn_0 : cn P 0 = 0 := rfl
theorem cn_t {i : Int} (h : 0 ≤ i) (p : P i = true) : cn P (i + 1) = cn P i + 1 := by unfold cn; rw [sI_s h, if_pos p]
theorem cn_f {i : Int} (h : 0 ≤ i) (p : P i = false) : cn P (i + 1) = cn P i := by unfold cn; rw [sI_s h, if_neg (by rw [p]; decide), Int.add_zero]
theorem cn_bd {i : Int} (h : 0 ≤ i) : 0 ≤ cn P i ∧ cn P i ≤ i := by
  have := sI_bd (f := fun c => if P c = true then (1 : Int) else 0) (lo := 0) (hi := 1) (i := i) (fun j _ _ => by (try dsimp only); split <;> decide) h
  unfold cn
  omega
theorem cn_mono {i : Int} (h : 0 ≤ i) : ∀ n : Nat, cn P i ≤ cn P (i + n)
  | 0 => by rw [show i + ((0 : Nat) : Int) = i by omega]; exact Int.le_refl _
  | n + 1 => by
    have a := cn_mono h n
    rw [show i + ((n + 1 : Nat) : Int) = (i + (n : Int)) + 1 by omega]
    cases e : P (i + (n : Int)) with
    | true => rw [cn_t (by omega) e]; omega
    | false => rw [cn_f (by omega) e]; exact a
theorem cn_le {i j : Int} (h : 0 ≤ i) (hj : i ≤ j) : cn P i ≤ cn P j := by
  have := cn_mono (P := P) h (j - i).toNat
  rw [show i + (((j - i).toNat : Nat) : Int) = j by omega] at this
  exact this
theorem cn_flat {i : Int} (h : 0 ≤ i) : ∀ n : Nat, (∀ c, i ≤ c → c < i + n → P c = false) → cn P (i + n) = cn P i
  | 0, _ => by rw [show i + ((0 : Nat) : Int) = i by omega]
  | n + 1, hf => by
    rw [show i + ((n + 1 : Nat) : Int) = (i + (n : Int)) + 1 by omega, cn_f (by omega) (hf _ (by omega) (by omega))]
    exact cn_flat h n (fun c p q => hf c p (by omega))
theorem cn_eq {i j : Int} (h : 0 ≤ i) (hj : i ≤ j) (hf : ∀ c, i ≤ c → c < j → P c = false) : cn P j = cn P i := by
  have := cn_flat (P := P) h (j - i).toNat (fun c p q => hf c p (by omega))
  rw [show i + (((j - i).toNat : Nat) : Int) = j by omega] at this
  exact this
/-- r is the k-th that has P of the first 36; k -1: how many -/
def KTH (P : Int → Bool) (k r : Int) : Prop := ((0 ≤ r ∧ r < 36) ∧ P r = true ∧ cn P r = k) ∨ ((k < 0 ∨ cn P 36 ≤ k) ∧ r = if k = -1 then cn P 36 else -1)
theorem KTH.uniq {r s : Int} (h : KTH P k r) (g : KTH P k s) : r = s := by
  rcases h with ⟨⟨r0, r1⟩, r2, r3⟩ | ⟨r1, r2⟩
  · have a0 := (cn_bd (P := P) r0).1
    have a := cn_t r0 r2
    have a2 := cn_le (P := P) (show 0 ≤ r + 1 by omega) (show r + 1 ≤ 36 by omega)
    rcases g with ⟨⟨s0, s1⟩, s2, s3⟩ | ⟨s1, s2⟩
    · have b := cn_t s0 s2
      rcases Int.lt_trichotomy r s with c | c | c
      · have := cn_le (P := P) (show 0 ≤ r + 1 by omega) (show r + 1 ≤ s by omega); omega
      · exact c
      · have := cn_le (P := P) (show 0 ≤ s + 1 by omega) (show s + 1 ≤ r by omega); omega
    · omega
  · rcases g with ⟨⟨s0, s1⟩, s2, s3⟩ | ⟨s1, s2⟩
    · have b0 := (cn_bd (P := P) s0).1
      have b := cn_t s0 s2
      have b2 := cn_le (P := P) (show 0 ≤ s + 1 by omega) (show s + 1 ≤ 36 by omega)
      omega
    · rw [r2, s2]
end Kth
section Nest
variable {M N : Mem} {D : Int → Int} {a n k : Int} {p : Int → Int → Bool}
/-- both of p -/
def pq (n : Int) (q : Int → Int → Bool) (c : Int) : Bool := decide (c / 6 < n) && (decide (c % 6 < n) && q (c / 6) (c % 6))
theorem pq_at {q : Int → Int → Bool} {x y : Int} (x0 : 0 ≤ x) (x1 : x < n) (y0 : 0 ≤ y) (y1 : y < n) (n6 : n ≤ 6) : pq n q (6 * x + y) = q x y := by
  unfold pq
  rw [show (6 * x + y) / 6 = x by omega, show (6 * x + y) % 6 = y by omega, decide_eq_true x1, decide_eq_true y1]; rfl
theorem pq_out {q : Int → Int → Bool} {c : Int} (h : n ≤ c / 6 ∨ n ≤ c % 6) : pq n q c = false := by
  unfold pq
  rcases h with h | h
  · rw [decide_eq_false (by omega)]; rfl
  · rw [show decide (c % 6 < n) = false from decide_eq_false (by omega), Bool.false_and, Bool.and_false]
theorem pq_no {q : Int → Int → Bool} {c : Int} (h : q (c / 6) (c % 6) = false) : pq n q c = false := by
  unfold pq
  rw [h, Bool.and_false, Bool.and_false]
theorem nest_V {F : Int → Int → Option Int} (st : Int → Int) (hn : M.1 a 0 = n) (n1 : 1 ≤ n) (n6 : n ≤ 6) {q : Int → Int → Bool} (hst : ∀ x, 0 ≤ x → x < n → 0 ≤ st x ∧ st x ≤ n ∧ (∀ y, 0 ≤ y → y < st x → q x y = false) ∧ ∀ y, st x ≤ y → y < n → q x y = (p x y && p y x)) (hF : ∀ x y, 0 ≤ x → x < n → 0 ≤ y → y < n → PC (F x y) (fun r => (r = 1 ∧ p x y = true) ∨ (r = 0 ∧ p x y = false))) :
    PC (iterC (fun (rec1 : (Int × Int) → Option Int) (s2 : Int × Int) => if M.2.1 a = 7 then if s2.2 < M.1 a 0 then (iterC (fun (rec5 : (Int × Int) → Option Int) (s6 : Int × Int) => if s6.2 < M.1 a 0 then ((F s2.2 s6.2).bind fun r8 => if r8 = 0 then (rec5 (s6.1, w32 (s6.2 + 1))) else ((F s6.2 s2.2).bind fun r11 => if r11 = 0 then (rec5 (s6.1, w32 (s6.2 + 1))) else (if s6.1 = k then (some (w32 ((w32 (6 * s2.2)) + s6.2))) else (rec5 (w32 (s6.1 + 1), w32 (s6.2 + 1)))))) else (rec1 (s6.1, w32 (s2.2 + 1)))) BIG (s2.1, st s2.2)) else (if k = (-1) then (some s2.1) else (some (-1))) else none) BIG (0, 0)) (fun r => KTH (pq n q) k r) := by
  refine PC.iter (fun s => (0 ≤ s.2 ∧ s.2 ≤ n) ∧ s.1 = cn (pq n q) (6 * s.2) ∧ (k < 0 ∨ s.1 ≤ k)) ?_ _ _ ⟨⟨by decide, by (try dsimp only); omega⟩, rfl, by (try dsimp only); omega⟩
  rintro rec ⟨f, x⟩ ⟨⟨x0, x1⟩, hf, hk⟩ hrec
  simp only at x0 x1 hf hk ⊢
  rw [hn]
  refine PC.guard (fun _ => PC.ite (fun c => ?_) (fun c => ?_))
  rotate_left
  · have e : cn (pq n q) 36 = cn (pq n q) (6 * x) := cn_eq (by omega) (by omega) (fun w w0 _ => pq_out (Or.inl (by omega)))
    exact PC.ite (fun z => PC.ok (Or.inr ⟨Or.inl (by omega), by rw [if_pos z, hf, e]⟩)) (fun z => PC.ok (Or.inr ⟨by rw [e, ← hf]; exact hk, by rw [if_neg z]⟩))
  obtain ⟨s0, s1, s2, s3⟩ := hst x x0 c
  refine PC.iter (fun t => (st x ≤ t.2 ∧ t.2 ≤ n) ∧ t.1 = cn (pq n q) (6 * x + t.2) ∧ (k < 0 ∨ t.1 ≤ k)) ?_ _ _ ⟨⟨Int.le_refl _, s1⟩, ?_, hk⟩
  rotate_left
  · show f = cn (pq n q) (6 * x + st x)
    rw [hf]
    refine (cn_eq (by omega) (by omega) (fun w w0 w1 => ?_)).symm
    rw [show w = 6 * x + (w - 6 * x) by omega, pq_at x0 c (by omega) (by omega) n6]
    exact s2 _ (by omega) (by omega)
  rintro rec' ⟨g, y⟩ ⟨⟨y0, y1⟩, hg, hl⟩ hrec'
  simp only at y0 y1 hg hl ⊢
  refine PC.ite (fun c' => ?_) (fun c' => ?_)
  rotate_left
  · refine hrec _ ⟨⟨?_, ?_⟩, ?_, hl⟩
    · show 0 ≤ w32 (x + 1)
      rw [w32_of (by omega) (by omega)]; omega
    · show w32 (x + 1) ≤ n
      rw [w32_of (by omega) (by omega)]; omega
    · show g = cn _ (6 * w32 (x + 1))
      rw [hg, w32_of (by omega) (by omega)]
      exact (cn_eq (by omega) (by omega) (fun w w0 w1 => pq_out (Or.inr (by omega)))).symm
  have y00 : 0 ≤ y := by omega
  have pa : pq n q (6 * x + y) = (p x y && p y x) := by rw [pq_at x0 c y00 c' n6]; exact s3 y y0 c'
  have wy : w32 (y + 1) = y + 1 := w32_of (by omega) (by omega)
  have skip : (p x y && p y x) = false → PC (rec' (g, w32 (y + 1))) (fun r => KTH (pq n q) k r) := by
    intro z
    refine hrec' _ ⟨⟨by (try dsimp only); omega, by (try dsimp only); omega⟩, ?_, hl⟩
    show g = cn _ (6 * x + w32 (y + 1))
    rw [wy, show 6 * x + (y + 1) = 6 * x + y + 1 by omega, cn_f (by omega) (by rw [pa]; exact z), hg]
  refine PC.bind (hF x y x0 c y00 c') (fun r hq1 => ?_)
  rcases hq1 with ⟨rfl, hq1⟩ | ⟨rfl, hq1⟩
  rotate_left
  · exact PC.pos rfl (skip (by rw [hq1]; rfl))
  refine PC.neg n10 (PC.bind (hF y x y00 c' x0 c) (fun r hq2 => ?_))
  rcases hq2 with ⟨rfl, hq2⟩ | ⟨rfl, hq2⟩
  rotate_left
  · exact PC.pos rfl (skip (by rw [hq2, Bool.and_false]))
  have pt : pq n q (6 * x + y) = true := by rw [pa, hq1, hq2]; rfl
  refine PC.neg n10 (PC.ite (fun z => PC.ok (Or.inl ?_)) (fun z => hrec' _ ⟨⟨by (try dsimp only); omega, by (try dsimp only); omega⟩, ?_, ?_⟩))
  · rw [w32_of (x := 6 * x) (by omega) (by omega), w32_of (by omega) (by omega)]
    exact ⟨by omega, pt, by rw [← hg]; exact z⟩
  · show w32 (g + 1) = cn _ (6 * x + w32 (y + 1))
    have b := cn_bd (P := pq n q) (show 0 ≤ 6 * x + y by omega)
    rw [wy, show 6 * x + (y + 1) = 6 * x + y + 1 by omega, cn_t (by omega) pt, ← hg, w32_of (by omega) (by omega)]
  · show k < 0 ∨ w32 (g + 1) ≤ k
    have b := cn_bd (P := pq n q) (show 0 ≤ 6 * x + y by omega)
    rw [w32_of (by omega) (by omega)]; omega
/-- the flat loop of the reference -/
theorem flat_V {P : Int → Bool} {B : (Int × Int → Option (Int × Mem)) → Int × Int → Option (Int × Mem)} (hB : ∀ rec s, (0 ≤ s.2 ∧ s.2 < 36) → PC (rec (s.1, w32 (s.2 + 1))) (fun u => KTH P k u.1) ∨ P s.2 = true → (P s.2 = true → (s.1 = k → PC (some (s.2, N)) (fun u => KTH P k u.1)) ∧ (s.1 ≠ k → PC (rec (w32 (s.1 + 1), w32 (s.2 + 1))) (fun u => KTH P k u.1))) → PC (B rec s) (fun u => KTH P k u.1)) :
    PC (iterC (fun (rec7 : (Int × Int) → Option (Int × Mem)) (s8 : Int × Int) => if s8.2 < 36 then (B rec7 s8) else (if k = (-1) then (some (s8.1, N)) else (some ((-1), N)))) BIG (0, 0)) (fun u => KTH P k u.1) := by
  refine PC.iter (fun s => (0 ≤ s.2 ∧ s.2 ≤ 36) ∧ s.1 = cn P s.2 ∧ (k < 0 ∨ s.1 ≤ k)) ?_ _ _ ⟨⟨by decide, by decide⟩, rfl, by (try dsimp only); omega⟩
  rintro rec ⟨f, c⟩ ⟨⟨c0, c1⟩, hf, hk⟩ hrec
  simp only at c0 c1 hf hk ⊢
  refine PC.ite (fun z => ?_) (fun z => ?_)
  rotate_left
  · have e : c = 36 := by omega
    subst e
    exact PC.ite (fun z => PC.ok (Or.inr ⟨Or.inl (by omega), by rw [if_pos z, hf]⟩)) (fun z => PC.ok (Or.inr ⟨by rw [← hf]; exact hk, by rw [if_neg z]⟩))
  have wc : w32 (c + 1) = c + 1 := w32_of (by omega) (by omega)
  have b := cn_bd (P := P) c0
  refine hB rec (f, c) ⟨c0, z⟩ ?_ (fun pt => ⟨fun e => PC.ok (Or.inl ⟨⟨c0, z⟩, pt, by rw [← hf]; exact e⟩), fun ne => hrec _ ⟨⟨by (try dsimp only); omega, by (try dsimp only); omega⟩, ?_, ?_⟩⟩)
  · cases e : P c with
    | true => exact Or.inr rfl
    | false =>
      refine Or.inl (hrec _ ⟨⟨by (try dsimp only); omega, by (try dsimp only); omega⟩, ?_, hk⟩)
      show f = cn P (w32 (c + 1))
      rw [wc, cn_f c0 e, hf]
  · show w32 (f + 1) = cn P (w32 (c + 1))
    rw [wc, cn_t c0 pt, ← hf, w32_of (by omega) (by omega)]
  · show k < 0 ∨ w32 (f + 1) ≤ k
    dsimp only at ne
    rw [w32_of (by omega) (by omega)]; omega
end Nest
/-! rest, pairs -/
section RestPairs
variable {M N : Mem} {D : Int → Int}
/-- nobody gains by another house against y -/
def bst (D : Int → Int) (x y : Int) : Bool := al (fun h => decide (pz D h y ≤ pz D x y)) (D 0).toNat
theorem bst_iff (b0 : 0 ≤ D 0) {x y : Int} : bst D x y = true ↔ ∀ h, 0 ≤ h → h < D 0 → pz D h y ≤ pz D x y := by
  unfold bst
  rw [al_iff]
  constructor
  · intro h j p q; exact of_decide_eq_true (h j p (by omega))
  · intro h j p q; exact decide_eq_true (h j p (by omega))
theorem bst_no (b0 : 0 ≤ D 0) {x y h : Int} (h0 : 0 ≤ h) (h1 : h < D 0) (z : pz D x y < pz D h y) : bst D x y = false := by
  cases e : bst D x y with
  | false => rfl
  | true => have := (bst_iff b0).mp e h h0 h1; omega
theorem TD.isBest {a x y : Int} (d : TD M a D) (x0 : 0 ≤ x) (x1 : x < D 0) : PC (fX7_isBest M a x y) (fun r => (r = 1 ∧ bst D x y = true) ∨ (r = 0 ∧ bst D x y = false)) := by
  have bd := d.bd
  have b := bd.1
  have e0 := d.2.2.1.1
  unfold fX7_isBest
  refine PC.iter (fun s => (0 ≤ s ∧ s ≤ D 0) ∧ ∀ h, 0 ≤ h → h < s → pz D h y ≤ pz D x y) ?_ _ _ ⟨⟨Int.le_refl _, by omega⟩, fun h p q => by omega⟩
  rintro rec s ⟨⟨s0, s1⟩, hs⟩ hrec
  rw [e0]
  refine PC.guard (fun _ => PC.ite (fun c => PC.bind (d.prize s0 (by omega)) (fun r q => PC.bind (d.prize x0 (by omega)) (fun r' q' => ?_))) (fun c => PC.ok (Or.inl ⟨rfl, (bst_iff (by omega)).mpr (fun h p q => hs h p (by omega))⟩)))
  subst q q'
  refine PC.ite (fun z => PC.ok (Or.inr ⟨rfl, bst_no (by omega) s0 c z⟩)) (fun z => hrec _ ⟨?_, ?_⟩)
  · rw [w32_of (by omega) (by omega)]; omega
  · rw [w32_of (by omega) (by omega)]
    intro h p q
    by_cases e : h = s
    · rw [e]; omega
    · exact hs h p (by omega)
theorem RD.isRest {k x y : Int} (d : RD N k D) (bd : DBd D) (x0 : 0 ≤ x) (x1 : x < D 0) (y0 : 0 ≤ y) (y1 : y < D 0) : PC (fX11_isRest N 85 x y) (fun r => (r = 1 ∧ (bst D x y && bst D y x) = true) ∨ (r = 0 ∧ (bst D x y && bst D y x) = false)) := by
  have b := bd.1
  have e0 := d.2.2.1.2.1
  unfold fX11_isRest
  refine PC.iter (fun s => (0 ≤ s ∧ s ≤ D 0) ∧ ∀ h, 0 ≤ h → h < s → pz D h y ≤ pz D x y ∧ pz D h x ≤ pz D y x) ?_ _ _ ⟨⟨Int.le_refl _, by omega⟩, fun h p q => by omega⟩
  rintro rec s ⟨⟨s0, s1⟩, hs⟩ hrec
  rw [e0]
  refine PC.guard (fun _ => PC.ite (fun c => PC.bind (d.prize bd s0 (by omega)) (fun r q => PC.bind (d.prize bd x0 (by omega)) (fun r' q' => ?_))) (fun c => PC.ok (Or.inl ⟨rfl, by rw [(bst_iff (by omega)).mpr (fun h p q => (hs h p (by omega)).1), (bst_iff (by omega)).mpr (fun h p q => (hs h p (by omega)).2)]; rfl⟩)))
  subst q q'
  refine PC.ite (fun z => PC.ok (Or.inr ⟨rfl, by rw [bst_no (by omega) s0 c z]; rfl⟩)) (fun z => PC.bind (d.prize bd s0 (by omega)) (fun r q => PC.bind (d.prize bd y0 (by omega)) (fun r' q' => ?_)))
  subst q q'
  refine PC.ite (fun z' => PC.ok (Or.inr ⟨rfl, by rw [bst_no (x := y) (by omega) s0 c z', Bool.and_false]⟩)) (fun z' => hrec _ ⟨?_, ?_⟩)
  · rw [w32_of (by omega) (by omega)]; omega
  · rw [w32_of (by omega) (by omega)]
    intro h p q
    by_cases e : h = s
    · rw [e]; omega
    · exact hs h p (by omega)
theorem rest_E (h : INV2 M) (k i : Int) : TT (fX10_rest M 0 k i) (fun r => TT (fX11_rest M 85 k i) (fun u => r = u.1 ∧ Keep M u.2)) := by
  have hT := h.1.1
  refine TT.rr (restX_T hT k i) (restY_T hT k i) ?_
  unfold fX10_rest fX11_rest
  rw [wp0_0 hT]
  refine RR.gl (fun _ => RR.gl (fun _ => RR.gr (fun _ => RR.mr (RR.town h k (RR.posl rfl (RR.posr rfl (RR.ok rfl))) (fun a N D ne d e bd _ => RR.negl ne (RR.negr n10 ?_))))))
  have b := bd.1
  have hY : PC _ (fun (u : Int × Mem) => KTH (pq (D 0) (fun x y => bst D x y && bst D y x)) i u.1) := flat_V (N := N) (k := i) (P := pq (D 0) (fun x y => bst D x y && bst D y x)) (B := fun rec7 s8 => if N.2.1 85 = 10 then (fX11_isHouse N 85 (w32 (s8.2.tdiv 6))).bind fun r10 => if r10 = 0 then (rec7 (s8.1, w32 (s8.2 + 1))) else ((fX11_isHouse N 85 (s8.2.tmod 6)).bind fun r14 => if r14 = 0 then (rec7 (s8.1, w32 (s8.2 + 1))) else ((fX11_isRest N 85 (w32 (s8.2.tdiv 6)) (s8.2.tmod 6)).bind fun r17 => if r17 = 0 then (rec7 (s8.1, w32 (s8.2 + 1))) else (if s8.1 = i then (some (s8.2, N)) else (rec7 (w32 (s8.1 + 1), w32 (s8.2 + 1)))))) else none) (by
    rintro rec ⟨f, c⟩ ⟨c0, c1⟩ hno hyes
    simp only at c0 c1 hno hyes ⊢
    rw [Int.tdiv_eq_ediv_of_nonneg c0, Int.tmod_eq_emod_of_nonneg c0, w32_of (x := c / 6) (by omega) (by omega), e.isHouse bd, e.isHouse bd]
    have out : pq (D 0) (fun x y => bst D x y && bst D y x) c = false → PC (rec (f, w32 (c + 1))) (fun u => KTH (pq (D 0) (fun x y => bst D x y && bst D y x)) i u.1) := fun z => hno.elim id (fun z' => by rw [z] at z'; cases z')
    refine PC.guard (fun _ => ?_)
    by_cases z : 0 ≤ c / 6 ∧ c / 6 < D 0
    rotate_left
    · rw [if_neg z]; exact PC.bindE rfl (PC.pos rfl (out (pq_out (by omega))))
    rw [if_pos z]
    refine PC.bindE rfl (PC.neg n10 ?_)
    by_cases z' : 0 ≤ c % 6 ∧ c % 6 < D 0
    rotate_left
    · rw [if_neg z']; exact PC.bindE rfl (PC.pos rfl (out (pq_out (by omega))))
    rw [if_pos z']
    refine PC.bindE rfl (PC.neg n10 (PC.bind (e.isRest bd z.1 z.2 z'.1 z'.2) (fun r q => ?_)))
    rcases q with ⟨rfl, q⟩ | ⟨rfl, q⟩
    rotate_left
    · exact PC.pos rfl (out (pq_no q))
    have pt : pq (D 0) (fun x y => bst D x y && bst D y x) c = true := by
      have := pq_at (n := D 0) (q := fun x y => bst D x y && bst D y x) z.1 z.2 z'.1 z'.2 b.2
      rw [show 6 * (c / 6) + c % 6 = c by omega] at this
      rw [this]; exact q
    obtain ⟨y1, y2⟩ := hyes pt
    exact PC.neg n10 (PC.ite y1 y2))
  have hX : PC (fX7_restAt M a i) (fun r => KTH (pq (D 0) (fun x y => bst D x y && bst D y x)) i r) := nest_V (F := fX7_isBest M a) (p := bst D) (q := fun x y => bst D x y && bst D y x) (fun _ => 0) d.2.2.1.1 b.1 b.2 (fun x _ _ => ⟨Int.le_refl _, by omega, fun y p q => by omega, fun y _ _ => rfl⟩) (fun x y p q _ _ => d.isBest p q)
  refine RR.il (fun z => ?_) (fun z => RR.gl (fun _ => RR.rl (RR.okp hX hY (fun r u p q => p.uniq q))))
  refine RR.okp (PC.ok (Q := fun v => v = -1) rfl) hY (fun r u p q => ?_)
  rw [p]
  exact KTH.uniq (k := i) (Or.inr ⟨Or.inl (by omega), by rw [if_neg (by omega)]⟩) q
/-- a helps b -/
def hp (D : Int → Int) (x y : Int) : Bool := !al (fun g => !(decide (0 < spS D x g) && decide (0 < lkS D y g))) 5
theorem TD.helps {a x y : Int} (d : TD M a D) (x0 : 0 ≤ x) (x1 : x < 6) (y0 : 0 ≤ y) (y1 : y < 6) : PC (fX7_helps M a x y) (fun r => (r = 1 ∧ hp D x y = true) ∨ (r = 0 ∧ hp D x y = false)) := by
  unfold fX7_helps
  refine PC.iter (fun s => (0 ≤ s ∧ s ≤ 5) ∧ ∀ g, 0 ≤ g → g < s → (!(decide (0 < spS D x g) && decide (0 < lkS D y g))) = true) ?_ _ _ ⟨⟨Int.le_refl _, by decide⟩, fun h p q => by omega⟩
  rintro rec s ⟨⟨s0, s1⟩, hs⟩ hrec
  refine PC.ite (fun c => PC.guard (fun _ => ?_)) (fun c => PC.ok (Or.inr ⟨rfl, by unfold hp; rw [al_iff.mpr (fun g p q => hs g p (by omega))]; rfl⟩))
  rw [d.spare x0 x1 s0 c, d.lack y0 y1 s0 c]
  have nx : (!(decide (0 < spS D x s) && decide (0 < lkS D y s))) = true → PC (rec (w32 (s + 1))) (fun r => (r = 1 ∧ hp D x y = true) ∨ (r = 0 ∧ hp D x y = false)) := by
    intro z
    refine hrec _ ⟨?_, ?_⟩
    · rw [w32_of (by omega) (by omega)]; omega
    · rw [w32_of (by omega) (by omega)]
      intro h p q
      by_cases e : h = s
      · rw [e]; exact z
      · exact hs h p (by omega)
  refine PC.bindE rfl (PC.ite (fun z => PC.bindE rfl (PC.ite (fun z' => PC.ok (Or.inl ⟨rfl, ?_⟩)) (fun z' => nx (by rw [decide_eq_false z', Bool.and_false]; rfl)))) (fun z => nx (by rw [decide_eq_false z]; rfl)))
  unfold hp
  cases e : al (fun g => !(decide (0 < spS D x g) && decide (0 < lkS D y g))) 5 with
  | false => rfl
  | true =>
    have := al_iff.mp e s s0 (by omega)
    rw [decide_eq_true z, decide_eq_true z'] at this
    cases this
theorem RD.helps {k x y : Int} (d : RD N k D) (bd : DBd D) (x0 : 0 ≤ x) (x1 : x < 6) (y0 : 0 ≤ y) (y1 : y < 6) : PC (fX11_helps N 85 x y) (fun r => (r = 1 ∧ hp D x y = true) ∨ (r = 0 ∧ hp D x y = false)) := by
  unfold fX11_helps
  refine PC.iter (fun s => (0 ≤ s ∧ s ≤ 5) ∧ ∀ g, 0 ≤ g → g < s → (!(decide (0 < spS D x g) && decide (0 < lkS D y g))) = true) ?_ _ _ ⟨⟨Int.le_refl _, by decide⟩, fun h p q => by omega⟩
  rintro rec s ⟨⟨s0, s1⟩, hs⟩ hrec
  refine PC.ite (fun c => PC.guard (fun _ => ?_)) (fun c => PC.ok (Or.inr ⟨rfl, by unfold hp; rw [al_iff.mpr (fun g p q => hs g p (by omega))]; rfl⟩))
  rw [d.spare bd x0 x1 s0 c, d.lack bd y0 y1 s0 c]
  have nx : (!(decide (0 < spS D x s) && decide (0 < lkS D y s))) = true → PC (rec (w32 (s + 1))) (fun r => (r = 1 ∧ hp D x y = true) ∨ (r = 0 ∧ hp D x y = false)) := by
    intro z
    refine hrec _ ⟨?_, ?_⟩
    · rw [w32_of (by omega) (by omega)]; omega
    · rw [w32_of (by omega) (by omega)]
      intro h p q
      by_cases e : h = s
      · rw [e]; exact z
      · exact hs h p (by omega)
  refine PC.bindE rfl (PC.ite (fun z => PC.bindE rfl (PC.ite (fun z' => PC.ok (Or.inl ⟨rfl, ?_⟩)) (fun z' => nx (by rw [decide_eq_false z', Bool.and_false]; rfl)))) (fun z => nx (by rw [decide_eq_false z]; rfl)))
  unfold hp
  cases e : al (fun g => !(decide (0 < spS D x g) && decide (0 < lkS D y g))) 5 with
  | false => rfl
  | true =>
    have := al_iff.mp e s s0 (by omega)
    rw [decide_eq_true z, decide_eq_true z'] at this
    cases this
def pr (D : Int → Int) (x y : Int) : Bool := decide (x < y) && (hp D x y && hp D y x)
theorem pairs_E (h : INV2 M) (k i : Int) : TT (fX10_pairs M 0 k i) (fun r => TT (fX11_pairs M 85 k i) (fun u => r = u.1 ∧ Keep M u.2)) := by
  have hT := h.1.1
  refine TT.rr (pairsX_T hT k i) (pairsY_T hT k i) ?_
  unfold fX10_pairs fX11_pairs
  rw [wp0_0 hT]
  refine RR.gl (fun _ => RR.gl (fun _ => RR.gr (fun _ => RR.mr (RR.town h k (RR.posl rfl (RR.posr rfl (RR.ok rfl))) (fun a N D ne d e bd _ => RR.negl ne (RR.negr n10 ?_))))))
  have b := bd.1
  have e0 := e.2.2.1.2.1
  have hY : PC _ (fun (u : Int × Mem) => KTH (pq (D 0) (pr D)) i u.1) := flat_V (N := N) (k := i) (P := pq (D 0) (pr D)) (B := fun rec7 s8 => if w32 (s8.2.tdiv 6) < s8.2.tmod 6 then (if N.2.1 85 = 10 then if s8.2.tmod 6 < N.1 85 25 then ((fX11_helps N 85 (w32 (s8.2.tdiv 6)) (s8.2.tmod 6)).bind fun r13 => if r13 = 0 then (rec7 (s8.1, w32 (s8.2 + 1))) else ((fX11_helps N 85 (s8.2.tmod 6) (w32 (s8.2.tdiv 6))).bind fun r16 => if r16 = 0 then (rec7 (s8.1, w32 (s8.2 + 1))) else (if s8.1 = i then (some (s8.2, N)) else (rec7 (w32 (s8.1 + 1), w32 (s8.2 + 1)))))) else (rec7 (s8.1, w32 (s8.2 + 1))) else none) else (rec7 (s8.1, w32 (s8.2 + 1)))) (by
    rintro rec ⟨f, c⟩ ⟨c0, c1⟩ hno hyes
    simp only at c0 c1 hno hyes ⊢
    rw [Int.tdiv_eq_ediv_of_nonneg c0, Int.tmod_eq_emod_of_nonneg c0, w32_of (x := c / 6) (by omega) (by omega), e0]
    have out : pq (D 0) (pr D) c = false → PC (rec (f, w32 (c + 1))) (fun u => KTH (pq (D 0) (pr D)) i u.1) := fun z => hno.elim id (fun z' => by rw [z] at z'; cases z')
    refine PC.ite (fun z0 => PC.guard (fun _ => PC.ite (fun z1 => ?_) (fun z1 => out (pq_out (by omega))))) (fun z0 => out (pq_no (by unfold pr; rw [decide_eq_false z0]; rfl)))
    refine PC.bind (e.helps bd (x := c / 6) (y := c % 6) (by omega) (by omega) (by omega) (by omega)) (fun r q => ?_)
    rcases q with ⟨rfl, q⟩ | ⟨rfl, q⟩
    rotate_left
    · exact PC.pos rfl (out (pq_no (by unfold pr; rw [q, Bool.false_and, Bool.and_false])))
    refine PC.neg n10 (PC.bind (e.helps bd (x := c % 6) (y := c / 6) (by omega) (by omega) (by omega) (by omega)) (fun r q' => ?_))
    rcases q' with ⟨rfl, q'⟩ | ⟨rfl, q'⟩
    rotate_left
    · exact PC.pos rfl (out (pq_no (by unfold pr; rw [q', Bool.and_false, Bool.and_false])))
    have pt : pq (D 0) (pr D) c = true := by
      have := pq_at (n := D 0) (q := pr D) (x := c / 6) (y := c % 6) (by omega) (by omega) (by omega) (by omega) b.2
      rw [show 6 * (c / 6) + c % 6 = c by omega] at this
      rw [this]; unfold pr; rw [q, q', decide_eq_true z0]; rfl
    obtain ⟨y1, y2⟩ := hyes pt
    exact PC.neg n10 (PC.ite y1 y2))
  have hX : PC (fX7_pairAt M a i) (fun r => KTH (pq (D 0) (pr D)) i r) := nest_V (F := fX7_helps M a) (p := hp D) (q := pr D) (fun x => w32 (x + 1)) d.2.2.1.1 b.1 b.2 (fun x p q => by
    rw [w32_of (by omega) (by omega)]
    exact ⟨by omega, by omega, fun y p' q' => by unfold pr; rw [decide_eq_false (by omega)]; rfl, fun y p' q' => by unfold pr; rw [decide_eq_true (by omega)]; rfl⟩) (fun x y p q p' q' => d.helps p (by omega) p' (by omega))
  refine RR.il (fun z => ?_) (fun z => RR.gl (fun _ => RR.rl (RR.okp hX hY (fun r u p q => p.uniq q))))
  refine RR.okp (PC.ok (Q := fun v => v = -1) rfl) hY (fun r u p q => ?_)
  rw [p]
  exact KTH.uniq (k := i) (Or.inr ⟨Or.inl (by omega), by rw [if_neg (by omega)]⟩) q
end RestPairs
