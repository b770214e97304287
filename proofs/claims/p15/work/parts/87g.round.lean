/-! cows: round -/
def orb (D : Int → Int) (h : Int) : Nat → Int
  | 0 => h
  | n + 1 => D (68 + orb D h n)
theorem pig : ∀ (m : Nat) (f : Nat → Int), (∀ i, i ≤ m → 0 ≤ f i ∧ f i < (m : Int)) → ∃ i j, i < j ∧ j ≤ m ∧ f i = f j
  | 0, f, h => by have := h 0 (Nat.le_refl _); omega
  | m + 1, f, h => by
    by_cases c : ∃ i, i ≤ m ∧ f i = f (m + 1)
    · obtain ⟨i, i1, i2⟩ := c
      exact ⟨i, m + 1, by omega, Nat.le_refl _, i2⟩
    have hv := h (m + 1) (Nat.le_refl _)
    have hne : ∀ i, i ≤ m → f i ≠ f (m + 1) := fun i i1 e => c ⟨i, i1, e⟩
    obtain ⟨i, j, ij, jm, e⟩ := pig m (fun i => if f i = (m : Int) then f (m + 1) else f i) (fun i i1 => by
      have a := h i (by omega)
      have b := hne i i1
      (try dsimp only)
      split <;> omega)
    refine ⟨i, j, ij, by omega, ?_⟩
    have b1 := hne i (by omega)
    have b2 := hne j jm
    (try dsimp only at e)
    split at e <;> split at e <;> omega
section Round
variable {M N : Mem} {D : Int → Int}
theorem orb_add (h : Int) (i : Nat) : ∀ t : Nat, orb D (orb D h i) t = orb D h (i + t)
  | 0 => rfl
  | t + 1 => by
    show D (68 + orb D (orb D h i) t) = D (68 + orb D h (i + t))
    rw [orb_add h i t]
theorem orb_in (bd : DBd D) (gd : GD 0 D) {h : Int} (h0 : 0 ≤ h) (h1 : h < D 0) : ∀ n : Nat, 0 ≤ orb D h n ∧ orb D h n < D 0
  | 0 => ⟨h0, h1⟩
  | n + 1 => by
    have a := orb_in bd gd h0 h1 n
    have b := bd.1
    show 0 ≤ D (68 + orb D h n) ∧ D (68 + orb D h n) < D 0
    exact ⟨(bd.2.2.2.1 _ a.1 (by omega)).2.1, gd.1 rfl _ a.1 (by omega) a.2⟩
def HOME (D : Int → Int) (h m r : Int) : Prop := (∃ n : Nat, 1 ≤ n ∧ (n : Int) ≤ m ∧ r = n ∧ orb D h n = h ∧ ∀ j, 1 ≤ j → j < n → orb D h j ≠ h) ∨ (r = -1 ∧ ∀ j : Nat, 1 ≤ j → (j : Int) ≤ m → orb D h j ≠ h)
theorem HOME.eq (bd : DBd D) (gd : GD 0 D) {h r r' : Int} (h0 : 0 ≤ h) (h1 : h < D 0) (a : HOME D h 6 r) (b : HOME D h (D 0) r') : r = r' := by
  have bb := bd.1
  rcases a with ⟨n, n1, n2, n3, n4, n5⟩ | ⟨a1, a2⟩
  · rcases b with ⟨k, k1, k2, k3, k4, k5⟩ | ⟨b1, b2⟩
    · rcases Nat.lt_trichotomy n k with c | c | c
      · exact absurd n4 (k5 n n1 c)
      · omega
      · exact absurd k4 (n5 k k1 c)
    · exfalso
      have nd : D 0 < (n : Int) := by
        by_cases c : (n : Int) ≤ D 0
        · exact absurd n4 (b2 n n1 c)
        · omega
      obtain ⟨i, j, ij, jm, e⟩ := pig (D 0).toNat (orb D h) (fun i _ => by have := orb_in bd gd h0 h1 i; omega)
      have q : orb D h (i + (n - j)) = h := by
        rw [← orb_add, e, orb_add, show j + (n - j) = n by omega]; exact n4
      exact n5 (i + (n - j)) (by omega) (by omega) q
  · rcases b with ⟨k, k1, k2, k3, k4, k5⟩ | ⟨b1, b2⟩
    · exact absurd k4 (a2 k k1 (by omega))
    · omega
theorem TD.home {a h : Int} (d : TD M a D) (gd : GD 0 D) (h0 : 0 ≤ h) (h1 : h < D 0) : PC (fX7_homeAgain M a h) (fun r => HOME D h 6 r) := by
  have bd := d.bd
  have bb := bd.1
  obtain ⟨hT, ha, _, _, e3, _⟩ := d
  unfold fX7_homeAgain
  rw [tp5_ hT ha]
  refine PC.iter (fun s => ∃ n : Nat, s.2 = (n : Int) + 1 ∧ n ≤ 6 ∧ s.1 = orb D h n ∧ ∀ j, 1 ≤ j → j ≤ n → orb D h j ≠ h) ?_ _ _ ⟨0, rfl, by decide, rfl, fun j p q => by omega⟩
  rintro rec ⟨x, s⟩ ⟨n, hs, n6, hx, hn⟩ hrec
  simp only at hs hx ⊢
  have o := orb_in bd gd h0 h1 n
  have o' := orb_in bd gd h0 h1 (n + 1)
  refine PC.ite (fun c => PC.ok (Or.inr ⟨rfl, fun j p q => hn j p (by omega)⟩)) (fun c => PC.guard (fun _ => PC.guard (fun _ => ?_)))
  have e : M.1 (a + 4) x = orb D h (n + 1) := by
    rw [hx, (e3 _ o.1 (by omega)).2]; rfl
  rw [e]
  refine PC.ite (fun z => PC.ok (Or.inl ⟨n + 1, by omega, by omega, by rw [hs]; omega, z, fun j p q => hn j p (by omega)⟩)) (fun z => hrec _ ⟨n + 1, ?_, by omega, rfl, fun j p q => ?_⟩)
  · show w32 (s + 1) = ((n + 1 : Nat) : Int) + 1
    rw [w32_of (by omega) (by omega)]; omega
  · by_cases y : j = n + 1
    · rw [y]; exact z
    · exact hn j p (by omega)
theorem RD.home {k h : Int} (d : RD N k D) (bd : DBd D) (gd : GD 0 D) (h0 : 0 ≤ h) (h1 : h < D 0) : PC (fX11_roundOf N 85 h) (fun r => HOME D h (D 0) r) := by
  have bb := bd.1
  unfold fX11_roundOf
  rw [d.2.2.1.2.1]
  refine PC.iter (fun s => ∃ n : Nat, s.2 = (n : Int) + 1 ∧ (n : Int) ≤ D 0 ∧ s.1 = orb D h n ∧ ∀ j, 1 ≤ j → j ≤ n → orb D h j ≠ h) ?_ _ _ ⟨0, rfl, by omega, rfl, fun j p q => by omega⟩
  rintro rec ⟨x, s⟩ ⟨n, hs, n6, hx, hn⟩ hrec
  simp only at hs hx ⊢
  have o := orb_in bd gd h0 h1 n
  refine PC.guard (fun _ => PC.ite (fun c => PC.ok (Or.inr ⟨rfl, fun j p q => hn j p (by omega)⟩)) (fun c => ?_))
  rw [hx, w32_of (x := 68 + orb D h n) (by omega) (by omega), d.of (by omega) (by omega)]
  refine PC.bindE rfl ?_
  refine PC.ite (fun z => PC.ok (Or.inl ⟨n + 1, by omega, by omega, by rw [hs]; omega, z, fun j p q => hn j p (by omega)⟩)) (fun z => hrec _ ⟨n + 1, ?_, by omega, rfl, fun j p q => ?_⟩)
  · show w32 (s + 1) = ((n + 1 : Nat) : Int) + 1
    rw [w32_of (by omega) (by omega)]; omega
  · by_cases y : j = n + 1
    · rw [y]; exact z
    · exact hn j p (by omega)
theorem PC.tr {ρ : Type} {X : Option ρ} : PC X (fun _ => True) := fun _ _ => trivial
def l6 (h : Int) : Int := if h ≤ 0 then 1 else if h = 1 then 6 else if h = 2 then 36 else if h = 3 then 216 else if h = 4 then 1296 else if h = 5 then 7776 else 46656
theorem RR.townG {ρ σ : Type} {M : Mem} {f : Int → Option ρ} {g : Int × Mem → Option σ} {Q : ρ → σ → Prop} (h : INV3 M) (k : Int) (hno : RR (f (-1)) (g (0, mst M 85 0 0)) Q) (hyes : ∀ a N D, a ≠ -1 → TD M a D → RD N k D → DBd D → GD 0 D → Keep M N → RR (f a) (g (1, N)) Q) : RR ((fX6_townAt M 1 k).bind f) ((fX11_hand (mst M 85 0 0) 85 k).bind g) Q := by
  rw [townAt_V h.1.1.1 k]
  refine RR.handR h.1 m85 k (fun c => ?_) (fun c N d q _ => ?_)
  · rw [if_neg c]; exact hno
  · rw [if_pos c]
    have t := townV_D h.1 c.1 c.2
    have e90 : M.1 90 0 = M.1 3 0 := cnt90 h.1 (by decide) (by decide)
    have g := h.2 0 0 k (by decide) (by decide) (by decide) (by decide) c.1 (by rw [show (4 * 0 + 0 : Int) = 0 from rfl, e90]; exact c.2)
    have g' : GD 0 (fun y => M.1 91 (92 * k + y)) := g.row (fun y _ _ => by
      show M.1 91 (92 * k + y) = M.1 (91 + 0) (wd 0 * (2 * 0 + k) + y)
      rw [show wd 0 * (2 * 0 + k) + y = 92 * k + y by show 92 * (2 * 0 + k) + y = _; omega]; rfl)
    exact hyes _ N _ (by omega) t d t.bd g' (m85.trans q)
theorem round_E (h : INV3 M) (k x : Int) : TT (fX10_round M 0 k x) (fun r => TT (fX11_round M 85 k x) (fun v => r = v.1 ∧ Keep M v.2)) := by
  have hT := h.1.1.1
  refine TT.rr (roundX_T hT k x) (roundY_T hT k x) ?_
  unfold fX10_round fX11_round
  rw [wp0_0 hT]
  refine RR.gl (fun _ => RR.gl (fun _ => RR.gr (fun _ => RR.mr (RR.townG h k (RR.posl rfl (RR.posr rfl (RR.ok rfl))) (fun a N D ne d e bd gd _ => RR.negl ne (RR.negr n10 (RR.jr ?_)))))))
  have b := bd.1
  have e0 := d.2.2.1.1
  have e1 := e.2.2.1.2.1
  rw [d.isHouse, e.isHouse bd]
  refine RR.ii Iff.rfl (fun z _ => RR.posr z (RR.gl (fun _ => RR.rl ?_))) (fun z _ => RR.gl (fun _ => RR.gr (fun _ => RR.flag (fun c => RR.rl (RR.negr z (RR.gr (fun _ => ?_)))) (fun _ => RR.ok rfl))))
  rotate_left
  · exact RR.br (e.home bd gd c.1 c.2) (fun r q => RR.okp (d.home gd c.1 c.2) (PC.ok (Q := fun v => v = (r, N)) rfl) (fun r' v p p' => by rw [p']; exact p.eq bd gd c.1 c.2 q))
  unfold fX7_allHome
  rw [e0]
  refine RR.iter (fun s t => s = t ∧ (0 ≤ s.2 ∧ s.2 ≤ D 0) ∧ 1 ≤ s.1 ∧ s.1 ≤ l6 s.2) ?_ _ _ _ _ ⟨rfl, ⟨by decide, by dsimp only; omega⟩, by decide, by decide⟩
  rintro rec rec' ⟨y, i⟩ t ⟨rfl, ⟨i0, i1⟩, y0, y1⟩ hrec
  simp only at i0 i1 y0 y1 ⊢
  rw [e1]
  refine RR.gl (fun _ => RR.gr (fun _ => RR.ii Iff.rfl (fun c _ => ?_) (fun c _ => RR.ok rfl)))
  refine RR.bl (d.home gd i0 c) (fun r q => RR.br (e.home bd gd i0 c) (fun r' q' => ?_))
  have rr := q.eq bd gd i0 c q'
  subst rr
  have hr : r = -1 ∨ (1 ≤ r ∧ r ≤ 6) := by
    rcases q with ⟨n, n1, n2, n3, _⟩ | ⟨n1, _⟩
    · exact Or.inr ⟨by omega, by omega⟩
    · exact Or.inl n1
  rcases hr with hr | ⟨r1, r6⟩
  · exact RR.bl PC.tr (fun g _ => RR.posl hr (RR.posr hr (RR.ok rfl)))
  have wi : w32 (i + 1) = i + 1 := w32_of (by omega) (by omega)
  have yb : y ≤ 7776 := by unfold l6 at y1; split at y1; omega; split at y1; omega; split at y1; omega; split at y1; omega; split at y1; omega; split at y1 <;> omega
  refine RR.bl (cd_V (by omega) (by omega) (by omega)) (fun g q1 => RR.negl (by omega) (RR.negr (by omega) (RR.br (cm_V (by omega) (by omega)) (fun g' q2 => ?_))))
  rw [← q1] at q2
  subst q2
  have gp := gI_pos (x := y) (y := r) (by omega)
  rw [← q1] at gp
  refine RR.negl (by omega) (RR.gl (fun _ => RR.gr (fun _ => hrec _ _ ⟨rfl, ⟨by dsimp only; omega, by dsimp only; omega⟩, ?_⟩)))
  have d1 := Int.ediv_nonneg (show 0 ≤ y by omega) (show 0 ≤ g' by omega)
  have d2 := Int.ediv_le_self g' (show 0 ≤ y by omega)
  have gle := gI_le (x := y) (y := r) (by omega)
  rw [← q1] at gle
  have d3 : 1 ≤ y / g' := Int.le_ediv_of_mul_le gp (by omega)
  have m1 := mul_bd d1 d2 (show 0 ≤ r by omega) r6
  have m2 := Int.mul_le_mul d3 r1 (by decide) d1
  show 1 ≤ w32 (w32 (y.tdiv g') * r) ∧ w32 (w32 (y.tdiv g') * r) ≤ l6 (w32 (i + 1))
  rw [wi, Int.tdiv_eq_ediv_of_nonneg (by omega), w32_of (x := y / g') (by omega) (by omega), w32_of (by omega) (by omega)]
  refine ⟨by omega, ?_⟩
  unfold l6 at y1 ⊢
  rcases (show i = 0 ∨ i = 1 ∨ i = 2 ∨ i = 3 ∨ i = 4 ∨ i = 5 by omega) with z | z | z | z | z | z <;> subst z <;> simp at y1 ⊢ <;> omega
end Round
