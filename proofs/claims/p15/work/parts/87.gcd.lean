/-! greatest common divisors; share, even, crew -/
def gI (x y : Int) : Int := ((Nat.gcd x.toNat y.toNat : Nat) : Int)
def p2 : Nat → Int
  | 0 => 1
  | n + 1 => 2 * p2 n
section Gcd
variable {M N : Mem} {D : Int → Int}
theorem gI_z {x : Int} (h : 0 ≤ x) : gI x 0 = x := by
  unfold gI
  rw [show (0 : Int).toNat = 0 from rfl, Nat.gcd_zero_right]; omega
theorem gI_c (x y : Int) : gI x y = gI y x := by unfold gI; rw [Nat.gcd_comm]
theorem gI_s {x y : Int} (hx : 0 ≤ x) (hy : 0 < y) : gI y (x % y) = gI x y := by
  unfold gI
  obtain ⟨m, rfl⟩ := Int.eq_ofNat_of_zero_le hx
  obtain ⟨n, rfl⟩ := Int.eq_ofNat_of_zero_le (Int.le_of_lt hy)
  rw [show ((m : Int) % (n : Int)).toNat = m % n from rfl]
  show ((Nat.gcd n (m % n) : Nat) : Int) = ((Nat.gcd m n : Nat) : Int)
  rw [Nat.gcd_comm m n, Nat.gcd_rec n m, Nat.gcd_comm (m % n) n]
theorem gI_pos {x y : Int} (hx : 0 < x) : 0 < gI x y := by
  unfold gI
  have : 0 < Nat.gcd x.toNat y.toNat := Nat.gcd_pos_of_pos_left _ (by omega)
  omega
theorem gI_le {x y : Int} (hx : 0 < x) : gI x y ≤ x := by
  unfold gI
  have : Nat.gcd x.toNat y.toNat ≤ x.toNat := Nat.gcd_le_left _ (by omega)
  omega
theorem gI_le2 {x y : Int} (hy : 0 < y) : gI x y ≤ y := by rw [gI_c]; exact gI_le hy
theorem mod_half {x y : Int} (h0 : 0 < y) (h : y ≤ x) : 2 * (x % y) ≤ x := by
  have e := Int.emod_add_mul_ediv x y
  have r := Int.emod_lt_of_pos x h0
  have q : 1 ≤ x / y := by
    have := Int.le_ediv_of_mul_le h0 (show 1 * y ≤ x by omega)
    exact this
  have := Int.mul_le_mul_of_nonneg_left q (Int.le_of_lt h0)
  omega
theorem cd_V {x y : Int} (x0 : 0 ≤ x) (y0 : 0 ≤ y) (y1 : y < 20000) : PC (fX10_commonDivisor M x y) (fun r => r = gI x y) := by
  unfold fX10_commonDivisor
  refine PC.iter (fun s => (0 ≤ s.1 ∧ 0 ≤ s.2.1) ∧ gI s.1 s.2.1 = gI x y ∧ ((s.2.2 = 0 ∧ s.2.1 < 20000) ∨ ((1 ≤ s.2.2 ∧ s.2.2 ≤ 32) ∧ s.2.1 < s.1 ∧ (s.2.1 = 0 ∨ (s.2.2 ≤ 31 ∧ s.1 * s.2.1 < p2 (31 - s.2.2).toNat))))) ?_ _ _ ⟨⟨x0, y0⟩, rfl, Or.inl ⟨rfl, y1⟩⟩
  rintro rec ⟨p, q, st⟩ ⟨⟨p0, q0⟩, hg, hI⟩ hrec
  simp only at p0 q0 hg hI ⊢
  refine PC.ite (fun c => PC.ite (fun c1 => PC.guard (fun _ => ?_)) (fun c1 => PC.ok ?_)) (fun c => PC.ok ?_)
  rotate_left
  · rw [← hg, show q = 0 by omega, gI_z p0]
  · have : q = 0 := by
      rcases hI with hI | ⟨hI, _, hI' | hI'⟩
      · omega
      · exact hI'
      · omega
    rw [← hg, this, gI_z p0]
  rw [Int.tmod_eq_emod_of_nonneg p0]
  have m0 := Int.emod_nonneg p (show q ≠ 0 by omega)
  have m1 := Int.emod_lt_of_pos p c1
  refine hrec _ ⟨⟨q0, m0⟩, ?_, Or.inr ?_⟩
  · show gI q (p % q) = gI x y
    rw [gI_s p0 c1, hg]
  show (1 ≤ w32 (st + 1) ∧ w32 (st + 1) ≤ 32) ∧ p % q < q ∧ (p % q = 0 ∨ (w32 (st + 1) ≤ 31 ∧ q * (p % q) < p2 (31 - w32 (st + 1)).toNat))
  have mz := Int.mul_nonneg q0 m0
  rcases hI with ⟨e, l⟩ | ⟨⟨s1, s2⟩, l, l'⟩
  · subst e
    rw [show w32 (0 + 1) = 1 from rfl]
    refine ⟨⟨by decide, by decide⟩, m1, Or.inr ⟨by decide, ?_⟩⟩
    have := (mul_bd q0 (show q ≤ 20000 by omega) m0 (show p % q ≤ 20000 by omega)).2
    rw [show p2 (31 - 1 : Int).toNat = 1073741824 from rfl]
    omega
  · rcases l' with l' | ⟨s3, l'⟩
    · omega
    rw [w32_of (by omega) (by omega)]
    have pq1 : 1 ≤ p * q := by
      have := Int.mul_le_mul (show (1 : Int) ≤ p by omega) (show (1 : Int) ≤ q by omega) (by decide) (by omega)
      omega
    have s30 : st ≤ 30 := by
      by_cases e : st = 31
      · rw [e] at l'
        rw [show p2 (31 - 31 : Int).toNat = 1 from rfl] at l'
        omega
      · omega
    refine ⟨by omega, m1, Or.inr ⟨by omega, ?_⟩⟩
    rw [show (31 - st).toNat = (31 - (st + 1)).toNat + 1 by omega] at l'
    have hh := Int.mul_le_mul_of_nonneg_left (mod_half c1 (Int.le_of_lt l)) q0
    rw [Int.mul_comm q p] at hh
    have e2 : q * (2 * (p % q)) = 2 * (q * (p % q)) := by rw [← Int.mul_assoc, Int.mul_comm q 2, Int.mul_assoc]
    rw [e2] at hh
    have l2 : p * q < 2 * p2 (31 - (st + 1)).toNat := l'
    omega
theorem cm_V {x y : Int} (x0 : 0 ≤ x) (y0 : 0 ≤ y) : PC (fX11_common M x y) (fun r => r = gI x y) := by
  unfold fX11_common
  refine PC.iter (fun s => (0 ≤ s.1 ∧ 0 ≤ s.2) ∧ gI s.1 s.2 = gI x y) ?_ _ _ ⟨⟨x0, y0⟩, rfl⟩
  rintro rec ⟨p, q⟩ ⟨⟨p0, q0⟩, hg⟩ hrec
  simp only at p0 q0 hg ⊢
  refine PC.ite (fun c => PC.ok (by rw [← hg, c, gI_z p0])) (fun c => PC.guard (fun _ => ?_))
  rw [Int.tmod_eq_emod_of_nonneg p0]
  exact hrec _ ⟨⟨q0, Int.emod_nonneg p c⟩, by show gI q (p % q) = _; rw [gI_s p0 (by omega), hg]⟩
/-- a fraction in least terms -/
def lsS (p q u : Int) : Int := if q = 0 then (if u = 0 then 0 else 1) else (if u = 0 then p else q) / gI p q
theorem leastX_V {p q u : Int} (p0 : 0 ≤ p) (p1 : p < 2000000000) (q0 : 0 ≤ q) (q1 : q < 20000) (hz : q = 0 → p = 0) : PC (fX10_leastTerms M p q u) (fun r => r = lsS p q u) := by
  unfold fX10_leastTerms lsS
  refine PC.bind (cd_V p0 q0 q1) (fun r e => ?_)
  subst e
  refine PC.join (fun _ => p = 0) (fun _ e => ?_) (fun j hj => PC.ite (fun c => PC.ite (fun c' => ?_) (fun c' => absurd (gI_pos (y := q) c) c')) (fun c => hj () (by omega)))
  · subst e
    by_cases z : q = 0
    · rw [if_pos z]
      exact PC.ite (fun c => PC.ok (by rw [if_pos c])) (fun c => PC.ok (by rw [if_neg c]))
    · rw [if_neg z, gI_c, gI_z q0]
      exact PC.ite (fun c => PC.ok (by rw [if_pos c, Int.zero_ediv])) (fun c => PC.ok (by rw [if_neg c, Int.ediv_self z]))
  have z : ¬ q = 0 := fun e => by have := hz e; omega
  have g1 := gI_pos (y := q) c
  have pp : ∀ t : Int, 0 ≤ t → t < 2000000000 → w32 (t.tdiv (gI p q)) = t / gI p q := fun t t0 t1 => by
    have a := Int.ediv_nonneg t0 (Int.le_of_lt g1)
    have b := Int.ediv_le_self (gI p q) t0
    rw [Int.tdiv_eq_ediv_of_nonneg t0, w32_of (by omega) (by omega)]
  have gp := gI_le2 (x := p) (show 0 < q by omega)
  rw [if_neg z]
  refine PC.jI (PC.ite (fun c2 => PC.guard (fun _ => PC.ok ?_)) (fun c2 => PC.guard (fun _ => PC.ok ?_)))
  · rw [if_pos c2]; exact pp p p0 p1
  · rw [if_neg c2]; exact pp q q0 (by omega)
theorem leastY_V {p q u : Int} (p0 : 0 ≤ p) (p1 : p < 2000000000) (q0 : 0 ≤ q) (q1 : q < 2000000000) : PC (fX11_least M p q u) (fun r => r = lsS p q u) := by
  unfold fX11_least lsS
  refine PC.ite (fun z => ?_) (fun z => ?_)
  · rw [if_pos z]
    exact PC.ite (fun c => PC.ok (by rw [if_pos c])) (fun c => PC.ok (by rw [if_neg c]))
  rw [if_neg z]
  have g1 := gI_pos (x := q) (y := p) (by omega)
  rw [gI_c] at g1
  have pp : ∀ t : Int, 0 ≤ t → t < 2000000000 → w32 (t.tdiv (gI p q)) = t / gI p q := fun t t0 t1 => by
    have a := Int.ediv_nonneg t0 (Int.le_of_lt g1)
    have b := Int.ediv_le_self (gI p q) t0
    rw [Int.tdiv_eq_ediv_of_nonneg t0, w32_of (by omega) (by omega)]
  refine PC.join (fun t => t = if u = 0 then p else q) (fun t e => PC.bind (cm_V q0 p0) (fun r e' => PC.guard (fun _ => PC.ok ?_))) (fun j hj => PC.ite (fun c => hj _ (by rw [if_pos c])) (fun c => hj _ (by rw [if_neg c])))
  rw [e', gI_c, e]
  by_cases c : u = 0
  · rw [if_pos c]; exact pp p p0 p1
  · rw [if_neg c]; exact pp q q0 q1
end Gcd
