/-! haul -/
def dg (c g : Int) : Int := if g = 0 then c / 10000 % 10 else if g = 1 then c / 1000 % 10 else if g = 2 then c / 100 % 10 else if g = 3 then c / 10 % 10 else c % 10
def tn (g : Int) : Int := if g = 0 then 100000 else if g = 1 then 10000 else if g = 2 then 1000 else if g = 3 then 100 else if g = 4 then 10 else 1
/-- one more is looked at -/
def stp (F : Int → Int) (c : Int) (s : Int × Int) : Int × Int := if s.2 < F c then (c, F c) else s
/-- k of them, from the greatest down to lo -/
def fl (F : Int → Int) (lo : Int) : Nat → Int × Int → Int × Int
  | 0, s => s
  | k + 1, s => fl F lo k (stp F (lo + (k : Int)) s)
def hF (D : Int → Int) (h n w c : Int) : Prop := (∀ g, 0 ≤ g → g < 5 → dg c g ≤ D (2 + (5 * h + g))) ∧ sI (dg c) 5 ≤ n ∧ sI (fun g => dg c g * D (74 + g)) 5 ≤ w
noncomputable def hW (D : Int → Int) (h n w c : Int) : Int := haveI := Classical.propDecidable; if hF D h n w c then sI (fun g => dg c g * D (79 + g)) 5 else -1
section Haul
variable {M N : Mem} {D F : Int → Int} {h n w : Int}
theorem dg0 (c : Int) : dg c 0 = c / 10000 % 10 := rfl
theorem dg1 (c : Int) : dg c 1 = c / 1000 % 10 := rfl
theorem dg2 (c : Int) : dg c 2 = c / 100 % 10 := rfl
theorem dg3 (c : Int) : dg c 3 = c / 10 % 10 := rfl
theorem dg4 (c : Int) : dg c 4 = c % 10 := rfl
theorem tn0 : tn 0 = 100000 := rfl
theorem tn1 : tn 1 = 10000 := rfl
theorem tn2 : tn 2 = 1000 := rfl
theorem tn3 : tn 3 = 100 := rfl
theorem tn4 : tn 4 = 10 := rfl
theorem tn5 : tn 5 = 1 := rfl
theorem c5 {g : Int} (g0 : 0 ≤ g) (g1 : g < 5) : g = 0 ∨ g = 1 ∨ g = 2 ∨ g = 3 ∨ g = 4 := by omega
theorem dg_bd (c g : Int) : 0 ≤ dg c g ∧ dg c g ≤ 9 := by
  unfold dg
  split
  · omega
  · split
    · omega
    · split
      · omega
      · split <;> omega
theorem tn_s {g : Int} (g0 : 0 ≤ g) (g1 : g < 5) : tn g = 10 * tn (g + 1) ∧ 1 ≤ tn (g + 1) ∧ tn (g + 1) ≤ 10000 := by
  rcases c5 g0 g1 with e | e | e | e | e <;> subst e <;> decide
theorem dg_pre {lo c g j : Int} (g5 : g ≤ 5) (lm : lo % tn g = 0) (h0 : lo ≤ c) (h1 : c < lo + tn g) (j0 : 0 ≤ j) (jg : j < g) : dg c j = dg lo j := by
  rcases (show g = 1 ∨ g = 2 ∨ g = 3 ∨ g = 4 ∨ g = 5 by omega) with e | e | e | e | e <;> subst e
  · rw [show j = 0 by omega, dg0, dg0]; rw [tn1] at lm h1; omega
  · rw [tn2] at lm h1
    rcases (show j = 0 ∨ j = 1 by omega) with e | e <;> subst e
    · rw [dg0, dg0]; omega
    · rw [dg1, dg1]; omega
  · rw [tn3] at lm h1
    rcases (show j = 0 ∨ j = 1 ∨ j = 2 by omega) with e | e | e <;> subst e
    · rw [dg0, dg0]; omega
    · rw [dg1, dg1]; omega
    · rw [dg2, dg2]; omega
  · rw [tn4] at lm h1
    rcases (show j = 0 ∨ j = 1 ∨ j = 2 ∨ j = 3 by omega) with e | e | e | e <;> subst e
    · rw [dg0, dg0]; omega
    · rw [dg1, dg1]; omega
    · rw [dg2, dg2]; omega
    · rw [dg3, dg3]; omega
  · rw [tn5] at h1
    rw [show c = lo by omega]
theorem dg_own {lo c g i y : Int} (g0 : 0 ≤ g) (g1 : g < 5) (lm : lo % tn g = 0) (hy : y = i * tn (g + 1)) (i0 : 0 ≤ i) (i9 : i ≤ 9) (h0 : lo + y ≤ c) (h1 : c < lo + y + tn (g + 1)) : dg c g = i := by
  rcases c5 g0 g1 with e | e | e | e | e <;> subst e
  · rw [show tn (0 + 1) = 10000 from rfl] at hy h1; rw [tn0] at lm; rw [dg0]; omega
  · rw [show tn (1 + 1) = 1000 from rfl] at hy h1; rw [tn1] at lm; rw [dg1]; omega
  · rw [show tn (2 + 1) = 100 from rfl] at hy h1; rw [tn2] at lm; rw [dg2]; omega
  · rw [show tn (3 + 1) = 10 from rfl] at hy h1; rw [tn3] at lm; rw [dg3]; omega
  · rw [show tn (4 + 1) = 1 from rfl] at hy h1; rw [tn4] at lm; rw [dg4]; omega
theorem dg_ge {lo c g i y : Int} (g0 : 0 ≤ g) (g1 : g < 5) (lm : lo % tn g = 0) (hy : y = i * tn (g + 1)) (i0 : 0 ≤ i) (h0 : lo + y ≤ c) (h1 : c < lo + tn g) : i ≤ dg c g := by
  rcases c5 g0 g1 with e | e | e | e | e <;> subst e
  · rw [show tn (0 + 1) = 10000 from rfl] at hy; rw [tn0] at lm h1; rw [dg0]; omega
  · rw [show tn (1 + 1) = 1000 from rfl] at hy; rw [tn1] at lm h1; rw [dg1]; omega
  · rw [show tn (2 + 1) = 100 from rfl] at hy; rw [tn2] at lm h1; rw [dg2]; omega
  · rw [show tn (3 + 1) = 10 from rfl] at hy; rw [tn3] at lm h1; rw [dg3]; omega
  · rw [show tn (4 + 1) = 1 from rfl] at hy; rw [tn4] at lm h1; rw [dg4]; omega
theorem tn_m {lo g i y : Int} (g0 : 0 ≤ g) (g1 : g < 5) (lm : lo % tn g = 0) (hy : y = i * tn (g + 1)) : (lo + y) % tn (g + 1) = 0 := by
  rcases c5 g0 g1 with e | e | e | e | e <;> subst e
  · rw [show tn (0 + 1) = 10000 from rfl] at hy ⊢; rw [tn0] at lm; omega
  · rw [show tn (1 + 1) = 1000 from rfl] at hy ⊢; rw [tn1] at lm; omega
  · rw [show tn (2 + 1) = 100 from rfl] at hy ⊢; rw [tn2] at lm; omega
  · rw [show tn (3 + 1) = 10 from rfl] at hy ⊢; rw [tn3] at lm; omega
  · rw [show tn (4 + 1) = 1 from rfl]; omega
theorem fl_add {lo : Int} (p : Nat) : ∀ (q : Nat) (s : Int × Int), fl F lo (p + q) s = fl F lo p (fl F (lo + (p : Int)) q s)
  | 0, s => rfl
  | q + 1, s => by
    show fl F lo (p + q) (stp F (lo + ((p + q : Nat) : Int)) s) = fl F lo p (fl F (lo + (p : Int)) q (stp F (lo + (p : Int) + (q : Int)) s))
    rw [fl_add p q, show lo + ((p + q : Nat) : Int) = lo + (p : Int) + (q : Int) by omega]
theorem fl_no {lo : Int} : ∀ (k : Nat) (s : Int × Int), (∀ c, lo ≤ c → c < lo + (k : Int) → F c = -1) → -1 ≤ s.2 → fl F lo k s = s
  | 0, _, _, _ => rfl
  | k + 1, s, hf, hs => by
    show fl F lo k (stp F (lo + (k : Int)) s) = s
    have e : stp F (lo + (k : Int)) s = s := by
      unfold stp
      rw [hf _ (by omega) (by omega), if_neg (by omega)]
    rw [e]
    exact fl_no k s (fun c p q => hf c p (by omega)) hs
theorem fl_ge {lo : Int} : ∀ (k : Nat) (s : Int × Int), -1 ≤ s.2 → -1 ≤ (fl F lo k s).2
  | 0, _, hs => hs
  | k + 1, s, hs => by
    refine fl_ge k _ ?_
    unfold stp
    split
    · dsimp only; omega
    · exact hs
/-- what stands behind the figures from i on of a block of ten times t -/
def flS (F : Int → Int) (lo t : Int) (s : Int × Int) (i : Int) : Int × Int := fl F (lo + i * t) (10 * t - i * t).toNat s
theorem flS_10 {lo t : Int} {s : Int × Int} : flS F lo t s 10 = s := by
  unfold flS
  rw [show (10 * t - 10 * t).toNat = 0 by omega]; rfl
theorem flS_0 {lo t : Int} {s : Int × Int} : flS F lo t s 0 = fl F lo (10 * t).toNat s := by
  unfold flS
  rw [Int.zero_mul, Int.add_zero, Int.sub_zero]
theorem flS_s {lo t i : Int} {s : Int × Int} (t1 : 1 ≤ t) (i0 : 0 ≤ i) (i9 : i ≤ 9) : flS F lo t s i = fl F (lo + i * t) t.toNat (flS F lo t s (i + 1)) := by
  unfold flS
  have e : (i + 1) * t = i * t + t := by rw [Int.add_mul, Int.one_mul]
  have b : i * t ≤ 9 * t := Int.mul_le_mul_of_nonneg_right i9 (by omega)
  rw [e, show (10 * t - i * t).toNat = t.toNat + (10 * t - (i * t + t)).toNat by omega, fl_add, show lo + i * t + ((t.toNat : Nat) : Int) = lo + (i * t + t) by omega]
theorem sI_mono {f : Int → Int} (hf : ∀ j, 0 ≤ j → 0 ≤ f j) {a b : Int} (a0 : 0 ≤ a) (ab : a ≤ b) : sI f a ≤ sI f b := by
  have key : ∀ k : Nat, sI f a ≤ sI f (a + (k : Int)) := by
    intro k
    induction k with
    | zero => show sI f a ≤ sI f (a + 0); rw [Int.add_zero]; exact Int.le_refl _
    | succ m ih =>
      have e := sI_s (f := f) (i := a + (m : Int)) (by omega)
      have p := hf (a + (m : Int)) (by omega)
      rw [show a + ((m + 1 : Nat) : Int) = a + (m : Int) + 1 by omega, e]
      omega
  have := key (b - a).toNat
  rw [show a + (((b - a).toNat : Nat) : Int) = b by omega] at this
  exact this
theorem wg_nn (bd : DBd D) (c : Int) {f : Int} (hf : f = 74 ∨ f = 79) {j : Int} (j0 : 0 ≤ j) (j5 : j < 5) : 0 ≤ dg c j * D (f + j) ∧ dg c j * D (f + j) ≤ 81 := by
  have b := bd.2.2.2.2.1 j j0 j5
  have d := dg_bd c j
  have e : 0 ≤ D (f + j) ∧ D (f + j) ≤ 9 := by rcases hf with e | e <;> subst e <;> omega
  have := mul_bd d.1 d.2 e.1 e.2
  omega
/-- sums of a haul, with nothing behind the fifth -/
theorem sI_5 {f g : Int → Int} (hf : ∀ j, 0 ≤ j → j < 5 → f j = g j) {i : Int} (i5 : i ≤ 5) : sI f i = sI g i := sI_cong (fun j p q => hf j p (by omega))
theorem wsum_mono (bd : DBd D) (c : Int) {f : Int} (hf : f = 74 ∨ f = 79) {i : Int} (i0 : 0 ≤ i) (i5 : i ≤ 5) : sI (fun j => dg c j * D (f + j)) i ≤ sI (fun j => dg c j * D (f + j)) 5 ∧ 0 ≤ sI (fun j => dg c j * D (f + j)) i ∧ sI (fun j => dg c j * D (f + j)) i ≤ 405 := by
  have e : ∀ i, i ≤ 5 → sI (fun j => dg c j * D (f + j)) i = sI (fun j => if j < 5 then dg c j * D (f + j) else 0) i := fun i h => sI_5 (fun j p q => by rw [if_pos q]) h
  have nn : ∀ j, 0 ≤ j → 0 ≤ (fun j => if j < 5 then dg c j * D (f + j) else 0) j := fun j p => by
    dsimp only
    split
    · exact (wg_nn bd c hf p (by assumption)).1
    · exact Int.le_refl _
  refine ⟨?_, ?_⟩
  · rw [e i i5, e 5 (by decide)]; exact sI_mono nn i0 i5
  · have := sI_bd (f := fun j => dg c j * D (f + j)) (lo := 0) (hi := 81) (i := i) (fun j p q => wg_nn bd c hf p (by omega)) i0
    omega
theorem dsum_mono (c : Int) {i : Int} (i0 : 0 ≤ i) (i5 : i ≤ 5) : sI (dg c) i ≤ sI (dg c) 5 ∧ 0 ≤ sI (dg c) i ∧ sI (dg c) i ≤ 45 := by
  refine ⟨sI_mono (fun j _ => (dg_bd c j).1) i0 i5, ?_⟩
  have := sI_bd (f := dg c) (lo := 0) (hi := 9) (i := i) (fun j _ _ => dg_bd c j) i0
  omega
theorem hW_yes {c : Int} (hf : hF D h n w c) : hW D h n w c = sI (fun g => dg c g * D (79 + g)) 5 := by unfold hW; exact if_pos hf
theorem hW_no {c : Int} (hf : ¬ hF D h n w c) : hW D h n w c = -1 := by unfold hW; exact if_neg hf
/-- a haul's value, by the reference -/
theorem RD.haulWorth {k c : Int} (d : RD N k D) (bd : DBd D) (h0 : 0 ≤ h) (h1 : h < 6) (c0 : 0 ≤ c) (c1 : c < 100000) : PC (fX11_haulWorth N 85 c h n w) (fun r => r = hW D h n w c) := by
  unfold fX11_haulWorth
  refine PC.iter (fun s => (-1 ≤ s.2.2.2.2 ∧ s.2.2.2.2 ≤ 4) ∧ (∀ j, s.2.2.2.2 < j → j < 5 → dg c j ≤ D (2 + (5 * h + j))) ∧ s.1 + sI (dg c) (s.2.2.2.2 + 1) = sI (dg c) 5 ∧ s.2.1 + sI (fun g => dg c g * D (74 + g)) (s.2.2.2.2 + 1) = sI (fun g => dg c g * D (74 + g)) 5 ∧ s.2.2.1 + sI (fun g => dg c g * D (79 + g)) (s.2.2.2.2 + 1) = sI (fun g => dg c g * D (79 + g)) 5 ∧ s.2.2.2.1 = c / tn (s.2.2.2.2 + 1)) ?_ _ _ ⟨⟨by (try dsimp only); omega, by (try dsimp only); omega⟩, fun j p q => by (try dsimp only at p); omega, by (try dsimp only); rw [Int.zero_add]; rfl, by (try dsimp only); rw [Int.zero_add]; rfl, by (try dsimp only); rw [Int.zero_add]; rfl, by (try dsimp only); rw [show tn (4 + 1) = 1 from rfl, Int.ediv_one]⟩
  rintro rec ⟨th, wt, wo, lf, g⟩ ⟨⟨g0, g4⟩, hj, e1, e2, e3, e4⟩ hrec
  simp only at g0 g4 hj e1 e2 e3 e4 ⊢
  have s1 := dsum_mono c (i := g + 1) (by omega) (by omega)
  have s2 := wsum_mono bd c (Or.inl rfl) (i := g + 1) (by omega) (by omega)
  have s3 := wsum_mono bd c (Or.inr rfl) (i := g + 1) (by omega) (by omega)
  have t1 := dsum_mono c (i := 5) (by decide) (by decide)
  have t2 := wsum_mono bd c (Or.inl rfl) (i := 5) (by decide) (by decide)
  have t3 := wsum_mono bd c (Or.inr rfl) (i := 5) (by decide) (by decide)
  refine PC.ite (fun cg => ?_) (fun cg => PC.guard (fun _ => ?_))
  · have eg : g = -1 := by omega
    subst eg
    have z1 : th = sI (dg c) 5 := by rw [← e1]; show th = th + 0; omega
    have z2 : wt = sI (fun g => dg c g * D (74 + g)) 5 := by rw [← e2]; show wt = wt + 0; omega
    have z3 : wo = sI (fun g => dg c g * D (79 + g)) 5 := by rw [← e3]; show wo = wo + 0; omega
    refine PC.ite (fun q => PC.ok ?_) (fun q => PC.ite (fun q' => PC.ok ?_) (fun q' => PC.ok ?_))
    · rw [hW_no]; intro f; have := f.2.1; omega
    · rw [hW_no]; intro f; have := f.2.2; omega
    · rw [hW_yes ⟨fun j p q => hj j (by omega) q, by omega, by omega⟩]; exact z3
  have gg : 0 ≤ g := by omega
  have a1 : sI (dg c) (g + 1) = sI (dg c) g + dg c g := sI_s gg
  have a2 : sI (fun g => dg c g * D (74 + g)) (g + 1) = sI (fun g => dg c g * D (74 + g)) g + dg c g * D (74 + g) := sI_s gg
  have a3 : sI (fun g => dg c g * D (79 + g)) (g + 1) = sI (fun g => dg c g * D (79 + g)) g + dg c g * D (79 + g) := sI_s gg
  have hd : lf.tmod 10 = dg c g ∧ lf.tdiv 10 = c / tn g := by
    have : (lf.tmod 10 = lf % 10 ∧ lf.tdiv 10 = lf / 10) := by
      have q : 0 ≤ lf := by rw [e4]; exact Int.ediv_nonneg c0 (by have := tn_s gg (by omega); omega)
      rw [Int.tdiv_eq_ediv_of_nonneg q, Int.tmod_eq_emod_of_nonneg q]
      exact ⟨rfl, rfl⟩
    rw [this.1, this.2, e4]
    rcases c5 gg (by omega) with e | e | e | e | e <;> subst e
    · rw [show tn (0 + 1) = 10000 from rfl, tn0, dg0]; omega
    · rw [show tn (1 + 1) = 1000 from rfl, tn1, dg1]; omega
    · rw [show tn (2 + 1) = 100 from rfl, tn2, dg2]; omega
    · rw [show tn (3 + 1) = 10 from rfl, tn3, dg3]; omega
    · rw [show tn (4 + 1) = 1 from rfl, tn4, dg4]; omega
  have db := dg_bd c g
  have b2 := wg_nn bd c (Or.inl rfl) gg (show g < 5 by omega)
  have b3 := wg_nn bd c (Or.inr rfl) gg (show g < 5 by omega)
  have s1' := dsum_mono c (i := g) gg (by omega)
  have s2' := wsum_mono bd c (Or.inl rfl) (i := g) gg (by omega)
  have s3' := wsum_mono bd c (Or.inr rfl) (i := g) gg (by omega)
  have cq : 0 ≤ c / tn g ∧ c / tn g ≤ c := ⟨Int.ediv_nonneg c0 (by have := tn_s gg (show g < 5 by omega); omega), Int.ediv_le_self _ c0⟩
  rw [hgI h0 h1 gg (by omega) (by decide) (by decide), d.of (by omega) (by omega), hd.1, hd.2]
  refine PC.bindE rfl (PC.ite (fun q => PC.ok ?_) (fun q => ?_))
  · rw [hW_no]; intro f; have := f.1 g gg (by omega); omega
  rw [w32_of (x := 74 + g) (by omega) (by omega), w32_of (x := 79 + g) (by omega) (by omega), d.of (by omega) (by omega), d.of (by omega) (by omega)]
  refine PC.bindE rfl (PC.bindE rfl (hrec _ ?_))
  (try dsimp only)
  rw [w32_of (x := g + (-1)) (by omega) (by omega), show g + (-1) + 1 = g by omega, w32_of (x := dg c g * D (74 + g)) (by omega) (by omega), w32_of (x := dg c g * D (79 + g)) (by omega) (by omega), w32_of (x := c / tn g) (by omega) (by omega), w32_of (x := th + dg c g) (by omega) (by omega), w32_of (x := wt + dg c g * D (74 + g)) (by omega) (by omega), w32_of (x := wo + dg c g * D (79 + g)) (by omega) (by omega)]
  refine ⟨⟨by omega, by omega⟩, fun j p q' => ?_, by omega, by omega, by omega, rfl⟩
  by_cases e : j = g
  · rw [e]; omega
  · exact hj j (by omega) q'
/-- what the reference ends in -/
theorem figure_V {c g : Int} (c0 : 0 ≤ c) (c1 : c < 100000) (g0 : 0 ≤ g) (g1 : g < 5) : PC (fX11_figure N c g) (fun r => r = dg c g) := by
  unfold fX11_figure
  refine PC.iter (fun s => (g ≤ s.2 ∧ s.2 ≤ 4) ∧ s.1 = c / tn (s.2 + 1)) ?_ _ _ ⟨⟨by (try dsimp only); omega, by (try dsimp only); omega⟩, by (try dsimp only); rw [show tn (4 + 1) = 1 from rfl, Int.ediv_one]⟩
  rintro rec ⟨x, i⟩ ⟨⟨i0, i4⟩, hx⟩ hrec
  simp only at i0 i4 hx ⊢
  have x0 : 0 ≤ x ∧ x ≤ c := by
    rw [hx]; exact ⟨Int.ediv_nonneg c0 (by have := tn_s (g := i) (by omega) (by omega); omega), Int.ediv_le_self _ c0⟩
  rw [Int.tdiv_eq_ediv_of_nonneg x0.1, Int.tmod_eq_emod_of_nonneg x0.1]
  refine PC.ite (fun z => hrec _ ?_) (fun z => PC.ok ?_)
  · (try dsimp only)
    rw [w32_of (x := i + (-1)) (by omega) (by omega), w32_of (x := x / 10) (by omega) (by omega), show i + (-1) + 1 = i by omega]
    refine ⟨⟨by omega, by omega⟩, ?_⟩
    rw [hx]
    rcases c5 (show 0 ≤ i by omega) (by omega) with e | e | e | e | e <;> subst e
    · exfalso; omega
    · rw [show tn (1 + 1) = 1000 from rfl, tn1]; omega
    · rw [show tn (2 + 1) = 100 from rfl, tn2]; omega
    · rw [show tn (3 + 1) = 10 from rfl, tn3]; omega
    · rw [show tn (4 + 1) = 1 from rfl, tn4]; omega
  · have ei : i = g := by omega
    subst ei
    rw [hx]
    rcases c5 g0 g1 with e | e | e | e | e <;> subst e
    · rw [show tn (0 + 1) = 10000 from rfl, dg0]
    · rw [show tn (1 + 1) = 1000 from rfl, dg1]
    · rw [show tn (2 + 1) = 100 from rfl, dg2]
    · rw [show tn (3 + 1) = 10 from rfl, dg3]
    · rw [show tn (4 + 1) = 1 from rfl, dg4]; omega
noncomputable def hB (D : Int → Int) (h n w : Int) : Int × Int := fl (hW D h n w) 0 100000 (0, -1)
theorem fl_fst {lo hi : Int} (l0 : 0 ≤ lo) : ∀ (k : Nat) (s : Int × Int), lo + (k : Int) ≤ hi → 0 ≤ s.1 → s.1 < hi → 0 ≤ (fl F lo k s).1 ∧ (fl F lo k s).1 < hi
  | 0, _, _, a, b => ⟨a, b⟩
  | k + 1, s, hk, a, b => by
    refine fl_fst l0 k _ (by omega) ?_ ?_
    · unfold stp; split
      · dsimp only; omega
      · exact a
    · unfold stp; split
      · dsimp only; omega
      · exact b
theorem hB_in : 0 ≤ (hB D h n w).1 ∧ (hB D h n w).1 < 100000 := fl_fst (Int.le_refl _) _ _ (by decide) (by decide) (by decide)
/-- the porter's rows hold a state of the search -/
def HPS (M : Mem) (s : Int × Int) : Prop := M.1 82 1 = s.2 ∧ ∀ j, 0 ≤ j → j < 5 → M.1 83 j = dg s.1 j
def HPR (D : Int → Int) (h n w lo g th wt wo : Int) : Prop := (0 ≤ lo ∧ lo + tn g ≤ 100000) ∧ lo % tn g = 0 ∧ (∀ j, 0 ≤ j → j < g → dg lo j ≤ D (2 + (5 * h + j))) ∧ (th + sI (dg lo) g = n ∧ 0 ≤ th) ∧ (wt + sI (fun j => dg lo j * D (74 + j)) g = w ∧ 0 ≤ wt) ∧ wo = sI (fun j => dg lo j * D (79 + j)) g
theorem keepBetter_V (hT : WT M) {c v : Int} {s : Int × Int} (p : HPS M s) (hv : v = F c) (hp : ∀ j, 0 ≤ j → j < 5 → M.1 84 j = dg c j) : PC (fX2_keepBetter M 82 v) (fun r => HPS r (stp F c s) ∧ ∀ j, r.1 84 j = M.1 84 j) := by
  unfold fX2_keepBetter stp
  rw [p.1, hv]
  refine PC.guard (fun _ => PC.ite (fun z => PC.sM ?_) (fun z => PC.ok ⟨by rw [if_neg z]; exact p, fun _ => rfl⟩))
  have hK : Keep M (mst M 82 1 (F c)) := Keep.self.st rfl
  have hT2 := hT.keep hK
  rw [wp82_2 hT2, wp82_0 hT2, if_pos z]
  refine PC.bind (PC.of (cpRow_T (n := 5) (wk84 hT2) (wl84 hT2) (wk83 hT2) (wl83 hT2) (by decide))) (fun r q => PC.ok ⟨⟨?_, fun j j0 j1 => ?_⟩, fun j => ?_⟩)
  · rw [q.2.1 82 1 (by decide), mst_at]
  · rw [q.2.2 j, if_pos ⟨j0, j1⟩, mst_ne _ _ _ _ _ _ (by decide)]; exact hp j j0 j1
  · rw [q.2.1 84 j (by decide), mst_ne _ _ _ _ _ _ (by decide)]
theorem pick_V (bd : DBd D) (h0 : 0 ≤ h) (h1 : h < 6) (n9 : n ≤ 9) (w99 : w ≤ 99) : ∀ (fu : Nat) (M : Mem) (g th wt wo lo : Int) (s : Int × Int), TD M (M.1 82 3) D → M.1 82 4 = h → 0 ≤ g → g ≤ 5 → 6 - g ≤ fu → HPR D h n w lo g th wt wo → (∀ j, 0 ≤ j → j < g → M.1 84 j = dg lo j) → HPS M s → -1 ≤ s.2 → PC (fX2_pick fu M 82 g th wt wo) (fun r => HPS r (fl (hW D h n w) lo (tn g).toNat s) ∧ ∀ j, 0 ≤ j → j < g → r.1 84 j = M.1 84 j)
  | 0, M, g, th, wt, wo, lo, s, d, eh, g0, g5, hfu, pr, hp, ps, s1 => by exfalso; omega
  | fu + 1, M, g, th, wt, wo, lo, s, d, eh, g0, g5, hfu, pr, hp, ps, s1 => by
    have hT := d.1
    have ha := d.2.1
    obtain ⟨⟨l0, l1⟩, lm, pd, ⟨pt, t0⟩, ⟨pw, w0⟩, po⟩ := pr
    unfold fX2_pick
    refine PC.ite (fun c => ?_) (fun c => PC.guard (fun _ => ?_))
    rotate_left
    · have eg : g = 5 := by omega
      subst eg
      have e : wo = hW D h n w lo := by
        rw [hW_yes ⟨fun j p q => pd j p q, by omega, by omega⟩]; exact po
      refine PC.bind (keepBetter_V hT ps e hp) (fun r q => PC.ok ⟨?_, fun j _ _ => q.2 j⟩)
      rw [tn5]
      show HPS r (fl (hW D h n w) lo 0 (stp (hW D h n w) (lo + ((0 : Nat) : Int)) s))
      rw [show lo + ((0 : Nat) : Int) = lo by omega]
      exact q.1
    obtain ⟨ts, tl1, tl2⟩ := tn_s g0 c
    have hb := bd.2.2.1 (5 * h + g) (by omega) (by omega)
    have wb := bd.2.2.2.2.1 g g0 c
    rw [eh, cellV h0 h1 g0 c, tp2_ hT ha]
    refine PC.guard (fun _ => PC.guard (fun _ => PC.bindE rfl (PC.guard (fun _ => ?_))))
    rw [(d.2.2.2.1 (5 * h + g) (by omega) (by omega)).1]
    generalize ht : tn (g + 1) = t at *
    have ds := dsum_mono lo g0 (show g ≤ 5 by omega)
    have ws := wsum_mono bd lo (Or.inl rfl) g0 (show g ≤ 5 by omega)
    have os := wsum_mono bd lo (Or.inr rfl) g0 (show g ≤ 5 by omega)
    -- hauls of this block: their first figures, and what rules them out
    have pre : ∀ x, lo ≤ x → x < lo + tn g → ∀ j, 0 ≤ j → j < g → dg x j = dg lo j := fun x a b j p q => dg_pre g5 lm a b p q
    have no1 : ∀ x, lo ≤ x → x < lo + tn g → (D (2 + (5 * h + g)) < dg x g ∨ th < dg x g ∨ wt < dg x g * D (74 + g)) → hW D h n w x = -1 := by
      intro x a b hx
      refine hW_no (fun f => ?_)
      have e1 : sI (dg x) (g + 1) = sI (dg lo) g + dg x g := by rw [sI_s g0, sI_cong (pre x a b)]
      have e2 : sI (fun j => dg x j * D (74 + j)) (g + 1) = sI (fun j => dg lo j * D (74 + j)) g + dg x g * D (74 + g) := by
        rw [sI_s g0, sI_cong (g := fun j => dg lo j * D (74 + j)) (fun j p q => by rw [pre x a b j p q])]
      have f1 := f.1 g g0 c
      have f2 := (dsum_mono x (show 0 ≤ g + 1 by omega) (show g + 1 ≤ 5 by omega)).1
      have f3 := (wsum_mono bd x (Or.inl rfl) (show 0 ≤ g + 1 by omega) (show g + 1 ≤ 5 by omega)).1
      have f4 := f.2.1
      have f5 := f.2.2
      omega
    have top : flS (hW D h n w) lo t s (imin th (D (2 + (5 * h + g))) + 1) = s := by
      unfold flS
      refine fl_no _ _ (fun x a b => ?_) s1
      generalize hm : imin th (D (2 + (5 * h + g))) = m at *
      have hm' : 0 ≤ m ∧ m ≤ 9 ∧ (m = th ∨ m = D (2 + (5 * h + g))) := by rw [← hm]; unfold imin; split <;> omega
      have y0 : 0 ≤ (m + 1) * t := Int.mul_nonneg (by omega) (by omega)
      have y1 : (m + 1) * t ≤ 10 * t := Int.mul_le_mul_of_nonneg_right (by omega) (by omega)
      have dx := dg_ge (c := x) (i := m + 1) g0 c lm rfl (by omega) (by rw [ht]; omega) (by omega)
      exact no1 x (by omega) (by omega) (by rcases hm'.2.2 with e | e <;> omega)
    have m9 : -1 ≤ imin th (D (2 + (5 * h + g))) ∧ imin th (D (2 + (5 * h + g))) ≤ 9 ∧ imin th (D (2 + (5 * h + g))) ≤ th ∧ imin th (D (2 + (5 * h + g))) ≤ D (2 + (5 * h + g)) := by unfold imin; split <;> omega
    refine PC.iter (fun q => (-1 ≤ q.1 ∧ q.1 ≤ imin th (D (2 + (5 * h + g)))) ∧ (Keep M q.2 ∧ q.2.1 82 3 = M.1 82 3 ∧ q.2.1 82 4 = M.1 82 4) ∧ (∀ j, 0 ≤ j → j < g → q.2.1 84 j = M.1 84 j) ∧ HPS q.2 (flS (hW D h n w) lo t s (q.1 + 1))) ?_ _ _ ⟨⟨m9.1, Int.le_refl _⟩, ⟨Keep.self, rfl, rfl⟩, fun _ _ _ => rfl, by (try dsimp only); rw [top]; exact ps⟩
    rintro rec ⟨i, A⟩ ⟨⟨i0, i1⟩, ⟨kA, a3, a4⟩, pA, sA⟩ hrec
    simp only at i0 i1 kA a3 a4 pA sA ⊢
    have dA := d.keep kA
    have hTA := dA.1
    rw [a3, tp6_ hTA ha, (dA.2.2.2.2.2.1 g g0 c).1, wp82_2 hTA]
    have wi : w32 (i + (-1)) = i + (-1) := w32_of (by omega) (by omega)
    rw [wi]
    refine PC.ite (fun z => PC.ok ⟨?_, pA⟩) (fun z => ?_)
    · rw [show i + 1 = 0 by omega, flS_0] at sA
      rw [ts]; exact sA
    have ib := mul_bd (x := i) (y := D (74 + g)) (a := 9) (b := 9) (by omega) (by omega) (by omega) (by omega)
    have io := mul_bd (x := i) (y := D (79 + g)) (a := 9) (b := 9) (by omega) (by omega) (by omega) (by omega)
    have y0 : 0 ≤ i * t := Int.mul_nonneg (by omega) (by omega)
    have y1 : i * t ≤ 9 * t := Int.mul_le_mul_of_nonneg_right (by omega) (by omega)
    have own : ∀ x, lo + i * t ≤ x → x < lo + i * t + t → dg x g = i := fun x a b => dg_own g0 c lm (by rw [ht]) (by omega) (by omega) a (by rw [ht]; exact b)
    have nx := flS_s (F := hW D h n w) (lo := lo) (s := s) tl1 (show 0 ≤ i by omega) (show i ≤ 9 by omega)
    have sge : -1 ≤ (flS (hW D h n w) lo t s (i + 1)).2 := fl_ge _ _ s1
    rw [w32_of (x := i * D (74 + g)) (by omega) (by omega), w32_of (x := wt - i * D (74 + g)) (by omega) (by omega)]
    refine PC.guard (fun _ => PC.guard (fun _ => PC.guard (fun _ => PC.ite (fun z1 => hrec _ ⟨⟨by (try dsimp only); omega, by (try dsimp only); omega⟩, ⟨kA, a3, a4⟩, pA, ?_⟩) (fun z1 => PC.guard (fun _ => PC.sM ?_)))))
    · (try dsimp only)
      rw [show i + (-1) + 1 = i by omega, nx, fl_no _ _ (fun x a b => ?_) sge]
      · exact sA
      · have ox := own x a (by omega)
        exact no1 x (by omega) (by omega) (Or.inr (Or.inr (by rw [ox]; omega)))
    have kN : Keep A (mst A 84 g i) := Keep.self.st rfl
    have n3 : (mst A 84 g i).1 82 3 = M.1 82 3 := by rw [mst_ne _ _ _ _ _ _ (by decide), a3]
    have n4 : (mst A 84 g i).1 82 4 = M.1 82 4 := by rw [mst_ne _ _ _ _ _ _ (by decide), a4]
    have nPS : HPS (mst A 84 g i) (flS (hW D h n w) lo t s (i + 1)) := ⟨by rw [mst_ne _ _ _ _ _ _ (by decide)]; exact sA.1, fun j p q => by rw [mst_ne _ _ _ _ _ _ (by decide)]; exact sA.2 j p q⟩
    have nP : ∀ j, 0 ≤ j → j < g + 1 → (mst A 84 g i).1 84 j = dg (lo + i * t) j := by
      intro j p q
      by_cases e : j = g
      · rw [e, mst_at]; exact (own _ (by omega) (by omega)).symm
      · rw [mst_nf _ _ _ _ _ _ e, pA j p (by omega), hp j p (by omega)]; exact (pre _ (by omega) (by omega) j p (by omega)).symm
    have nQ : ∀ j, j < g → (mst A 84 g i).1 84 j = A.1 84 j := fun j q => mst_nf _ _ _ _ _ _ (by omega)
    generalize mst A 84 g i = B at *
    have dB := dA.keep kN
    have dB' : TD B (B.1 82 3) D := by rw [n3]; exact dB
    rw [n3, tp7_ dB.1 ha, (dB.2.2.2.2.2.1 g g0 c).2]
    have oi := own (lo + i * t) (by omega) (by omega)
    have pi := pre (lo + i * t) (by omega) (by omega)
    have e1 : sI (dg (lo + i * t)) (g + 1) = sI (dg lo) g + i := by rw [sI_s g0, sI_cong pi, oi]
    have e2 : sI (fun j => dg (lo + i * t) j * D (74 + j)) (g + 1) = sI (fun j => dg lo j * D (74 + j)) g + i * D (74 + g) := by
      rw [sI_s g0, sI_cong (g := fun j => dg lo j * D (74 + j)) (fun j p q => by rw [pi j p q]), oi]
    have e3 : sI (fun j => dg (lo + i * t) j * D (79 + j)) (g + 1) = sI (fun j => dg lo j * D (79 + j)) g + i * D (79 + g) := by
      rw [sI_s g0, sI_cong (g := fun j => dg lo j * D (79 + j)) (fun j p q => by rw [pi j p q]), oi]
    refine PC.guard (fun _ => PC.guard (fun _ => ?_))
    rw [w32_of (x := g + 1) (by omega) (by omega), w32_of (x := th - i) (by omega) (by omega), w32_of (x := i * D (79 + g)) (by omega) (by omega), w32_of (x := wo + i * D (79 + g)) (by omega) (by omega)]
    have hA5 : TA (B.1 82 3) := by rw [n3]; exact ha
    refine PC.bind (PC.and (pick_V bd h0 h1 n9 w99 fu B (g + 1) (th - i) (wt - i * D (74 + g)) (wo + i * D (79 + g)) (lo + i * t) _ dB' (by rw [n4]; exact eh) (by omega) (by omega) (by omega) ⟨⟨by omega, by rw [ht]; omega⟩, tn_m g0 c lm (by rw [ht]), fun j p q => ?_, ⟨by omega, by omega⟩, ⟨by omega, by omega⟩, by omega⟩ nP nPS sge) (PC.of (pick_T fu B (g + 1) _ _ _ dB.1 hA5 (by rw [n4, eh]; exact ⟨h0, h1⟩) (by omega) (by omega) (by omega)))) (fun r q => hrec _ ⟨⟨by (try dsimp only); omega, by (try dsimp only); omega⟩, ⟨(kA.trans kN).trans q.2.1, q.2.2.1.trans n3, q.2.2.2.trans n4⟩, fun j p z' => ?_, ?_⟩)
    · by_cases e : j = g
      · rw [e, oi]; omega
      · rw [pi j p (by omega)]; exact pd j p (by omega)
    · (try dsimp only)
      rw [q.1.2 j p (by omega), nQ j z', pA j p z']
    · (try dsimp only)
      rw [show i + (-1) + 1 = i by omega, nx]
      rw [ht] at q
      exact q.1.1
theorem choose_V {a : Int} (d : TD M a D) (h0 : 0 ≤ h) (h1 : h < 6) (n0 : 0 ≤ n) (n9 : n ≤ 9) (w0 : 0 ≤ w) (w99 : w ≤ 99) : PC (fX2_choose M 82 a h n w) (fun r => HPS r (hB D h n w)) := by
  have hT := d.1
  have ha := d.2.1
  unfold fX2_choose
  refine PC.guard (fun _ => PC.guard (fun _ => PC.sM (PC.sM (PC.sM ?_))))
  have hK : Keep M (mst (mst (mst M 82 3 a) 82 4 h) 82 1 (-1)) := ((Keep.self.st rfl).st rfl).st rfl
  have e3 : (mst (mst (mst M 82 3 a) 82 4 h) 82 1 (-1)).1 82 3 = a := by rw [mst_nf _ _ _ _ _ _ (by decide), mst_nf _ _ _ _ _ _ (by decide), mst_at]
  have e4 : (mst (mst (mst M 82 3 a) 82 4 h) 82 1 (-1)).1 82 4 = h := by rw [mst_nf _ _ _ _ _ _ (by decide), mst_at]
  have e1 : (mst (mst (mst M 82 3 a) 82 4 h) 82 1 (-1)).1 82 1 = -1 := mst_at _ _ _ _
  generalize mst (mst (mst M 82 3 a) 82 4 h) 82 1 (-1) = N at *
  have dN := d.keep hK
  have hTN := dN.1
  rw [wp82_0 hTN]
  refine PC.bind (PC.of (fillRow_T (n := 5) 0 (wk83 hTN) (wl83 hTN) (by decide) (by decide))) (fun r9 q => ?_)
  have hK9 : Keep N r9 := Keep.of q.1 q.2.1 (fun _ => rfl)
  have d9 := dN.keep hK9
  have hT9 := d9.1
  rw [wp82_2 hT9]
  refine PC.guard (fun _ => PC.bind (PC.of (fillRow_T (n := 5) 0 (wk84 hT9) (wl84 hT9) (by decide) (by decide))) (fun r12 p => ?_))
  have hK12 : Keep r9 r12 := Keep.of p.1 p.2.1 (fun _ => rfl)
  have d12 := d9.keep hK12
  have f3 : r12.1 82 3 = a := by rw [p.2.1 82 3 (by decide), q.2.1 82 3 (by decide), e3]
  have f4 : r12.1 82 4 = h := by rw [p.2.1 82 4 (by decide), q.2.1 82 4 (by decide), e4]
  have f1 : r12.1 82 1 = -1 := by rw [p.2.1 82 1 (by decide), q.2.1 82 1 (by decide), e1]
  have f83 : ∀ j, 0 ≤ j → j < 5 → r12.1 83 j = dg 0 j := fun j j0 j1 => by
    rw [p.2.1 83 j (by decide), q.2.2 j, if_pos ⟨j0, j1⟩]
    rcases c5 j0 j1 with e | e | e | e | e <;> subst e <;> rfl
  refine PC.bind (pick_V d.bd h0 h1 n9 w99 20 r12 0 n w 0 0 (0, -1) (by rw [f3]; exact d12) f4 (by decide) (by decide) (by decide) ⟨⟨by decide, by decide⟩, by decide, fun j p q => by omega, ⟨by show n + 0 = n; omega, n0⟩, ⟨by show w + 0 = w; omega, w0⟩, rfl⟩ (fun j p q => by omega) ⟨f1, f83⟩ (by decide)) (fun r z => PC.ok z.1)
def hlS (D : Int → Int) (h n w x : Int) (b : Int × Int) : Int := if x = 0 then b.2 else dg b.1 (x - 10)
theorem haul_E (hI : INV2 M) (t h n w x : Int) : TT (fX10_haul M 0 t h n w x) (fun r => Keep M r.2 ∧ TT (fX11_haul r.2 85 t h n w x) (fun u => r.1 = u.1 ∧ Keep r.2 u.2)) := by
  have hT := hI.1.1
  refine TT.rrm (P := fun r => Keep M r.2) (Q := fun N u => Keep N u.2) (Y := fun N => fX11_haul N 85 t h n w x) (haulX_T hT t h n w x) (fun N hN => by obtain ⟨i, kN⟩ := hN; have kN : Keep M N := kN; exact haulY_T (hT.keep kN) t h n w x) (fun N hN => ?_)
  obtain ⟨_, kN⟩ := hN
  have kN : Keep M N := kN
  have k0 : Keep M (mst N 85 0 0) := kN.st rfl
  unfold fX10_haul fX11_haul
  rw [wp0_0 hT, townAt_V hT, wp0_5 hT, bd1]
  refine RR.gl (fun _ => RR.gl (fun _ => RR.gr (fun _ => RR.mr (RR.handR hI k0 t (fun c => ?_) (fun c N2 d k2 _ => ?_)))))
  · rw [if_neg c]
    exact RR.posl rfl (RR.posr rfl (RR.ok rfl))
  rw [if_pos c]
  have tt := townV_D hI c.1 c.2
  have bd := tt.bd
  have b0 := bd.1
  generalize (fun y => M.1 91 (92 * t + y)) = D at *
  refine RR.negl (by omega) (RR.negr n10 (RR.gl (fun _ => RR.gr (fun _ => ?_))))
  rw [tt.isHouse, d.isHouse bd]
  refine RR.flag (fun ch => ?_) (fun _ => RR.ok rfl)
  rw [in_v2, in_v2, in_v2]
  by_cases cn : 0 ≤ n ∧ n ≤ 9
  rotate_left
  · rw [if_neg cn]
    refine RR.br (PC.ok (Q := fun v => v = 0) rfl) (fun v hv => RR.posr hv (RR.il (fun _ => RR.ok rfl) (fun z1 => RR.posl (by omega) (RR.ok rfl))))
  rw [if_pos cn]
  refine RR.negl (by omega) (RR.negl (by omega) (RR.br (PC.ok (Q := fun v => v = 1) rfl) (fun v hv => RR.negr (by rw [hv]; decide) ?_)))
  by_cases cw : 0 ≤ w ∧ w ≤ 99
  rotate_left
  · rw [if_neg cw]
    refine RR.br (PC.ok (Q := fun v => v = 0) rfl) (fun v hv => RR.posr hv (RR.il (fun _ => RR.ok rfl) (fun z1 => RR.posl (by omega) (RR.ok rfl))))
  rw [if_pos cw]
  refine RR.negl (by omega) (RR.negl (by omega) (RR.br (PC.ok (Q := fun v => v = 1) rfl) (fun v hv => RR.negr (by rw [hv]; decide) (RR.jl (RR.jr ?_)))))
  by_cases cx : x = 0 ∨ (10 ≤ x ∧ x < 15)
  rotate_left
  · rw [if_neg (show ¬(10 ≤ x ∧ x ≤ 14) by omega)]
    exact RR.negl (by omega) (RR.negr (by omega) (RR.br (PC.ok (Q := fun v => v = 0) rfl) (fun v hv => RR.posr hv (RR.il (fun _ => RR.ok rfl) (fun z1 => RR.negl (by omega) (RR.ok rfl))))))
  have hX : PC (if M.2.1 82 = 2 then (fX2_choose M 82 (8 + 19 * t) h n w).bind fun r16 => if x = 0 then (if r16.2.1 0 = 9 then if r16.2.1 (r16.1 0 5) = 2 then some (r16.1 (r16.1 0 5) 1, r16) else none else none) else (if r16.2.1 0 = 9 then if r16.2.1 (r16.1 0 5) = 2 then if r16.2.1 (r16.1 (r16.1 0 5) 0) = 12 ∧ (0 : Int) ≤ (w32 (x - 10)) ∧ (w32 (x - 10)) < r16.2.2.1 (r16.1 (r16.1 0 5) 0) then some (r16.1 (r16.1 (r16.1 0 5) 0) (w32 (x - 10)), r16) else none else none else none) else none) (fun r => r.1 = hlS D h n w x (hB D h n w)) := by
    refine PC.guard (fun _ => PC.bind (PC.and (choose_V tt ch.1 (by omega) cn.1 cn.2 cw.1 cw.2) (PC.of (choose_T hT tt.2.1 h n w ch.1 (by omega)))) (fun r q => ?_))
    obtain ⟨⟨q1, q2⟩, q3⟩ := q
    have hTr := hT.keep q3
    rw [wp0_5 hTr, wp82_0 hTr]
    unfold hlS
    refine PC.ite (fun z => PC.guard (fun _ => PC.guard (fun _ => PC.ok (by rw [if_pos z]; exact q1)))) (fun z => ?_)
    rw [w32_of (x := x - 10) (by omega) (by omega)]
    exact PC.guard (fun _ => PC.guard (fun _ => PC.guard (fun _ => PC.ok (by rw [if_neg z]; exact q2 _ (by omega) (by omega)))))
  have hY : PC (iterC (fun (rec19 : (Int × Int × Int) → Option (Int × Mem)) (s20 : Int × Int × Int) => if s20.2.2 < 0 then (if x = 0 then (some (s20.2.1, N2)) else ((fX11_figure N2 s20.1 (w32 (x - 10))).bind fun r23 => some (r23, N2))) else ((fX11_haulWorth N2 85 s20.2.2 h n w).bind fun r25 => jn (fun (t28 : Int) => (fX11_greater N2 s20.2.1 r25).bind fun r29 => rec19 (t28, r29, w32 (s20.2.2 + (-1)))) (fun (j27 : Int → Option (Int × Mem)) => if s20.2.1 < r25 then (j27 s20.2.2) else (j27 s20.1)))) BIG (0, (-1), 99999)) (fun u => u.1 = hlS D h n w x (hB D h n w)) := by
    refine PC.iter (fun s => (-1 ≤ s.2.2 ∧ s.2.2 ≤ 99999) ∧ (0 ≤ s.1 ∧ s.1 < 100000) ∧ fl (hW D h n w) 0 (s.2.2 + 1).toNat (s.1, s.2.1) = hB D h n w) ?_ _ _ ⟨⟨by decide, by decide⟩, ⟨by decide, by decide⟩, by
      show fl (hW D h n w) 0 ((99999 : Int) + 1).toNat (0, -1) = hB D h n w
      unfold hB
      rw [show ((99999 : Int) + 1).toNat = 100000 by omega]⟩
    rintro rec ⟨b, m, c⟩ ⟨⟨c0, c1⟩, ⟨b0, b1⟩, hb⟩ hrec
    simp only at c0 c1 b0 b1 hb ⊢
    refine PC.ite (fun z => ?_) (fun z => PC.bind (d.haulWorth bd ch.1 (by omega) (show 0 ≤ c by omega) (by omega)) (fun v hv => PC.jI ?_))
    · rw [show (c + 1).toNat = 0 by omega] at hb
      have hb : (b, m) = hB D h n w := hb
      unfold hlS
      rw [← hb]
      refine PC.ite (fun z' => PC.ok (by rw [if_pos z'])) (fun z' => ?_)
      rw [w32_of (x := x - 10) (by omega) (by omega)]
      exact PC.bind (figure_V b0 b1 (by omega) (by omega)) (fun r q => PC.ok (by rw [if_neg z']; exact q))
    have ec : (c + 1).toNat = c.toNat + 1 := by omega
    rw [ec] at hb
    have hb : fl (hW D h n w) 0 c.toNat (stp (hW D h n w) (0 + ((c.toNat : Nat) : Int)) (b, m)) = hB D h n w := hb
    rw [show (0 : Int) + ((c.toNat : Nat) : Int) = c by omega] at hb
    have wc : w32 (c + (-1)) = c - 1 := w32_of (by omega) (by omega)
    unfold stp at hb
    simp only at hb
    rw [← hv] at hb
    refine PC.ite (fun z1 => ?_) (fun z1 => ?_)
    · rw [if_pos z1] at hb
      have gv : PC (fX11_greater N2 m v) (fun y => y = v) := by unfold fX11_greater; exact PC.ite (fun _ => PC.ok (by omega)) (fun _ => PC.ok rfl)
      refine PC.bind gv (fun y hy => hrec _ ?_)
      (try dsimp only)
      rw [hy, wc, show (c - 1 + 1).toNat = c.toNat by omega]
      exact ⟨⟨by omega, by omega⟩, ⟨by omega, by omega⟩, hb⟩
    · rw [if_neg z1] at hb
      have gv : PC (fX11_greater N2 m v) (fun y => y = m) := by unfold fX11_greater; exact PC.ite (fun _ => PC.ok rfl) (fun _ => PC.ok (by omega))
      refine PC.bind gv (fun y hy => hrec _ ?_)
      (try dsimp only)
      rw [hy, wc, show (c - 1 + 1).toNat = c.toNat by omega]
      exact ⟨⟨by omega, by omega⟩, ⟨b0, b1⟩, hb⟩
  rcases (show x = 0 ∨ (10 ≤ x ∧ x < 15) from cx) with e | e
  · exact RR.posl e (RR.posr e (RR.okp hX hY (fun r u p p' => by rw [p, p'])))
  · rw [if_pos (show 10 ≤ x ∧ x ≤ 14 by omega)]
    exact RR.negl (by omega) (RR.negl (by omega) (RR.posl e.2 (RR.negr (by omega) (RR.br (PC.ok (Q := fun v => v = 1) rfl) (fun v hv => RR.negr (by rw [hv]; decide) (RR.okp hX hY (fun r u p p' => by rw [p, p'])))))))
end Haul
