/-! both walks side by side: the relation, and the deeds that keep it -/
section WalkQ
variable {O P A B M N : Mem} {D L : Int → Int} {a l k q : Int}
def RWn (x x' n : Int) (A B : Mem) : Prop := ∀ y, 0 ≤ y → y < n → A.1 x y = B.1 x' y
section Rows
variable {x x' n i d v z : Int}
theorem RWn.inc (h : RWn x x' n A B) (i0 : 0 ≤ i) (i1 : i < n) : RWn x x' n (inc A x i d) (inc B x' i d) := by
  intro y y0 y1
  show (mst A x i _).1 x y = (mst B x' i _).1 x' y
  by_cases c : y = i
  · rw [c, mst_at, mst_at, h i i0 i1]
  · rw [mst_nf _ _ _ _ _ _ c, mst_nf _ _ _ _ _ _ c]; exact h y y0 y1
theorem RWn.dec (h : RWn x x' n A B) (i0 : 0 ≤ i) (i1 : i < n) : RWn x x' n (dec A x i d) (dec B x' i d) := by
  intro y y0 y1
  show (mst A x i _).1 x y = (mst B x' i _).1 x' y
  by_cases c : y = i
  · rw [c, mst_at, mst_at, h i i0 i1]
  · rw [mst_nf _ _ _ _ _ _ c, mst_nf _ _ _ _ _ _ c]; exact h y y0 y1
theorem RWn.st (h : RWn x x' n A B) : RWn x x' n (mst A x i v) (mst B x' i v) := by
  intro y y0 y1
  by_cases c : y = i
  · rw [c, mst_at, mst_at]
  · rw [mst_nf _ _ _ _ _ _ c, mst_nf _ _ _ _ _ _ c]; exact h y y0 y1
theorem RWn.lf (hz : x ≠ z) (h : RWn x x' n A B) : RWn x x' n (mst A z i v) B := fun y y0 y1 => by rw [mst_ne _ _ _ _ _ _ hz]; exact h y y0 y1
theorem RWn.rt (hz : x' ≠ z) (h : RWn x x' n A B) : RWn x x' n A (mst B z i v) := fun y y0 y1 => by rw [mst_ne _ _ _ _ _ _ hz]; exact h y y0 y1
def SBd' (A : Mem) : Prop := ∀ y, 0 ≤ y → y < 30 → 0 ≤ A.1 69 y ∧ A.1 69 y ≤ 9
theorem SBd'.lf (hz : 69 ≠ z) (h : SBd' A) : SBd' (mst A z i v) := fun y y0 y1 => by rw [mst_ne _ _ _ _ _ _ hz]; exact h y y0 y1
theorem SBd'.st (h : SBd' A) (v0 : 0 ≤ v) (v1 : v ≤ 9) : SBd' (mst A 69 i v) := fun y y0 y1 => by
  by_cases c : y = i
  · rw [c, mst_at]; exact ⟨v0, v1⟩
  · rw [mst_nf _ _ _ _ _ _ c]; exact h y y0 y1
end Rows
def WR (A B : Mem) : Prop := RWn 69 97 30 A B ∧ RWn 70 98 20 A B ∧ RWn 71 99 120 A B ∧ RWn 72 100 120 A B ∧ RWn 73 103 4 A B ∧ RWn 74 104 4 A B ∧ RWn 75 105 4 A B ∧ RWn 76 101 4 A B ∧ RWn 77 102 4 A B ∧ (A.1 68 13 = B.1 85 41 ∧ 0 ≤ A.1 68 13 ∧ A.1 68 13 ≤ 15) ∧ A.1 68 14 = B.1 85 40 ∧ SBd' A
/-- both walks stand in one town, under one law, alike -/
def WB (O P : Mem) (a l k q : Int) (D L : Int → Int) (A B : Mem) : Prop := CW O A a l D L ∧ RW' P B k q D L ∧ (DBd D ∧ LBd L) ∧ WR A B
theorem WB.take (h : WB O P a l k q D L A B) (t h' : Int) {g : Int} (g0 : 0 ≤ g) (g1 : g < 5) : RR (fX9_takeOne A 68 t h' g) (fX11_takes B 85 t h' g) (fun r u => r.1 = u.1 ∧ WB O P a l k q D L r.2 u.2) := by
  obtain ⟨c, e, ⟨bd, lb⟩, r69, r70, r71, r72, r73, r74, r75, r76, r77, rc, rn, rs⟩ := h
  have b0 := bd.1
  have b1 := bd.2.1
  have hi : tkP A D t h' g ↔ tkPR B D t h' g := by
    unfold tkP tkPR
    rw [rc.1]
    constructor
    · rintro ⟨z1, z2, _, z4, z5⟩
      rw [r69 _ (by omega) (by omega)] at z4
      rw [r76 _ z1.1.1 (by omega)] at z5
      exact ⟨z1, z2, by omega, z5⟩
    · rintro ⟨z1, z2, z4, z5⟩
      have s := rs (5 * h' + g) (by omega) (by omega)
      rw [← r69 _ (by omega) (by omega)] at z4
      rw [← r76 _ z1.1.1 (by omega)] at z5
      exact ⟨z1, z2, ⟨g0, g1⟩, by omega, z5⟩
  refine RR.okp (c.take t h' g) (e.take bd t h' g0 g1) (fun r u p p' => ?_)
  rcases p with ⟨rfl, p⟩ | ⟨rfl, p⟩
  · rcases p' with ⟨rfl, p'⟩ | ⟨rfl, p'⟩
    · exact ⟨rfl, c, e, ⟨bd, lb⟩, r69, r70, r71, r72, r73, r74, r75, r76, r77, rc, rn, rs⟩
    · exact absurd (hi.mpr p') p
  · rcases p' with ⟨rfl, p'⟩ | ⟨rfl, p'⟩
    · exact absurd (hi.mp p) p'
    obtain ⟨⟨⟨t0, t1⟩, _⟩, ⟨h0, h1⟩, _, s1, _⟩ := p
    have s2 := (rs (5 * h' + g) (by omega) (by omega)).2
    have sv : w32 (A.1 69 (5 * h' + g) - 1) = A.1 69 (5 * h' + g) - 1 := w32_of (by omega) (by omega)
    refine ⟨rfl, ?_, ?_, ⟨bd, lb⟩, ?_⟩
    · exact (((((((c.st (by decide)).st (by decide)).st (by decide)).st (by decide)).st (by decide)).st (by decide)).stF (by decide))
    · exact (((((((e.st (by decide)).st (by decide)).st (by decide)).st (by decide)).st (by decide)).st (by decide)).st (by decide))
    · exact ⟨RWn.lf (by decide) (RWn.lf (by decide) (RWn.lf (by decide) (RWn.lf (by decide) (RWn.lf (by decide) (RWn.lf (by decide) (RWn.rt (by decide) (RWn.rt (by decide) (RWn.rt (by decide) (RWn.rt (by decide) (RWn.rt (by decide) (RWn.rt (by decide) (RWn.dec (r69) (by omega) (by omega))))))))))))), RWn.lf (by decide) (RWn.lf (by decide) (RWn.lf (by decide) (RWn.lf (by decide) (RWn.lf (by decide) (RWn.rt (by decide) (RWn.rt (by decide) (RWn.rt (by decide) (RWn.rt (by decide) (RWn.rt (by decide) (RWn.inc (RWn.lf (by decide) (RWn.rt (by decide) (r70))) (by omega) (by omega))))))))))), RWn.lf (by decide) (RWn.lf (by decide) (RWn.lf (by decide) (RWn.lf (by decide) (RWn.rt (by decide) (RWn.rt (by decide) (RWn.rt (by decide) (RWn.rt (by decide) (RWn.inc (RWn.lf (by decide) (RWn.lf (by decide) (RWn.rt (by decide) (RWn.rt (by decide) (r71))))) (by omega) (by omega))))))))), RWn.lf (by decide) (RWn.lf (by decide) (RWn.lf (by decide) (RWn.lf (by decide) (RWn.lf (by decide) (RWn.lf (by decide) (RWn.lf (by decide) (RWn.rt (by decide) (RWn.rt (by decide) (RWn.rt (by decide) (RWn.rt (by decide) (RWn.rt (by decide) (RWn.rt (by decide) (RWn.rt (by decide) (r72)))))))))))))), RWn.lf (by decide) (RWn.lf (by decide) (RWn.lf (by decide) (RWn.rt (by decide) (RWn.rt (by decide) (RWn.inc (RWn.lf (by decide) (RWn.lf (by decide) (RWn.lf (by decide) (RWn.rt (by decide) (RWn.rt (by decide) (RWn.rt (by decide) (RWn.rt (by decide) (r73)))))))) (by omega) (by omega)))))), RWn.lf (by decide) (RWn.lf (by decide) (RWn.lf (by decide) (RWn.lf (by decide) (RWn.lf (by decide) (RWn.lf (by decide) (RWn.lf (by decide) (RWn.rt (by decide) (RWn.rt (by decide) (RWn.rt (by decide) (RWn.rt (by decide) (RWn.rt (by decide) (RWn.rt (by decide) (RWn.rt (by decide) (r74)))))))))))))), RWn.lf (by decide) (RWn.lf (by decide) (RWn.lf (by decide) (RWn.lf (by decide) (RWn.lf (by decide) (RWn.lf (by decide) (RWn.lf (by decide) (RWn.rt (by decide) (RWn.rt (by decide) (RWn.rt (by decide) (RWn.rt (by decide) (RWn.rt (by decide) (RWn.rt (by decide) (RWn.rt (by decide) (r75)))))))))))))), RWn.lf (by decide) (RWn.lf (by decide) (RWn.rt (by decide) (RWn.rt (by decide) (RWn.rt (by decide) (RWn.inc (RWn.lf (by decide) (RWn.lf (by decide) (RWn.lf (by decide) (RWn.lf (by decide) (RWn.rt (by decide) (RWn.rt (by decide) (RWn.rt (by decide) (r76)))))))) (by omega) (by omega)))))), RWn.lf (by decide) (RWn.lf (by decide) (RWn.lf (by decide) (RWn.lf (by decide) (RWn.lf (by decide) (RWn.lf (by decide) (RWn.lf (by decide) (RWn.rt (by decide) (RWn.rt (by decide) (RWn.rt (by decide) (RWn.rt (by decide) (RWn.rt (by decide) (RWn.rt (by decide) (RWn.rt (by decide) (r77)))))))))))))), ⟨rc.1, rc.2⟩, rn, SBd'.lf (by decide) (SBd'.lf (by decide) (SBd'.lf (by decide) (SBd'.lf (by decide) (SBd'.lf (by decide) (SBd'.lf (by decide) (SBd'.st rs (by rw [sv]; omega) (by rw [sv]; omega)))))))⟩
theorem WB.give (h : WB O P a l k q D L A B) (t h' : Int) {g : Int} (g0 : 0 ≤ g) (g1 : g < 5) : RR (fX9_giveOne A 68 t h' g) (fX11_gives B 85 t h' g) (fun r u => r.1 = u.1 ∧ WB O P a l k q D L r.2 u.2) := by
  obtain ⟨c, e, ⟨bd, lb⟩, r69, r70, r71, r72, r73, r74, r75, r76, r77, rc, rn, rs⟩ := h
  have b0 := bd.1
  have b1 := bd.2.1
  have hi : gvP A D t h' g ↔ gvPR B D t h' g := by
    unfold gvP gvPR mgP
    rw [rc.1]
    constructor
    · rintro ⟨z1, z2, _, z4, z5, z6⟩
      rw [r70 _ (by omega) (by omega)] at z4
      rw [r69 _ (by omega) (by omega)] at z5
      rw [r71 _ (by omega) (by omega)] at z6
      exact ⟨z1, z2, by omega, z5, z6⟩
    · rintro ⟨z1, z2, z4, z5, z6⟩
      rw [← r70 _ (by omega) (by omega)] at z4
      rw [← r69 _ (by omega) (by omega)] at z5
      rw [← r71 _ (by omega) (by omega)] at z6
      exact ⟨z1, z2, ⟨g0, g1⟩, by omega, z5, z6⟩
  refine RR.okp (c.give t h' g) (e.give bd t h' g0 g1) (fun r u p p' => ?_)
  rcases p with ⟨rfl, p⟩ | ⟨rfl, p⟩
  · rcases p' with ⟨rfl, p'⟩ | ⟨rfl, p'⟩
    · exact ⟨rfl, c, e, ⟨bd, lb⟩, r69, r70, r71, r72, r73, r74, r75, r76, r77, rc, rn, rs⟩
    · exact absurd (hi.mpr p') p
  · rcases p' with ⟨rfl, p'⟩ | ⟨rfl, p'⟩
    · exact absurd (hi.mp p) p'
    obtain ⟨⟨⟨t0, t1⟩, _⟩, ⟨h0, h1⟩, _, s1, s3, _⟩ := p
    have s2 := rs (5 * h' + g) (by omega) (by omega)
    have nb := (bd.2.2.1 (5 * h' + g) (by omega) (by omega)).2
    have sv : w32 (A.1 69 (5 * h' + g) + 1) = A.1 69 (5 * h' + g) + 1 := w32_of (by omega) (by omega)
    have sv' : w32 ((dec A 70 (5 * t + g) 1).1 69 (5 * h' + g) + 1) = A.1 69 (5 * h' + g) + 1 := sv
    refine ⟨rfl, ?_, ?_, ⟨bd, lb⟩, ?_⟩
    · exact (((((c.st (by decide)).st (by decide)).st (by decide)).st (by decide)).st (by decide))
    · exact (((((e.st (by decide)).st (by decide)).st (by decide)).st (by decide)).st (by decide))
    · show WR (gvC A D L t h' g) (gvR B D L t h' g)
      unfold gvC gvR
      rw [← rn]
      exact ⟨RWn.lf (by decide) (RWn.lf (by decide) (RWn.lf (by decide) (RWn.rt (by decide) (RWn.rt (by decide) (RWn.rt (by decide) (RWn.inc (RWn.lf (by decide) (RWn.rt (by decide) (r69))) (by omega) (by omega))))))), RWn.lf (by decide) (RWn.lf (by decide) (RWn.lf (by decide) (RWn.lf (by decide) (RWn.rt (by decide) (RWn.rt (by decide) (RWn.rt (by decide) (RWn.rt (by decide) (RWn.dec (r70) (by omega) (by omega))))))))), RWn.lf (by decide) (RWn.lf (by decide) (RWn.lf (by decide) (RWn.lf (by decide) (RWn.lf (by decide) (RWn.rt (by decide) (RWn.rt (by decide) (RWn.rt (by decide) (RWn.rt (by decide) (RWn.rt (by decide) (r71)))))))))), RWn.lf (by decide) (RWn.lf (by decide) (RWn.rt (by decide) (RWn.rt (by decide) (RWn.inc (RWn.lf (by decide) (RWn.lf (by decide) (RWn.rt (by decide) (RWn.rt (by decide) (r72))))) (by omega) (by omega))))), RWn.lf (by decide) (RWn.lf (by decide) (RWn.lf (by decide) (RWn.lf (by decide) (RWn.lf (by decide) (RWn.rt (by decide) (RWn.rt (by decide) (RWn.rt (by decide) (RWn.rt (by decide) (RWn.rt (by decide) (r73)))))))))), RWn.lf (by decide) (RWn.rt (by decide) (RWn.inc (RWn.lf (by decide) (RWn.lf (by decide) (RWn.lf (by decide) (RWn.rt (by decide) (RWn.rt (by decide) (RWn.rt (by decide) (r74))))))) (by omega) (by omega))), RWn.lf (by decide) (RWn.lf (by decide) (RWn.lf (by decide) (RWn.lf (by decide) (RWn.lf (by decide) (RWn.rt (by decide) (RWn.rt (by decide) (RWn.rt (by decide) (RWn.rt (by decide) (RWn.rt (by decide) (r75)))))))))), RWn.lf (by decide) (RWn.lf (by decide) (RWn.lf (by decide) (RWn.lf (by decide) (RWn.lf (by decide) (RWn.rt (by decide) (RWn.rt (by decide) (RWn.rt (by decide) (RWn.rt (by decide) (RWn.rt (by decide) (r76)))))))))), RWn.inc (RWn.lf (by decide) (RWn.lf (by decide) (RWn.lf (by decide) (RWn.lf (by decide) (RWn.rt (by decide) (RWn.rt (by decide) (RWn.rt (by decide) (RWn.rt (by decide) (r77))))))))) (by omega) (by omega), ⟨rc.1, rc.2⟩, rn, SBd'.lf (by decide) (SBd'.lf (by decide) (SBd'.lf (by decide) (SBd'.st (SBd'.lf (by decide) rs) (by rw [sv']; omega) (by rw [sv']; omega))))⟩
theorem WB.set (h : WB O P a l k q D L A B) (x y : Int) {n : Int} (n1 : 1 ≤ n) : RR (fX9_setOff A 68 x y n) (fX11_sets B 85 x y n) (fun r u => r.1 = u.1 ∧ WB O P a l k q D L r.2 u.2) := by
  obtain ⟨c, e, ⟨bd, lb⟩, r69, r70, r71, r72, r73, r74, r75, r76, r77, rc, rn, rs⟩ := h
  have b1 := bd.2.1
  have ow : ∀ t, 0 ≤ t → t < 4 → owS A L t = owR B L t := fun t t0 t1 => by unfold owS owR; rw [r73 t t0 t1, r74 t t0 t1]
  have hi : stP A D L x y n ↔ stPR B D L x y n := by
    unfold stP stPR
    rw [rc.1]
    constructor
    · rintro ⟨z1, z2, _, z4, _, z5, z6⟩
      rw [ow x z1.1.1 (by omega)] at z5
      rw [ow y z2.1.1 (by omega)] at z6
      exact ⟨z1, z2, z4, z5, z6⟩
    · rintro ⟨z1, z2, z4, z5, z6⟩
      rw [← ow x z1.1.1 (by omega)] at z5
      rw [← ow y z2.1.1 (by omega)] at z6
      refine ⟨z1, z2, fun e => ?_, z4, n1, z5, z6⟩
      rw [← e] at z6
      have := w32_r ((w32 ((A.1 73 x).tdiv (L 0))) - A.1 74 x)
      have hr : r32 (owS A L x) := this
      unfold r32 at hr
      rw [w32_of (by omega) (by omega)] at z6
      omega
  refine RR.okp (c.set lb x y n) (e.set bd x y n) (fun r u p p' => ?_)
  rcases p with ⟨rfl, p⟩ | ⟨rfl, p⟩
  · rcases p' with ⟨rfl, p'⟩ | ⟨rfl, p'⟩
    · exact ⟨rfl, c, e, ⟨bd, lb⟩, r69, r70, r71, r72, r73, r74, r75, r76, r77, rc, rn, rs⟩
    · exact absurd (hi.mpr p') p
  · rcases p' with ⟨rfl, p'⟩ | ⟨rfl, p'⟩
    · exact absurd (hi.mp p) p'
    obtain ⟨⟨⟨x0, x1⟩, _⟩, ⟨⟨y0, y1⟩, _⟩, _⟩ := p
    refine ⟨rfl, ?_, ?_, ⟨bd, lb⟩, ?_⟩
    · exact (c.st (by decide)).st (by decide)
    · exact (e.st (by decide)).st (by decide)
    · exact ⟨RWn.lf (by decide) (RWn.lf (by decide) (RWn.rt (by decide) (RWn.rt (by decide) (r69)))), RWn.lf (by decide) (RWn.lf (by decide) (RWn.rt (by decide) (RWn.rt (by decide) (r70)))), RWn.lf (by decide) (RWn.lf (by decide) (RWn.rt (by decide) (RWn.rt (by decide) (r71)))), RWn.lf (by decide) (RWn.lf (by decide) (RWn.rt (by decide) (RWn.rt (by decide) (r72)))), RWn.lf (by decide) (RWn.lf (by decide) (RWn.rt (by decide) (RWn.rt (by decide) (r73)))), RWn.dec (RWn.inc (r74) (by omega) (by omega)) (by omega) (by omega), RWn.lf (by decide) (RWn.lf (by decide) (RWn.rt (by decide) (RWn.rt (by decide) (r75)))), RWn.lf (by decide) (RWn.lf (by decide) (RWn.rt (by decide) (RWn.rt (by decide) (r76)))), RWn.lf (by decide) (RWn.lf (by decide) (RWn.rt (by decide) (RWn.rt (by decide) (r77)))), ⟨rc.1, rc.2⟩, rn, SBd'.lf (by decide) (SBd'.lf (by decide) rs)⟩
theorem bor_all : ∀ x : Fin 16, bOr ((x : Nat) : Int) 0 = ((x : Nat) : Int) ∧ ∀ t : Fin 4, 0 ≤ bOr ((x : Nat) : Int) (bShl 1 ((t : Nat) : Int)) ∧ bOr ((x : Nat) : Int) (bShl 1 ((t : Nat) : Int)) ≤ 15 := by decide +kernel
theorem bor_V {x t : Int} (x0 : 0 ≤ x) (x1 : x ≤ 15) (t0 : 0 ≤ t) (t1 : t < 4) : bOr x 0 = x ∧ 0 ≤ bOr x (bShl 1 t) ∧ bOr x (bShl 1 t) ≤ 15 := by
  have h := bor_all ⟨x.toNat, by omega⟩
  have g := h.2 ⟨t.toNat, by omega⟩
  rw [show (((⟨x.toNat, by omega⟩ : Fin 16) : Nat) : Int) = x by show ((x.toNat : Nat) : Int) = x; omega] at h g
  rw [show (((⟨t.toNat, by omega⟩ : Fin 4) : Nat) : Int) = t by show ((t.toNat : Nat) : Int) = t; omega] at g
  exact ⟨h.1, g⟩
set_option maxHeartbeats 2000000 in
theorem WB.ends (h : WB O P a l k q D L A B) : RR (fX9_nightEnds A 68) (fX11_ends B 85) (fun r u => WB O P a l k q D L r u) := by
  have b1 := h.2.2.1.1.2.1
  unfold fX9_nightEnds fX11_ends
  refine RR.iter (fun s t => s.1 = t.1 ∧ (0 ≤ s.1 ∧ s.1 ≤ D 1) ∧ WB O P a l k q D L s.2 t.2) ?_ _ _ _ _ ⟨rfl, ⟨by (try dsimp only); omega, by (try dsimp only); omega⟩, h⟩
  clear h
  rintro rec rec' ⟨i, A⟩ ⟨i', B⟩ ⟨e1, ⟨i0, i1⟩, h⟩ hrec
  simp only at e1 i0 i1 h ⊢
  subst e1
  have h' := h
  obtain ⟨c, e, ⟨bd, lb⟩, r69, r70, r71, r72, r73, r74, r75, r76, r77, rc, rn, rs⟩ := h
  have hT := c.1.1
  have hR := e.1.1
  have w8 := wp68_8 hT
  have w9 := wp68_9 hT
  have w10 := wp68_10 hT
  have v37 := wp85_37 hR
  have v34 := wp85_34 hR
  have v33 := wp85_33 hR
  have wi : w32 (i + 1) = i + 1 := w32_of (by omega) (by omega)
  have e68 := c.2.2.1
  have el := c.2.2.2.1
  rw [e68, c.1.2.2.1.2, e.1.2.2.1.2.2, w8, w10, v37, v34]
  refine RR.gl (fun _ => RR.gl (fun _ => RR.gr (fun _ => RR.ii Iff.rfl (fun c1 _ => ?_) (fun c1 _ => ?_))))
  rotate_left
  · refine RR.ml (RR.mr (RR.ok ?_))
    refine ⟨c.stF (by decide), e.stF rfl (by decide), ⟨bd, lb⟩, RWn.lf (by decide) (RWn.rt (by decide) r69), RWn.lf (by decide) (RWn.rt (by decide) r70), RWn.lf (by decide) (RWn.rt (by decide) r71), RWn.lf (by decide) (RWn.rt (by decide) r72), RWn.lf (by decide) (RWn.rt (by decide) r73), RWn.lf (by decide) (RWn.rt (by decide) r74), RWn.lf (by decide) (RWn.rt (by decide) r75), RWn.lf (by decide) (RWn.rt (by decide) r76), RWn.lf (by decide) (RWn.rt (by decide) r77), ⟨rc.1, rc.2⟩, ?_, SBd'.lf (by decide) rs⟩
    rw [mst_at, mst_at, rn]
  have ev : A.1 75 i + A.1 77 i = B.1 105 i + B.1 102 i := by rw [r75 i i0 (by omega), r77 i i0 (by omega)]
  refine RR.gl (fun _ => RR.gl (fun _ => RR.gl (fun _ => RR.ml ?_)))
  refine RR.gr (fun _ => RR.gr (fun _ => RR.gr (fun _ => RR.mr ?_)))
  rw [← ev]
  simp only [rc_75, rr_105, w8, w9, w10, v37, v34, v33, el]
  refine RR.gr (fun _ => RR.mr ?_)
  simp only [rr_102, rr_105, w8, w9, w10, v37, v34, v33, el]
  refine RR.gr (fun _ => RR.mr ?_)
  simp only [rr_101, rr_102, rr_105, w8, w9, w10, v37, v34, v33, el]
  generalize hv : w32 (A.1 75 i + A.1 77 i) = v
  have c2 : CW O (mst A 75 i v) a l D L := c.st (by decide)
  have e2 : RW' P (mst (mst (mst B 105 i v) 102 i 0) 101 i 0) k q D L := ((e.st (by decide)).st (by decide)).st (by decide)
  refine RR.gr (fun _ => ?_)
  rw [e2.2.1.lawOf (i := 1) (by decide) (by decide)]
  refine RR.br (PC.ok (Q := fun x => x = L 1) rfl) (fun x hx => RR.jr ?_)
  subst hx
  refine RR.gl (fun _ => RR.gl (fun _ => RR.jl ?_))
  rw [mst_at, c2.2.1.2.2.2.1, show (mst (mst (mst B 105 i v) 102 i 0) 101 i 0).1 105 i = v from by rw [mst_ne _ _ _ _ _ _ (by decide), mst_ne _ _ _ _ _ _ (by decide), mst_at]]
  obtain ⟨o1, o2, o3⟩ := bor_V (t := i) rc.2.1 rc.2.2 i0 (by omega)
  have fin : ∀ x y : Int, x = y → 0 ≤ x → x ≤ 15 → ∀ A' : Mem, (A' = mst (mst (mst A 75 i v) 68 13 x) 77 i 0 ∨ (x = A.1 68 13 ∧ A' = mst (mst A 75 i v) 77 i 0)) → WB O P a l k q D L (mst A' 76 i 0) (mst (mst (mst (mst B 105 i v) 102 i 0) 101 i 0) 85 41 y) := by
    intro x y xy x0 x1 A' hA'
    subst xy
    rcases hA' with rfl | ⟨hx, rfl⟩
    · refine ⟨((c2.stF (by decide)).st (by decide)).st (by decide), e2.stF rfl (by decide), ⟨bd, lb⟩, RWn.lf (by decide) (RWn.lf (by decide) (RWn.lf (by decide) (RWn.lf (by decide) (RWn.rt (by decide) (RWn.rt (by decide) (RWn.rt (by decide) (RWn.rt (by decide) (r69)))))))), RWn.lf (by decide) (RWn.lf (by decide) (RWn.lf (by decide) (RWn.lf (by decide) (RWn.rt (by decide) (RWn.rt (by decide) (RWn.rt (by decide) (RWn.rt (by decide) (r70)))))))), RWn.lf (by decide) (RWn.lf (by decide) (RWn.lf (by decide) (RWn.lf (by decide) (RWn.rt (by decide) (RWn.rt (by decide) (RWn.rt (by decide) (RWn.rt (by decide) (r71)))))))), RWn.lf (by decide) (RWn.lf (by decide) (RWn.lf (by decide) (RWn.lf (by decide) (RWn.rt (by decide) (RWn.rt (by decide) (RWn.rt (by decide) (RWn.rt (by decide) (r72)))))))), RWn.lf (by decide) (RWn.lf (by decide) (RWn.lf (by decide) (RWn.lf (by decide) (RWn.rt (by decide) (RWn.rt (by decide) (RWn.rt (by decide) (RWn.rt (by decide) (r73)))))))), RWn.lf (by decide) (RWn.lf (by decide) (RWn.lf (by decide) (RWn.lf (by decide) (RWn.rt (by decide) (RWn.rt (by decide) (RWn.rt (by decide) (RWn.rt (by decide) (r74)))))))), RWn.lf (by decide) (RWn.lf (by decide) (RWn.lf (by decide) (RWn.rt (by decide) (RWn.rt (by decide) (RWn.rt (by decide) (RWn.st (r75))))))), RWn.rt (by decide) (RWn.st (RWn.lf (by decide) (RWn.lf (by decide) (RWn.lf (by decide) (RWn.rt (by decide) (RWn.rt (by decide) (r76))))))), RWn.lf (by decide) (RWn.rt (by decide) (RWn.rt (by decide) (RWn.st (RWn.lf (by decide) (RWn.lf (by decide) (RWn.rt (by decide) (r77))))))), ⟨?_, ?_⟩, ?_, SBd'.lf (by decide) (SBd'.lf (by decide) (SBd'.lf (by decide) (SBd'.lf (by decide) rs)))⟩
      · rw [mst_ne _ _ _ _ _ _ (by decide), mst_ne _ _ _ _ _ _ (by decide), mst_at, mst_at]
      · rw [mst_ne _ _ _ _ _ _ (by decide), mst_ne _ _ _ _ _ _ (by decide), mst_at]; exact ⟨x0, x1⟩
      · exact rn
    · refine ⟨(c2.st (by decide)).st (by decide), e2.stF rfl (by decide), ⟨bd, lb⟩, RWn.lf (by decide) (RWn.lf (by decide) (RWn.lf (by decide) (RWn.rt (by decide) (RWn.rt (by decide) (RWn.rt (by decide) (RWn.rt (by decide) (r69))))))), RWn.lf (by decide) (RWn.lf (by decide) (RWn.lf (by decide) (RWn.rt (by decide) (RWn.rt (by decide) (RWn.rt (by decide) (RWn.rt (by decide) (r70))))))), RWn.lf (by decide) (RWn.lf (by decide) (RWn.lf (by decide) (RWn.rt (by decide) (RWn.rt (by decide) (RWn.rt (by decide) (RWn.rt (by decide) (r71))))))), RWn.lf (by decide) (RWn.lf (by decide) (RWn.lf (by decide) (RWn.rt (by decide) (RWn.rt (by decide) (RWn.rt (by decide) (RWn.rt (by decide) (r72))))))), RWn.lf (by decide) (RWn.lf (by decide) (RWn.lf (by decide) (RWn.rt (by decide) (RWn.rt (by decide) (RWn.rt (by decide) (RWn.rt (by decide) (r73))))))), RWn.lf (by decide) (RWn.lf (by decide) (RWn.lf (by decide) (RWn.rt (by decide) (RWn.rt (by decide) (RWn.rt (by decide) (RWn.rt (by decide) (r74))))))), RWn.lf (by decide) (RWn.lf (by decide) (RWn.rt (by decide) (RWn.rt (by decide) (RWn.rt (by decide) (RWn.st (r75)))))), RWn.rt (by decide) (RWn.st (RWn.lf (by decide) (RWn.lf (by decide) (RWn.rt (by decide) (RWn.rt (by decide) (r76)))))), RWn.lf (by decide) (RWn.rt (by decide) (RWn.rt (by decide) (RWn.st (RWn.lf (by decide) (RWn.rt (by decide) (r77)))))), ⟨?_, ?_⟩, ?_, SBd'.lf (by decide) (SBd'.lf (by decide) (SBd'.lf (by decide) rs))⟩
      · rw [mst_at, hx]; rfl
      · exact rc.2
      · exact rn
  refine RR.ii Iff.rfl (fun z _ => ?_) (fun z _ => ?_)
  · refine RR.gl (fun _ => ?_)
    simp only [rc_75, w8, w9, w10]
    refine RR.gl (fun _ => RR.ml ?_)
    simp only [rc_77, rc_75, w8, w9, w10]
    refine RR.gl (fun _ => RR.ml (RR.mr ?_))
    refine hrec _ _ ⟨rfl, ⟨by (try dsimp only); omega, by (try dsimp only); omega⟩, ?_⟩
    exact fin (A.1 68 13) _ (by rw [← rc.1, o1]) rc.2.1 rc.2.2 _ (Or.inr ⟨rfl, rfl⟩)
  · refine RR.ml (RR.gl (fun _ => ?_))
    have f10 : (mst (mst A 75 i v) 68 13 (bOr (A.1 68 13) (bShl 1 i))).1 68 10 = 77 := w10
    have f9 : (mst (mst (mst A 75 i v) 68 13 (bOr (A.1 68 13) (bShl 1 i))) 77 i 0).1 68 9 = 76 := w9
    rw [f10]
    refine RR.gl (fun _ => RR.ml ?_)
    rw [f9]
    refine RR.gl (fun _ => RR.ml (RR.mr ?_))
    refine hrec _ _ ⟨rfl, ⟨by (try dsimp only); omega, by (try dsimp only); omega⟩, ?_⟩
    exact fin (bOr (A.1 68 13) (bShl 1 i)) _ (by rw [← rc.1]) o2 o3 _ (Or.inl rfl)
end WalkQ
