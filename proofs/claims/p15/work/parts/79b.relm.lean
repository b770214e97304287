/-! a Told and a layer that move -/
section RelM
variable {M N : Mem}
/-- layer q' of N is as layer q of M -/
def LY (M N : Mem) (q q' : Int) : Prop := (N.1 87 q' = M.1 87 q ∧ N.1 88 q' = M.1 88 q ∧ N.1 89 q' = M.1 89 q) ∧ (∀ i, 0 ≤ i → i < 600 → N.1 86 (600 * q' + i) = M.1 86 (600 * q + i)) ∧ (∀ s, 0 ≤ s → s < 4 → N.1 90 (4 * q' + s) = M.1 90 (4 * q + s)) ∧ ∀ s t y, 0 ≤ s → s < 4 → 0 ≤ t → t < 2 → 0 ≤ y → y < wd s → N.1 (91 + s) (wd s * (2 * q' + t) + y) = M.1 (91 + s) (wd s * (2 * q + t) + y)
/-- the Told at b' of N is as that at b of M -/
def BK (M N : Mem) (b b' : Int) : Prop := (∀ y, 1 ≤ y → y ≤ 3 → N.1 b' y = M.1 b y) ∧ (∀ i, 0 ≤ i → i < 600 → N.1 (b' + 1) i = M.1 (b + 1) i) ∧ (∀ s, 0 ≤ s → s < 4 → N.1 (b' + 2) s = M.1 (b + 2) s) ∧ ∀ s t k y, 0 ≤ s → s < 4 → 0 ≤ t → t < 2 → dO s k y → N.1 (b' + ob s + 19 * t + k) y = M.1 (b + ob s + 19 * t + k) y
theorem TR.mv {b b' q q' : Int} (h : TR M b q) (h6 : M.1 b 1 ≤ 600) (c : BK M N b b') (l : LY M N q q') : TR N b' q' := by
  obtain ⟨⟨h1, h2, h3⟩, h4, h5, h7⟩ := h
  obtain ⟨c1, c2, c3, c4⟩ := c
  obtain ⟨⟨l1, l2, l3⟩, l4, l5, l6⟩ := l
  refine ⟨⟨?_, ?_, ?_⟩, fun i a d => ?_, fun s a d => ?_, fun s t a d e f => ?_⟩
  · rw [c1 1 (by decide) (by decide), l1]; exact h1
  · rw [c1 2 (by decide) (by decide), l2]; exact h2
  · rw [c1 3 (by decide) (by decide), l3]; exact h3
  · rw [c1 1 (by decide) (by decide)] at d
    rw [c2 i a (by omega), l4 i a (by omega)]; exact h4 i a d
  · rw [c3 s a d, l5 s a d]; exact h5 s a d
  · rw [c3 s a d] at f
    have t2 := (h5 s a d).2
    exact ((h7 s t a d e f).mv (fun k y dk => c4 s t k y a d e (by omega) dk)).row (fun y y0 y1 => l6 s t y a d e (by omega) y0 y1)
theorem LY.self (q : Int) : LY M M q q := ⟨⟨rfl, rfl, rfl⟩, fun _ _ _ => rfl, fun _ _ _ => rfl, fun _ _ _ _ _ _ _ _ _ => rfl⟩
theorem LY.of (q : Int) (f : ∀ x y, 86 ≤ x → x ≤ 94 → N.1 x y = M.1 x y) : LY M N q q := ⟨⟨f 87 _ (by decide) (by decide), f 88 _ (by decide) (by decide), f 89 _ (by decide) (by decide)⟩, fun _ _ _ => f 86 _ (by decide) (by decide), fun _ _ _ => f 90 _ (by decide) (by decide), fun s _ _ _ _ _ _ _ _ => f (91 + s) _ (by omega) (by omega)⟩
theorem BK.of (b : Int) (e : ∀ x y, b ≤ x → x < b + 45 → N.1 x y = M.1 x y) : BK M N b b := ⟨fun y _ _ => e b y (by omega) (by omega), fun i _ _ => e _ i (by omega) (by omega), fun s _ _ => e _ s (by omega) (by omega), fun s t k y _ _ _ _ d => by have := dO_b d; exact e _ y (by omega) (by omega)⟩
/-- a cell that tells something is of the set that is copied -/
theorem dO_dat {s t k y : Int} (s0 : 0 ≤ s) (s4 : s < 4) (t0 : 0 ≤ t) (t2 : t < 2) (d : dO s k y) : datT (ob s + 19 * t + k) y = true := by
  have key : cpT t (ob s + 19 * t + k) y = true := by
    unfold cpT
    rw [Bool.or_eq_true, Bool.or_eq_true, Bool.or_eq_true]
    unfold objT
    simp only [Bool.or_eq_true, Bool.and_eq_true, decide_eq_true_eq]
    rcases (show s = 0 ∨ s = 1 ∨ s = 2 ∨ s = 3 by omega) with e | e | e | e <;> subst e
    · refine Or.inl (Or.inl (Or.inl ?_))
      rcases d with ⟨d1, d2⟩ | ⟨d1, d2⟩
      · exact Or.inl ⟨by rw [d1]; show 7 + 19 * t + 0 = 7 + 19 * t; omega, d2⟩
      · have d1' : 1 ≤ k ∧ k ≤ 8 := d1
        refine Or.inr ⟨by show 7 + 19 * t + 1 ≤ 7 + 19 * t + k ∧ 7 + 19 * t + k ≤ 7 + 19 * t + 8; omega, ?_⟩
        rw [show ob 0 + 19 * t + k - (7 + 19 * t) = k from by show 7 + 19 * t + k - (7 + 19 * t) = k; omega]; exact d2
    · refine Or.inl (Or.inl (Or.inr ?_))
      rcases d with ⟨d1, d2⟩ | ⟨d1, d2⟩
      · exact Or.inl ⟨by rw [d1]; show 16 + 19 * t + 0 = 16 + 19 * t; omega, d2⟩
      · have d1' : 1 ≤ k ∧ k ≤ 0 := d1
        omega
    · refine Or.inl (Or.inr ?_)
      rcases d with ⟨d1, d2⟩ | ⟨d1, d2⟩
      · exact Or.inl ⟨by rw [d1]; show 17 + 19 * t + 0 = 17 + 19 * t; omega, d2⟩
      · have d1' : 1 ≤ k ∧ k ≤ 4 := d1
        refine Or.inr ⟨by show 17 + 19 * t + 1 ≤ 17 + 19 * t + k ∧ 17 + 19 * t + k ≤ 17 + 19 * t + 4; omega, ?_⟩
        rw [show ob 2 + 19 * t + k - (17 + 19 * t) = k from by show 17 + 19 * t + k - (17 + 19 * t) = k; omega]; exact d2
    · refine Or.inr ?_
      rcases d with ⟨d1, d2⟩ | ⟨d1, d2⟩
      · exact Or.inl ⟨by rw [d1]; show 22 + 19 * t + 0 = 22 + 19 * t; omega, d2⟩
      · have d1' : 1 ≤ k ∧ k ≤ 3 := d1
        refine Or.inr ⟨by show 22 + 19 * t + 1 ≤ 22 + 19 * t + k ∧ 22 + 19 * t + k ≤ 22 + 19 * t + 3; omega, ?_⟩
        rw [show ob 3 + 19 * t + k - (22 + 19 * t) = k from by show 22 + 19 * t + k - (22 + 19 * t) = k; omega]; exact d2
  unfold datT
  rw [Bool.or_eq_true, Bool.or_eq_true]
  rcases (show t = 0 ∨ t = 1 by omega) with e | e
  · rw [e] at key ⊢; exact Or.inl (Or.inr key)
  · rw [e] at key ⊢; exact Or.inr key
theorem hd_dat {x y : Int} (h : (x = 0 ∧ 1 ≤ y ∧ y ≤ 3) ∨ (x = 1 ∧ 0 ≤ y ∧ y < 600) ∨ (x = 2 ∧ 0 ≤ y ∧ y < 4)) : datT x y = true := by
  unfold datT hdT
  simp only [Bool.or_eq_true, Bool.and_eq_true, decide_eq_true_eq]
  rcases h with h | h | h
  · exact Or.inl (Or.inl (Or.inl (Or.inl h)))
  · exact Or.inl (Or.inl (Or.inl (Or.inr h)))
  · exact Or.inl (Or.inl (Or.inr h))
/-- a Told copied: the block b has what c had -/
theorem BK.cps {b c : Int} (h : CPS M N b c datT) : BK M N c b := by
  refine ⟨fun y p q => ?_, fun i p q => ?_, fun s p q => ?_, fun s t k y s0 s4 t0 t2 d => ?_⟩
  · have g := h.at (o := 0) (by decide) (by decide) y
    rw [if_pos (hd_dat (Or.inl ⟨rfl, p, q⟩)), Int.add_zero, Int.add_zero] at g; exact g
  · have g := h.at (o := 1) (by decide) (by decide) i
    rw [if_pos (hd_dat (Or.inr (Or.inl ⟨rfl, p, q⟩)))] at g; exact g
  · have g := h.at (o := 2) (by decide) (by decide) s
    rw [if_pos (hd_dat (Or.inr (Or.inr ⟨rfl, p, q⟩)))] at g; exact g
  · have bd := dO_b d
    have g := h.at (o := ob s + 19 * t + k) (by omega) (by omega) y
    rw [if_pos (dO_dat s0 s4 t0 t2 d)] at g
    rw [show b + ob s + 19 * t + k = b + (ob s + 19 * t + k) by omega, show c + ob s + 19 * t + k = c + (ob s + 19 * t + k) by omega]; exact g
/-- a layer copied -/
theorem LY.cpa {a b : Int} (h : CPA M N a b) : LY M N a b := by
  obtain ⟨_, _, h86, h87, h88, h89, h90, h91, h92, h93, h94⟩ := h
  refine ⟨⟨?_, ?_, ?_⟩, fun i p q => ?_, fun s p q => ?_, fun s t y s0 s4 t0 t2 y0 y1 => ?_⟩
  · rw [h87 b, if_pos (by omega), show b - 1 * b + 1 * a = a by omega]
  · rw [h88 b, if_pos (by omega), show b - 1 * b + 1 * a = a by omega]
  · rw [h89 b, if_pos (by omega), show b - 1 * b + 1 * a = a by omega]
  · rw [h86, if_pos (by omega), show 600 * b + i - 600 * b + 600 * a = 600 * a + i by omega]
  · rw [h90, if_pos (by omega), show 4 * b + s - 4 * b + 4 * a = 4 * a + s by omega]
  · rcases (show s = 0 ∨ s = 1 ∨ s = 2 ∨ s = 3 by omega) with e | e | e | e <;> subst e
    · have y1' : y < 92 := y1
      show N.1 91 (92 * (2 * b + t) + y) = M.1 91 (92 * (2 * a + t) + y)
      rw [h91, if_pos (by omega), show 92 * (2 * b + t) + y - 184 * b + 184 * a = 92 * (2 * a + t) + y by omega]
    · have y1' : y < 3 := y1
      show N.1 92 (3 * (2 * b + t) + y) = M.1 92 (3 * (2 * a + t) + y)
      rw [h92, if_pos (by omega), show 3 * (2 * b + t) + y - 6 * b + 6 * a = 3 * (2 * a + t) + y by omega]
    · have y1' : y < 161 := y1
      show N.1 93 (161 * (2 * b + t) + y) = M.1 93 (161 * (2 * a + t) + y)
      rw [h93, if_pos (by omega), show 161 * (2 * b + t) + y - 322 * b + 322 * a = 161 * (2 * a + t) + y by omega]
    · have y1' : y < 47 := y1
      show N.1 94 (47 * (2 * b + t) + y) = M.1 94 (47 * (2 * a + t) + y)
      rw [h94, if_pos (by omega), show 47 * (2 * b + t) + y - 94 * b + 94 * a = 47 * (2 * a + t) + y by omega]
/-- another layer stays -/
theorem LY.cpo {a b c : Int} (h : CPA M N a b) (hc : c ≠ b) : LY M N c c := by
  obtain ⟨_, _, h86, h87, h88, h89, h90, h91, h92, h93, h94⟩ := h
  refine ⟨⟨?_, ?_, ?_⟩, fun i p q => ?_, fun s p q => ?_, fun s t y s0 s4 t0 t2 y0 y1 => ?_⟩
  · rw [h87 c, if_neg (by omega)]
  · rw [h88 c, if_neg (by omega)]
  · rw [h89 c, if_neg (by omega)]
  · rw [h86, if_neg (by omega)]
  · rw [h90, if_neg (by omega)]
  · rcases (show s = 0 ∨ s = 1 ∨ s = 2 ∨ s = 3 by omega) with e | e | e | e <;> subst e
    · have y1' : y < 92 := y1
      show N.1 91 (92 * (2 * c + t) + y) = _
      rw [h91, if_neg (by omega)]; rfl
    · have y1' : y < 3 := y1
      show N.1 92 (3 * (2 * c + t) + y) = _
      rw [h92, if_neg (by omega)]; rfl
    · have y1' : y < 161 := y1
      show N.1 93 (161 * (2 * c + t) + y) = _
      rw [h93, if_neg (by omega)]; rfl
    · have y1' : y < 47 := y1
      show N.1 94 (47 * (2 * c + t) + y) = _
      rw [h94, if_neg (by omega)]; rfl
theorem LY.trans {O : Mem} {a b c : Int} (h : LY M N a b) (g : LY N O b c) : LY M O a c := ⟨⟨g.1.1.trans h.1.1, g.1.2.1.trans h.1.2.1, g.1.2.2.trans h.1.2.2⟩, fun i p q => (g.2.1 i p q).trans (h.2.1 i p q), fun s p q => (g.2.2.1 s p q).trans (h.2.2.1 s p q), fun s t y s0 s4 t0 t2 y0 y1 => (g.2.2.2 s t y s0 s4 t0 t2 y0 y1).trans (h.2.2.2 s t y s0 s4 t0 t2 y0 y1)⟩
theorem BK.trans {O : Mem} {a b c : Int} (h : BK M N a b) (g : BK N O b c) : BK M O a c := ⟨fun y p q => (g.1 y p q).trans (h.1 y p q), fun i p q => (g.2.1 i p q).trans (h.2.1 i p q), fun s p q => (g.2.2.1 s p q).trans (h.2.2.1 s p q), fun s t k y s0 s4 t0 t2 d => (g.2.2.2 s t k y s0 s4 t0 t2 d).trans (h.2.2.2 s t k y s0 s4 t0 t2 d)⟩
end RelM
