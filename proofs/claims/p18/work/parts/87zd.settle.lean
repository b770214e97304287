/-! wealth: what settles -/
section Settle
variable {O P A B M N : Mem} {D L E : Int → Int} {a l k q n kn : Int}
def fr (A : Mem) (D : Int → Int) (t : Int) : Prop := (0 ≤ t ∧ t < D 1) ∧ bAnd (bShr (A.1 68 13) t) 1 = 0
def pb (A : Mem) (D L : Int → Int) (cut t b : Int) : Prop := bAnd (bShr cut b) 1 = 1 ∧ fr A D b ∧ 0 < owS A L b ∧ ¬(D (88 + b) = t ∨ D (88 + t) = b)
def rch (A : Mem) (D L : Int → Int) (cut t : Int) : Prop := ∃ b, (0 ≤ b ∧ b < D 1) ∧ pb A D L cut t b
noncomputable def tm (A : Mem) (D L : Int → Int) (cut t : Int) : Int := haveI := Classical.propDecidable; if fr A D t then (if 0 < owS A L t ∧ bAnd (bShr cut t) 1 = 0 then owS A L t else if owS A L t < 0 ∧ rch A D L cut t then w32 (-owS A L t) else 0) else 0
theorem tm_no {cut t : Int} (h : ¬ fr A D t) : tm A D L cut t = 0 := by unfold tm; rw [if_neg h]
theorem tm_up {cut t : Int} (h : fr A D t) (h1 : 0 < owS A L t) (h2 : bAnd (bShr cut t) 1 = 0) : tm A D L cut t = owS A L t := by unfold tm; rw [if_pos h, if_pos ⟨h1, h2⟩]
theorem tm_dn {cut t : Int} (h : fr A D t) (h1 : owS A L t < 0) (h2 : rch A D L cut t) : tm A D L cut t = w32 (-owS A L t) := by unfold tm; rw [if_pos h, if_neg (by omega), if_pos ⟨h1, h2⟩]
theorem tm_00 {cut t : Int} (h1 : ¬(0 < owS A L t ∧ bAnd (bShr cut t) 1 = 0)) (h2 : ¬(owS A L t < 0 ∧ rch A D L cut t)) : tm A D L cut t = 0 := by
  unfold tm
  rw [if_neg h1, if_neg h2]
  split <;> rfl
theorem CW.reached (c : CW O A a l D L) (lb : LBd L) (cut : Int) {t : Int} (t0 : 0 ≤ t) (t1 : t < 4) : PC (fX8_isReached A 68 cut t) (fun r => (r = 1 ∧ rch A D L cut t) ∨ (r = 0 ∧ ¬ rch A D L cut t)) := by
  have b1 := c.1.bd.2.1
  have n1 := c.1.2.2.1.2
  unfold fX8_isReached
  rw [c.2.2.1, n1]
  refine PC.iter (fun s => (0 ≤ s ∧ s ≤ D 1) ∧ ∀ b, 0 ≤ b → b < s → ¬ pb A D L cut t b) ?_ _ _ ⟨⟨by decide, b1.1⟩, fun b p q => by omega⟩
  rintro rec s ⟨⟨s0, s1⟩, hs⟩ hrec
  rw [c.isFree]
  refine PC.guard (fun _ => PC.guard (fun _ => PC.ite (fun cc => ?_) (fun cc => PC.ok (Or.inr ⟨rfl, fun ⟨b, ⟨p, q⟩, z⟩ => hs b p (by omega) z⟩))))
  have go : ¬ pb A D L cut t s → PC (rec (w32 (s + 1))) (fun r => (r = 1 ∧ rch A D L cut t) ∨ (r = 0 ∧ ¬ rch A D L cut t)) := fun z => hrec _ (by
    rw [w32_of (by omega) (by omega)]
    refine ⟨⟨by omega, by omega⟩, fun b p q => ?_⟩
    by_cases e : b = s
    · rw [e]; exact z
    · exact hs b p (by omega))
  refine PC.jI (PC.jI (PC.ite (fun z1 => PC.flag (fun z2 => PC.bind (c.owes lb s) (fun v hv => PC.ite (fun z3 => PC.neg (by decide) (PC.bind (c.1.areKin s0 (by omega) t0 t1) (fun r hr => ?_))) (fun z3 => PC.pos rfl (go (fun z => z3 (by rw [hv]; exact z.2.2.1)))))) (fun z2 => PC.pos rfl (go (fun z => z2 z.2.1)))) (fun z1 => PC.pos rfl (go (fun z => z1 z.1)))))
  rcases hr with ⟨hr, kin⟩ | ⟨hr, k1, k2⟩
  · exact PC.neg (by rw [hr]; decide) (go (fun z => z.2.2.2 kin))
  · exact PC.pos hr (PC.ok (Or.inl ⟨rfl, s, ⟨s0, cc⟩, z1, z2, by rw [← hv]; exact z3, fun z => z.elim k1 k2⟩))
theorem w32_sub (x y : Int) : w32 (x + w32 (-y)) = w32 (x - y) := by unfold w32; omega
theorem wS_r (f : Int → Int) : ∀ n : Nat, r32 (wS f n)
  | 0 => r32_0
  | _ + 1 => w32_r _
theorem wI_z {f : Int → Int} {i : Int} (h : 0 ≤ i) (z : f i = 0) : wI f (i + 1) = wI f i := by
  rw [wI_s h, z, Int.add_zero]
  exact w32_id (wS_r f _)
theorem CW.cut (c : CW O A a l D L) (lb : LBd L) (cut : Int) : PC (fX8_cut A 68 cut) (fun r => r = wI (tm A D L cut) (D 1)) := by
  have b1 := c.1.bd.2.1
  have n1 := c.1.2.2.1.2
  unfold fX8_cut
  rw [c.2.2.1, n1]
  refine PC.iter (fun s => (0 ≤ s.2 ∧ s.2 ≤ D 1) ∧ s.1 = wI (tm A D L cut) s.2) ?_ _ _ ⟨⟨by decide, b1.1⟩, rfl⟩
  rintro rec ⟨x, t⟩ ⟨⟨t0, t1⟩, hx⟩ hrec
  simp only at t0 t1 hx ⊢
  rw [c.isFree, w32_of (x := t + 1) (by omega) (by omega)]
  refine PC.guard (fun _ => PC.guard (fun _ => PC.ite (fun cc => PC.bind (c.owes lb t) (fun v hv => ?_)) (fun cc => PC.ok (by rw [hx, show t = D 1 by omega]))))
  have g0 : tm A D L cut t = 0 → PC (rec (x, t + 1)) (fun r => r = wI (tm A D L cut) (D 1)) := fun z => hrec _ ⟨⟨by (try dsimp only); omega, by (try dsimp only); omega⟩, by (try dsimp only); rw [wI_z t0 z, hx]⟩
  have g1 : ∀ y, y = w32 (x + tm A D L cut t) → PC (rec (y, t + 1)) (fun r => r = wI (tm A D L cut) (D 1)) := fun y z => hrec _ ⟨⟨by (try dsimp only); omega, by (try dsimp only); omega⟩, by (try dsimp only); rw [wI_s t0, z, hx]⟩
  rw [hv]
  refine PC.flag (fun z1 => PC.jI ?_) (fun z1 => g0 (tm_no z1))
  have rest : ¬(0 < owS A L t ∧ bAnd (bShr cut t) 1 = 0) → PC (if owS A L t < 0 then ((fX8_isReached A 68 cut t).bind fun r14 => if r14 = 0 then (rec (x, t + 1)) else (rec (w32 (x - owS A L t), t + 1))) else (rec (x, t + 1))) (fun r => r = wI (tm A D L cut) (D 1)) := fun z => by
    refine PC.ite (fun z2 => PC.bind (c.reached lb cut t0 (by omega)) (fun r hr => ?_)) (fun z2 => g0 (tm_00 z (fun y => z2 y.1)))
    rcases hr with ⟨hr, z3⟩ | ⟨hr, z3⟩
    · exact PC.neg (by rw [hr]; decide) (g1 _ (by rw [tm_dn z1 z2 z3, w32_sub]))
    · exact PC.pos hr (g0 (tm_00 z (fun y => z3 y.2)))
  exact PC.ite (fun z2 => PC.ite (fun z3 => g1 _ (by rw [tm_up z1 z2 z3])) (fun z3 => rest (fun y => z3 y.2))) (fun z2 => rest (fun y => z2 y.1))
theorem RD.areKin {k x y : Int} (d : RD N k D) (x0 : 0 ≤ x) (x1 : x < 4) (y0 : 0 ≤ y) (y1 : y < 4) : PC (fX11_areKin N 85 x y) (fun r => (r = 1 ∧ (D (88 + x) = y ∨ D (88 + y) = x)) ∨ (r = 0 ∧ D (88 + x) ≠ y ∧ D (88 + y) ≠ x)) := by
  unfold fX11_areKin
  rw [w32_of (x := 88 + x) (by omega) (by omega), w32_of (x := 88 + y) (by omega) (by omega), d.of (by omega) (by omega), d.of (by omega) (by omega)]
  exact PC.guard (fun _ => PC.bindE rfl (PC.ite (fun z => PC.ok (Or.inl ⟨rfl, Or.inl z⟩)) (fun z => PC.bindE rfl (PC.ite (fun z' => PC.ok (Or.inl ⟨rfl, Or.inr z'⟩)) (fun z' => PC.ok (Or.inr ⟨rfl, z, z'⟩))))))
theorem WB.owes (w : WB O P a l k q D L A B) {t : Int} (t0 : 0 ≤ t) (t1 : t < 4) : PC (fX11_owes B 85 t) (fun r => r = owS A L t) := (w.2.1.owes t).mono (fun r hr => by
  obtain ⟨_, _, _, _, _, _, _, r73, r74, _⟩ := w
  rw [hr]
  unfold owR owS
  rw [r73 t t0 t1, r74 t t0 t1])
theorem WB.isFree (w : WB O P a l k q D L A B) (t : Int) {ρ : Type} {X Y : Option ρ} {Q : ρ → Prop} (h1 : fr A D t → PC Y Q) (h0 : ¬ fr A D t → PC X Q) : PC ((fX11_isFree B 85 t).bind fun r => if r = 0 then X else Y) Q := by
  rw [w.2.1.isFree w.2.2.1.1]
  obtain ⟨_, _, _, _, _, _, _, _, _, _, _, _, ⟨r13, _⟩, _⟩ := w
  rw [← r13]
  exact PC.flag h1 h0
noncomputable def cw (A : Mem) (D L : Int → Int) (cut : Int) : Int := wI (tm A D L cut) (D 1)
def MNR (c : Int → Int) (n r : Int) : Prop := (∀ j, 0 ≤ j → j < n → r ≤ c j) ∧ r ≤ 1000000 ∧ (r = 1000000 ∨ ∃ j, (0 ≤ j ∧ j < n) ∧ r = c j)
theorem has_f (cut b : Int) {ρ : Type} {X Y : Option ρ} {Q : ρ → Prop} (h1 : bAnd (bShr cut b) 1 = 1 → PC Y Q) (h0 : bAnd (bShr cut b) 1 = 0 → PC X Q) : PC ((fX11_has M cut b).bind fun r => if r = 0 then X else Y) Q := by
  rw [hasV]
  exact PC.flag h1 (fun z => h0 ((and1 _).elim id (fun y => absurd y z)))
theorem WB.settle (w : WB O P a l k q D L A B) : PC (fX11_settle B 85) (MNR (cw A D L) (bShl 1 (D 1))) := by
  have bd := w.2.2.1.1
  have b1 := bd.2.1
  have e := w.2.1.1
  have sh := shl_V b1.1 b1.2
  have s00 : 0 ≤ bShl 1 (D 1) := by rw [sh.1]; exact Int.natCast_nonneg _
  unfold fX11_settle
  rw [e.2.2.1.2.2]
  refine PC.iter (fun s => (0 ≤ s.2 ∧ s.2 ≤ bShl 1 (D 1)) ∧ MNR (cw A D L) s.2 s.1) ?_ _ _ ⟨⟨by decide, by (try dsimp only); omega⟩, fun j p q => by (try dsimp only at q); omega, Int.le_refl _, Or.inl rfl⟩
  rintro rec ⟨m, cut⟩ ⟨⟨c0, c1⟩, m1, m2, m3⟩ hrec
  simp only at c0 c1 m1 m2 m3 ⊢
  refine PC.guard (fun _ => PC.ite (fun cc => ?_) (fun cc => PC.ok (by rw [show bShl 1 (D 1) = cut by omega]; exact ⟨m1, m2, m3⟩)))
  refine PC.iter (fun s => (0 ≤ s.2 ∧ s.2 ≤ D 1) ∧ s.1 = wI (tm A D L cut) s.2) ?_ _ _ ⟨⟨by (try dsimp only); omega, by (try dsimp only); omega⟩, rfl⟩
  rintro rec5 ⟨x, t⟩ ⟨⟨t0, t1⟩, hx⟩ hrec5
  simp only at t0 t1 hx ⊢
  refine PC.ite (fun ct => ?_) (fun ct => ?_)
  rotate_left
  · rw [lesserV, hx, show t = D 1 by omega, show wI (tm A D L cut) (D 1) = cw A D L cut from rfl]
    refine PC.bindE rfl (hrec _ ?_)
    (try dsimp only)
    rw [w32_of (by omega) (by omega)]
    refine ⟨⟨by omega, by omega⟩, fun j p q => ?_, ?_, ?_⟩
    · by_cases ej : j = cut
      · rw [ej]; unfold imin; split <;> omega
      · have := m1 j p (by omega)
        unfold imin; split <;> omega
    · unfold imin; split <;> omega
    · unfold imin; split
      · rcases m3 with m3 | ⟨j, ⟨p, q⟩, m3⟩
        · exact Or.inl m3
        · exact Or.inr ⟨j, ⟨p, by omega⟩, m3⟩
      · exact Or.inr ⟨cut, ⟨c0, by omega⟩, rfl⟩
  have g : ∀ y, y = w32 (x + tm A D L cut t) → PC (rec5 (y, w32 (t + 1))) (MNR (cw A D L) (bShl 1 (D 1))) := fun y z => hrec5 _ (by
    (try dsimp only)
    rw [w32_of (x := t + 1) (by omega) (by omega), wI_s t0, z, hx]
    exact ⟨⟨by omega, by omega⟩, rfl⟩)
  have tail : ∀ v, (v = owS A L t ∧ fr A D t ∧ 0 < owS A L t ∧ bAnd (bShr cut t) 1 = 0) ∨ (v = 0 ∧ ¬(fr A D t ∧ 0 < owS A L t ∧ bAnd (bShr cut t) 1 = 0)) → ∀ op : Int, (op = 1 ∧ rch A D L cut t) ∨ (op = 0 ∧ ¬ rch A D L cut t) → PC ((fX11_isFree B 85 t).bind fun r28 => if r28 = 0 then (rec5 (w32 ((w32 (x + v)) + 0), w32 (t + 1))) else ((fX11_owes B 85 t).bind fun r31 => if r31 < 0 then (if op = 0 then (rec5 (w32 ((w32 (x + v)) + 0), w32 (t + 1))) else ((fX11_owes B 85 t).bind fun r35 => rec5 (w32 ((w32 (x + v)) + (w32 (-r35))), w32 (t + 1)))) else (rec5 (w32 ((w32 (x + v)) + 0), w32 (t + 1))))) (MNR (cw A D L) (bShl 1 (D 1))) := by
    intro v hv op hop
    have ez : w32 (w32 (x + v) + 0) = w32 (x + v) := by rw [Int.add_zero]; exact w32_id (w32_r _)
    rw [ez]
    refine w.isFree t (fun z1 => PC.bind (w.owes t0 (by omega)) (fun r31 h31 => ?_)) (fun z1 => g _ ?_)
    rotate_left
    · rcases hv with ⟨_, z, _⟩ | ⟨hv, _⟩
      · exact absurd z z1
      · rw [hv, tm_no z1]
    rw [h31]
    refine PC.ite (fun z2 => ?_) (fun z2 => g _ ?_)
    · have hv0 : v = 0 := by
        rcases hv with ⟨_, _, z, _⟩ | ⟨hv, _⟩
        · omega
        · exact hv
      rcases hop with ⟨ho, z3⟩ | ⟨ho, z3⟩
      · refine PC.neg (by rw [ho]; decide) (PC.bind (w.owes t0 (by omega)) (fun r35 h35 => g _ ?_))
        rw [h35, hv0, tm_dn z1 z2 z3]
        unfold w32; omega
      · refine PC.pos ho (g _ ?_)
        rw [hv0, tm_00 (fun y => by omega) (fun y => z3 y.2)]
    · rcases hv with ⟨hv, _, z3, z4⟩ | ⟨hv, z3⟩
      · rw [hv, tm_up z1 z3 z4]
      · rw [hv, tm_00 (fun y => z3 ⟨z1, y.1, y.2⟩) (fun y => z2 y.1)]
  refine PC.bindS (fun r8 h8 => PC.join (fun v => (v = owS A L t ∧ fr A D t ∧ 0 < owS A L t ∧ bAnd (bShr cut t) 1 = 0) ∨ (v = 0 ∧ ¬(fr A D t ∧ 0 < owS A L t ∧ bAnd (bShr cut t) 1 = 0))) (fun v hv => ?_) (fun j hj => ?_))
  · refine PC.iter (fun s => (0 ≤ s.2 ∧ s.2 ≤ D 1) ∧ ((s.1 = 1 ∧ rch A D L cut t) ∨ (s.1 = 0 ∧ ∀ b, 0 ≤ b → b < s.2 → ¬ pb A D L cut t b))) ?_ _ _ ⟨⟨by (try dsimp only); omega, by (try dsimp only); omega⟩, Or.inr ⟨rfl, fun b p q => by (try dsimp only at q); omega⟩⟩
    rintro rec12 ⟨op, b⟩ ⟨⟨p0, p1⟩, hop⟩ hrec12
    simp only at p0 p1 hop ⊢
    rw [w32_of (x := b + 1) (by omega) (by omega)]
    refine PC.ite (fun cb => ?_) (fun cb => tail v hv op ?_)
    rotate_left
    · rcases hop with h | ⟨h, z⟩
      · exact Or.inl h
      · exact Or.inr ⟨h, fun ⟨b', ⟨p, q⟩, y⟩ => z b' p (by omega) y⟩
    have go1 : rch A D L cut t → PC (rec12 (1, b + 1)) (MNR (cw A D L) (bShl 1 (D 1))) := fun z => hrec12 _ ⟨⟨by (try dsimp only); omega, by (try dsimp only); omega⟩, Or.inl ⟨rfl, z⟩⟩
    rcases hop with ⟨h, z⟩ | ⟨h, z⟩
    · exact PC.neg (by rw [h]; decide) (go1 z)
    have go0 : ¬ pb A D L cut t b → PC (rec12 (0, b + 1)) (MNR (cw A D L) (bShl 1 (D 1))) := fun y => hrec12 _ ⟨⟨by (try dsimp only); omega, by (try dsimp only); omega⟩, Or.inr ⟨rfl, fun b' p q' => by
      (try dsimp only at q')
      by_cases ee : b' = b
      · rw [ee]; exact y
      · exact z b' p (by omega)⟩⟩
    refine PC.pos h (has_f cut b (fun y1 => w.isFree b (fun y2 => PC.bind (w.owes p0 (by omega)) (fun r22 h22 => PC.ite (fun y3 => PC.bind (e.areKin t0 (by omega) p0 (by omega)) (fun r25 h25 => ?_)) (fun y3 => go0 (fun y => y3 (by rw [h22]; exact y.2.2.1))))) (fun y2 => go0 (fun y => y2 y.2.1))) (fun y1 => go0 (fun y => by have := y.1; omega)))
    rcases h25 with ⟨h25, kin⟩ | ⟨h25, k1, k2⟩
    · exact PC.neg (by rw [h25]; decide) (go0 (fun y => y.2.2.2 kin.symm))
    · exact PC.pos h25 (go1 ⟨b, ⟨p0, cb⟩, y1, y2, by rw [← h22]; exact y3, fun y => y.elim k2 k1⟩)
  · rw [w.2.1.isFree bd] at h8
    have r13 : A.1 68 13 = B.1 85 41 := by
      obtain ⟨_, _, _, _, _, _, _, _, _, _, _, _, ⟨r13, _⟩, _⟩ := w
      exact r13
    rw [← r13] at h8
    have j0 : ¬(fr A D t ∧ 0 < owS A L t ∧ bAnd (bShr cut t) 1 = 0) → PC (j 0) (MNR (cw A D L) (bShl 1 (D 1))) := fun z => hj 0 (Or.inr ⟨rfl, z⟩)
    by_cases z1 : fr A D t
    · unfold fr at z1
      rw [if_pos z1] at h8
      have r8e : r8 = 1 := by cases h8; rfl
      refine PC.jI (PC.neg (by rw [r8e]; decide) (PC.bind (w.owes t0 (by omega)) (fun v hv => PC.ite (fun z2 => has_f cut t (fun z3 => j0 (fun z => by have := z.2.2; omega)) (fun z3 => PC.bind (w.owes t0 (by omega)) (fun u hu => hj u (Or.inl ⟨hu, z1, by rw [← hv]; exact z2, z3⟩)))) (fun z2 => j0 (fun z => z2 (by rw [hv]; exact z.2.1))))))
    · have z1' := z1
      unfold fr at z1
      rw [if_neg z1] at h8
      have r8e : r8 = 0 := by cases h8; rfl
      exact PC.jI (PC.pos r8e (j0 (fun z => z1' z.1)))
end Settle
