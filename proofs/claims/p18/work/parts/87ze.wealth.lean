/-! wealth -/
section Wealth
variable {O P A B M N : Mem} {D L E : Int → Int} {a l k q n kn : Int}
theorem owS_bd (bd3 : BD3 A) (lb : LBd L) {t : Int} (t0 : 0 ≤ t) (t1 : t < 4) : -1000 ≤ owS A L t ∧ owS A L t ≤ 1000 := by
  obtain ⟨x, y⟩ := bd3 t t0 t1
  have l0 := lb.1
  have e : (A.1 73 t).tdiv (L 0) = A.1 73 t / L 0 := Int.tdiv_eq_ediv_of_nonneg x.1
  have d0 : 0 ≤ A.1 73 t / L 0 := Int.ediv_nonneg x.1 (by omega)
  have d1 : A.1 73 t / L 0 ≤ A.1 73 t := Int.ediv_le_self _ x.1
  unfold owS
  rw [e, w32_of (x := A.1 73 t / L 0) (by omega) (by omega), w32_of (by omega) (by omega)]
  omega
theorem tm_bd (bd3 : BD3 A) (lb : LBd L) (cut : Int) {t : Int} (t0 : 0 ≤ t) (t1 : t < 4) : -1000 ≤ tm A D L cut t ∧ tm A D L cut t ≤ 1000 := by
  have b := owS_bd bd3 lb t0 t1
  unfold tm
  split
  · split
    · exact b
    · split
      · rw [w32_of (by omega) (by omega)]; omega
      · exact ⟨by decide, by decide⟩
  · exact ⟨by decide, by decide⟩
theorem wS_bd {f : Int → Int} : ∀ n : Nat, n ≤ 4 → (∀ j : Int, 0 ≤ j → j < n → -1000 ≤ f j ∧ f j ≤ 1000) → -1000 * (n : Int) ≤ wS f n ∧ wS f n ≤ 1000 * (n : Int)
  | 0, _, _ => by
    show -1000 * ((0 : Nat) : Int) ≤ 0 ∧ (0 : Int) ≤ 1000 * ((0 : Nat) : Int)
    exact ⟨by decide, by decide⟩
  | n + 1, h, hf => by
    have a := wS_bd n (by omega) (fun j p q => hf j p (by omega))
    have b := hf n (by omega) (by omega)
    show -1000 * ((n + 1 : Nat) : Int) ≤ w32 (wS f n + f n) ∧ w32 (wS f n + f n) ≤ 1000 * ((n + 1 : Nat) : Int)
    rw [w32_of (by omega) (by omega)]
    omega
theorem cw_bd (bd : DBd D) (bd3 : BD3 A) (lb : LBd L) (cut : Int) : cw A D L cut ≤ 1000000 := by
  have b1 := bd.2.1
  have := wS_bd (f := tm A D L cut) (D 1).toNat (by omega) (fun j p q => tm_bd bd3 lb cut p (by omega))
  have e : cw A D L cut = wS (tm A D L cut) (D 1).toNat := rfl
  omega
def MNC (c : Int → Int) (n r : Int) : Prop := (∀ j, 0 ≤ j → j < n → r ≤ c j) ∧ ∃ j, (0 ≤ j ∧ j < n) ∧ r = c j
theorem MNC.eq {c : Int → Int} {n r s : Int} (h : MNC c n r) (g : MNR c n s) (hc : ∀ j, c j ≤ 1000000) : r = s := by
  obtain ⟨h1, j, ⟨p, q⟩, e⟩ := h
  obtain ⟨g1, g2, g3⟩ := g
  have x := g1 j p q
  have y := hc j
  rcases g3 with g3 | ⟨i, ⟨p', q'⟩, g3⟩
  · omega
  · have := h1 i p' q'
    omega
theorem CW.settle (c : CW O A a l D L) (lb : LBd L) : PC (fX8_settle A 68) (MNC (cw A D L) (bShl 1 (D 1))) := by
  have b1 := c.1.bd.2.1
  have n1 := c.1.2.2.1.2
  have sh := shl_V b1.1 b1.2
  have s01 : 1 ≤ bShl 1 (D 1) := by
    rw [sh.1]
    have := Nat.two_pow_pos (D 1).toNat
    exact Int.ofNat_le.mpr this
  unfold fX8_settle
  refine PC.bind (c.cut lb 0) (fun v hv => ?_)
  rw [c.2.2.1, n1]
  refine PC.iter (fun s => (1 ≤ s.2 ∧ s.2 ≤ bShl 1 (D 1)) ∧ MNC (cw A D L) s.2 s.1) ?_ _ _ ⟨⟨by (try dsimp only); omega, s01⟩, fun j p q => ?_, 0, ⟨by decide, by (try dsimp only); omega⟩, hv⟩
  rotate_left
  · (try dsimp only at q ⊢)
    rw [show j = 0 by omega, hv]
    exact Int.le_refl _
  rintro rec ⟨m, cut⟩ ⟨⟨c0, c1⟩, m1, i, ⟨i0, i1⟩, m2⟩ hrec
  simp only at c0 c1 m1 i0 i1 m2 ⊢
  refine PC.guard (fun _ => PC.guard (fun _ => PC.ite (fun cc => PC.bind (c.cut lb cut) (fun u hu => hrec _ ?_)) (fun cc => PC.ok (by rw [show bShl 1 (D 1) = cut by omega]; exact ⟨m1, i, ⟨i0, i1⟩, m2⟩))))
  (try dsimp only)
  have hu : u = cw A D L cut := hu
  rw [w32_of (by omega) (by omega)]
  refine ⟨⟨by omega, by omega⟩, fun j p q => ?_, ?_⟩
  · by_cases ej : j = cut
    · rw [ej, ← hu]; unfold imin; split <;> omega
    · have := m1 j p (by omega)
      unfold imin; split <;> omega
  · unfold imin; split
    · first | exact ⟨i, ⟨i0, by omega⟩, m2⟩ | exact ⟨cut, ⟨by omega, by omega⟩, hu⟩
    · first | exact ⟨i, ⟨i0, by omega⟩, m2⟩ | exact ⟨cut, ⟨by omega, by omega⟩, hu⟩
theorem RKD.eq {W : Int → Int} {n k r s : Int} (h : RKD W n k r) (g : RKD W n k s) : r = s := rk_inj h.1.1 h.1.2 g.1.1 g.1.2 (h.2.trans g.2.symm)
theorem WB.ranked_R (w : WB O P a l k q D L A B) {i : Int} (i0 : 0 ≤ i) (i1 : i < D 0) : RR (fX8_ranked A 68 i) (fX11_ranked B 85 i) (fun r u => r = u) := RR.okp (w.1.ranked w.2.2.2.2.2.2.2.2.2.2.2.2.2.2 i0 i1) (w.ranked i0 i1) (fun _ _ x y => x.eq y)
theorem WB.rich (w : WB O P a l k q D L A B) (bd3 : BD3 A) (what : Int) : RR (fX8_rich A 68 what) (if B.2.1 85 = 10 then (fX11_in B what 10 (w32 (9 + (B.1 85 26)))).bind fun r8 => if r8 = 0 then ((fX11_in B what 20 (w32 (19 + (B.1 85 25)))).bind fun r11 => if r11 = 0 then ((fX11_in B what 30 (w32 (29 + (B.1 85 25)))).bind fun r14 => if r14 = 0 then (if what = 0 then ((fX11_settle B 85).bind fun r18 => some (r18, B)) else if what = 1 then ((fX11_gap B 85).bind fun r21 => some (r21, B)) else if what = 2 then (jn (fun (t25 : Int) => (fX11_unlike B 85 t25).bind fun r26 => some (r26, B)) (fun (j24 : Int → Option (Int × Mem)) => if what = 3 then (j24 1) else (j24 0))) else if what = 3 then (jn (fun (t31 : Int) => (fX11_unlike B 85 t31).bind fun r32 => some (r32, B)) (fun (j30 : Int → Option (Int × Mem)) => if what = 3 then (j30 1) else (j30 0))) else if what = 4 then ((fX11_robbed B 85).bind fun r36 => some (r36, B)) else some ((-1000), B)) else ((fX11_ranked B 85 (w32 (what - 30))).bind fun r38 => some (r38, B))) else ((fX11_wealthOf B 85 (w32 (what - 20))).bind fun r40 => some (r40, B))) else ((fX11_can B 85 (w32 (what - 10))).bind fun r42 => some (r42, B)) else none) (fun r u => r = u.1) := by
  have bd := w.2.2.1.1
  have lb := w.2.2.1.2
  have b0 := bd.1
  have b1 := bd.2.1
  have e := w.2.1.1
  have c := w.1
  have sb : SBd' A := w.2.2.2.2.2.2.2.2.2.2.2.2.2.2
  have hk7 : ∀ x, fX7_isThief A a x = some (if 0 ≤ x ∧ x < D 1 then 1 else 0) := c.1.isThief
  have one : ∀ {X Y : Option Int}, RR X Y (fun r u => r = u) → RR (X.bind fun r => some r) (Y.bind fun r => some (r, B)) (fun r u => r = u.1) := fun h => RR.bb h (fun r u p => RR.ok p)
  rw [e.2.2.1.2.1, e.2.2.1.2.2, w32_of (x := 9 + D 1) (by omega) (by omega), w32_of (x := 19 + D 0) (by omega) (by omega), w32_of (x := 29 + D 0) (by omega) (by omega), in_v2, in_v2, in_v2]
  unfold fX8_rich
  refine RR.gr (fun _ => ?_)
  by_cases r1 : 10 ≤ what ∧ what < 40
  · have hd : what.tdiv 10 = what / 10 := Int.tdiv_eq_ediv_of_nonneg (by omega)
    have hm : what.tmod 10 = what % 10 := Int.tmod_eq_emod_of_nonneg (by omega)
    refine RR.negl (by omega) (RR.negl (by omega) (RR.negl (by omega) (RR.negl (by omega) (RR.negl (by omega) (RR.negl (by omega) (RR.posl r1.2 ?_))))))
    rw [hd, hm, w32_of (x := what / 10) (by omega) (by omega)]
    refine RR.rl ?_
    unfold fX8_richOf
    rw [c.2.2.1, c.1.isThief, c.1.isHouse]
    by_cases d1 : what < 20
    · have em : what % 10 = what - 10 := by omega
      rw [em]
      refine RR.posl (by omega) (RR.gl (fun _ => RR.gl (fun _ => RR.flagl (fun z => RR.flagr (fun z' => ?_) (fun z' => absurd z (by omega))) (fun z => RR.flagr (fun z' => absurd z' (by omega)) (fun z' => RR.flagr (fun z' => absurd z' (by omega)) (fun _ => RR.flagr (fun z' => absurd z' (by omega)) (fun _ => RR.negr (by omega) (RR.negr (by omega) (RR.negr (by omega) (RR.negr (by omega) (RR.negr (by omega) (RR.ok rfl)))))))))))) 
      rw [w32_of (x := what - 10) (by omega) (by omega)]
      exact one (w.can z.1 z.2)
    refine RR.negl (by omega) (RR.gl (fun _ => RR.gl (fun _ => RR.flagr (fun z' => absurd z' (by omega)) (fun _ => ?_))))
    by_cases d2 : what < 30
    · have em : what % 10 = what - 20 := by omega
      rw [em]
      refine RR.flagl (fun z => RR.posl (by omega) (RR.flagr (fun z' => ?_) (fun z' => absurd z (by omega)))) (fun z => RR.flagr (fun z' => absurd z' (by omega)) (fun z' => RR.flagr (fun z' => absurd z' (by omega)) (fun _ => RR.negr (by omega) (RR.negr (by omega) (RR.negr (by omega) (RR.negr (by omega) (RR.negr (by omega) (RR.ok rfl))))))))
      rw [w32_of (x := what - 20) (by omega) (by omega)]
      exact one (RR.okp (c.wealthI sb z.1 z.2) (w.wealth z.1 z.2) (fun _ _ x y => by rw [x, y]))
    · have em : what % 10 = what - 30 := by omega
      rw [em]
      refine RR.flagr (fun z' => absurd z' (by omega)) (fun z' => RR.flagl (fun z => RR.negl (by omega) (RR.flagr (fun z' => ?_) (fun z' => absurd z (by omega)))) (fun z => RR.flagr (fun z' => absurd z' (by omega)) (fun _ => RR.negr (by omega) (RR.negr (by omega) (RR.negr (by omega) (RR.negr (by omega) (RR.negr (by omega) (RR.ok rfl))))))))
      rw [w32_of (x := what - 30) (by omega) (by omega)]
      exact one (w.ranked_R z.1 z.2)
  · refine RR.flagr (fun z' => absurd z' (by omega)) (fun _ => RR.flagr (fun z' => absurd z' (by omega)) (fun _ => RR.flagr (fun z' => absurd z' (by omega)) (fun _ => ?_)))
    have un : ∀ u, RR (fX8_unlike A 68 u) (fX11_unlike B 85 u) (fun r u => r = u) := fun u => RR.okp (c.unlike sb u) (w.unlike u) (fun _ _ x y => by rw [x, y])
    by_cases w0 : what = 0
    · exact RR.posl w0 (RR.posr w0 (one (RR.okp (c.settle lb) w.settle (fun _ _ x y => x.eq y (cw_bd bd bd3 lb)))))
    refine RR.negl w0 (RR.negr w0 ?_)
    by_cases w1 : what = 1
    · exact RR.posl w1 (RR.posr w1 (one (RR.okp (c.gap sb) w.gap (fun _ _ x y => x.uniq y))))
    refine RR.negl w1 (RR.negr w1 ?_)
    by_cases w2 : what = 2
    · exact RR.posl w2 (RR.posr w2 (RR.jr (RR.negr (by omega) (one (un 0)))))
    refine RR.negl w2 (RR.negr w2 ?_)
    by_cases w3 : what = 3
    · exact RR.posl w3 (RR.posr w3 (RR.jr (RR.posr w3 (one (un 1)))))
    refine RR.negl w3 (RR.negr w3 ?_)
    by_cases w4 : what = 4
    · exact RR.posl w4 (RR.posr w4 (one w.robbed))
    refine RR.negl w4 (RR.negr w4 ?_)
    exact RR.il (fun _ => RR.ok rfl) (fun _ => RR.negl (by omega) (RR.ok rfl))
theorem RR.wl {ρ σ : Type} {X : Option ρ} {Y : Option σ} {Q : ρ → σ → Prop} {P : ρ → Prop} (hp : PC X P) (h : RR X Y Q) : RR X Y (fun r u => P r ∧ Q r u) := fun r u e e' => ⟨hp r e, h r u e e'⟩
theorem wealth_E (h : INV3 M) (t l n m x : Int) : TT (fX10_wealth M 0 t l n m x) (fun r => Keep M r.2 ∧ TT (fX11_wealth r.2 85 t l n m x) (fun u => r.1 = u.1 ∧ Keep r.2 u.2)) := by
  have hT := h.1.1.1
  refine TT.rrm (P := fun r => Keep M r.2) (Q := fun N u => Keep N u.2) (Y := fun N => fX11_wealth N 85 t l n m x) (wealthX_T hT t l n m x) (fun N hN => by obtain ⟨i, kN⟩ := hN; have kN : Keep M N := kN; exact wealthY_T (hT.keep kN) t l n m x) (fun N hN => ?_)
  obtain ⟨_, kN⟩ := hN
  have kN : Keep M N := kN
  unfold fX10_wealth fX11_wealth
  have hb : PC (fX10_walkJust M 0 t l n m) (fun r => r.1 = 1 → BD3 r.2) := walkJust_B h t l n m
  refine RR.gl (fun _ => RR.gr (fun _ => RR.mr (RR.bb (RR.wl hb (just_Q h kN t l n m)) (fun r u p => ?_))))
  obtain ⟨pb, p⟩ := p
  rcases p with ⟨p1, p2⟩ | ⟨⟨p1, p2⟩, a, lw, D, L, wb⟩
  · exact RR.posl p1 (RR.posr p2 (RR.ok rfl))
  refine RR.negl (by rw [p1]; decide) (RR.negr (by rw [p2]; decide) (RR.gl (fun _ => ?_)))
  rw [wp0_3 wb.1.1.1]
  exact RR.lb ((wb.rich (pb p1) x).mono (fun r u z => PC.ok z))
end Wealth
