/-! a town's own values: worth, prize; meets, prize -/
section Own
variable {M N : Mem} {D : Int → Int}
/-- worth of what E has in a house -/
def woE (D E : Int → Int) (h : Int) : Int := sI (fun g => E (5 * h + g) * D (79 + g)) 5
def wo (D : Int → Int) (h : Int) : Int := woE D (fun y => D (2 + y)) h
theorem woE_in {E : Int → Int} (bd : DBd D) (hE : ∀ y, 0 ≤ y → y < 30 → 0 ≤ E y ∧ E y ≤ 9) {h : Int} (h0 : 0 ≤ h) (h1 : h < 6) {j : Int} (p : 0 ≤ j) (q : j < 5) : 0 ≤ E (5 * h + j) * D (79 + j) ∧ E (5 * h + j) * D (79 + j) ≤ 81 := by
  have e := hE (5 * h + j) (by omega) (by omega)
  have b := (bd.2.2.2.2.1 j p q).2
  have := mul_bd e.1 e.2 b.1 b.2
  omega
theorem woE_bd {E : Int → Int} (bd : DBd D) (hE : ∀ y, 0 ≤ y → y < 30 → 0 ≤ E y ∧ E y ≤ 9) {h : Int} (h0 : 0 ≤ h) (h1 : h < 6) {i : Int} (i0 : 0 ≤ i) (i1 : i ≤ 5) : 0 ≤ sI (fun g => E (5 * h + g) * D (79 + g)) i ∧ sI (fun g => E (5 * h + g) * D (79 + g)) i ≤ 405 := by
  have := sI_bd (f := fun g => E (5 * h + g) * D (79 + g)) (lo := 0) (hi := 81) (i := i) (fun j p q => woE_in bd hE h0 h1 p (by omega)) i0
  omega
theorem DBd.has (bd : DBd D) : ∀ y, 0 ≤ y → y < 30 → 0 ≤ D (2 + y) ∧ D (2 + y) ≤ 9 := fun y p q => (bd.2.2.1 y p q).1
theorem TD.worthIn {a b h : Int} {E : Int → Int} (d : TD M a D) (hb : ∀ y, 0 ≤ y → y < 30 → M.1 b y = E y) (hE : ∀ y, 0 ≤ y → y < 30 → 0 ≤ E y ∧ E y ≤ 9) (h0 : 0 ≤ h) (h1 : h < 6) : PC (fX7_worthIn M a b h) (fun r => r = woE D E h) := by
  have bd := d.bd
  obtain ⟨hT, ha, _, _, _, e4, _⟩ := d
  unfold fX7_worthIn woE
  refine PC.iter (fun s => (0 ≤ s.2 ∧ s.2 ≤ 5) ∧ s.1 = sI (fun g => E (5 * h + g) * D (79 + g)) s.2) ?_ _ _ ⟨⟨by decide, by decide⟩, rfl⟩
  rintro rec ⟨x, g⟩ ⟨⟨g0, g5⟩, hx⟩ hrec
  simp only at g0 g5 hx ⊢
  refine PC.ite (fun c => PC.guard (fun _ => PC.guard (fun _ => ?_))) (fun c => PC.ok ?_)
  rotate_left
  · rw [hx, show g = 5 by omega]
  rw [cellV h0 h1 g0 c, tp7_ hT ha]
  refine PC.bindE rfl (PC.guard (fun _ => hrec _ ⟨⟨?_, ?_⟩, ?_⟩))
  · show 0 ≤ w32 (g + 1)
    rw [w32_of (by omega) (by omega)]; omega
  · show w32 (g + 1) ≤ 5
    rw [w32_of (by omega) (by omega)]; omega
  · show w32 (x + w32 (M.1 (a + 6) g * M.1 b (5 * h + g))) = sI _ (w32 (g + 1))
    have b1 := woE_in bd hE h0 h1 g0 c
    have b2 := woE_bd bd hE h0 h1 g0 g5
    rw [← hx] at b2
    rw [w32_of (x := g + 1) (by omega) (by omega), sI_s g0, ← hx, (e4 g g0 c).2, hb _ (by omega) (by omega), Int.mul_comm (D (79 + g)), w32_of (x := E (5 * h + g) * D (79 + g)) (by omega) (by omega), w32_of (by omega) (by omega)]
theorem TD.worth {a h : Int} (d : TD M a D) (h0 : 0 ≤ h) (h1 : h < 6) : PC (fX7_worthIn M a (a + 1) h) (fun r => r = wo D h) := d.worthIn (fun y p q => (d.2.2.2.1 y p q).1) d.bd.has h0 h1
theorem RD.worth {k h : Int} (d : RD N k D) (bd : DBd D) (h0 : 0 ≤ h) (h1 : h < 6) : PC (fX11_worthOf N 85 h) (fun r => r = wo D h) := by
  unfold fX11_worthOf wo woE
  refine PC.iter (fun s => (0 ≤ s.2 ∧ s.2 ≤ 5) ∧ s.1 = sI (fun g => D (2 + (5 * h + g)) * D (79 + g)) s.2) ?_ _ _ ⟨⟨by decide, by decide⟩, rfl⟩
  rintro rec ⟨x, g⟩ ⟨⟨g0, g5⟩, hx⟩ hrec
  simp only at g0 g5 hx ⊢
  refine PC.ite (fun c => PC.guard (fun _ => ?_)) (fun c => PC.ok ?_)
  rotate_left
  · rw [hx, show g = 5 by omega]
  rw [hgI h0 h1 g0 c (by decide) (by decide), d.of (by omega) (by omega)]
  refine PC.bindE rfl ?_
  rw [w32_of (x := 79 + g) (by omega) (by omega), d.of (by omega) (by omega)]
  refine PC.bindE rfl (hrec _ ⟨⟨?_, ?_⟩, ?_⟩)
  · show 0 ≤ w32 (g + 1)
    rw [w32_of (by omega) (by omega)]; omega
  · show w32 (g + 1) ≤ 5
    rw [w32_of (by omega) (by omega)]; omega
  · show w32 (x + w32 (D (2 + (5 * h + g)) * D (79 + g))) = sI _ (w32 (g + 1))
    have b1 := woE_in (E := fun y => D (2 + y)) bd bd.has h0 h1 g0 c
    have b2 := woE_bd (E := fun y => D (2 + y)) bd bd.has h0 h1 g0 g5
    rw [← hx] at b2
    rw [w32_of (x := g + 1) (by omega) (by omega), sI_s g0, ← hx, w32_of (x := D (2 + (5 * h + g)) * D (79 + g)) (by omega) (by omega), w32_of (by omega) (by omega)]
theorem wo_bd (bd : DBd D) {h : Int} (h0 : 0 ≤ h) (h1 : h < 6) : 0 ≤ wo D h ∧ wo D h ≤ 405 := woE_bd (E := fun y => D (2 + y)) bd bd.has h0 h1 (by decide) (by decide)
def pz (D : Int → Int) (x y : Int) : Int := if x = y then wo D x / 2 - 3 * D (62 + x) else wo D x - 2 * D (62 + x)
theorem TD.prize {a x y : Int} (d : TD M a D) (x0 : 0 ≤ x) (x1 : x < 6) : PC (fX7_prizeOf M a x y) (fun r => r = pz D x y) := by
  have bd := d.bd
  have d' := d
  obtain ⟨hT, ha, _, _, e3, _⟩ := d
  have b := (bd.2.2.2.1 x x0 x1).1
  have e := (e3 x x0 x1).1
  have w := wo_bd bd x0 x1
  unfold fX7_prizeOf pz
  rw [tp2_ hT ha, tp4_ hT ha, e]
  refine PC.guard (fun _ => PC.bind (d'.worth x0 x1) (fun r q => ?_))
  subst q
  rw [Int.tdiv_eq_ediv_of_nonneg w.1, w32_of (x := wo D x / 2) (by omega) (by omega), w32_of (x := 3 * D (62 + x)) (by omega) (by omega), w32_of (x := 2 * D (62 + x)) (by omega) (by omega)]
  exact PC.ite (fun c => PC.guard (fun _ => PC.ok (by rw [if_pos c, w32_of (by omega) (by omega)]))) (fun c => PC.guard (fun _ => PC.ok (by rw [if_neg c, w32_of (by omega) (by omega)])))
theorem RD.prize {k x y : Int} (d : RD N k D) (bd : DBd D) (x0 : 0 ≤ x) (x1 : x < 6) : PC (fX11_prizeOf N 85 x y) (fun r => r = pz D x y) := by
  have b := (bd.2.2.2.1 x x0 x1).1
  have w := wo_bd bd x0 x1
  unfold fX11_prizeOf pz
  rw [w32_of (x := 62 + x) (by omega) (by omega), d.of (by omega) (by omega)]
  refine PC.ite (fun c => PC.guard (fun _ => PC.bind (d.worth bd x0 x1) (fun r q => PC.bindE rfl (PC.ok ?_)))) (fun c => PC.guard (fun _ => PC.bind (d.worth bd x0 x1) (fun r q => PC.bindE rfl (PC.ok ?_))))
  · subst q
    rw [if_pos c, Int.tdiv_eq_ediv_of_nonneg w.1, w32_of (x := wo D x / 2) (by omega) (by omega), w32_of (x := 3 * D (62 + x)) (by omega) (by omega), w32_of (by omega) (by omega)]
  · subst q
    rw [if_neg c, w32_of (x := 2 * D (62 + x)) (by omega) (by omega), w32_of (by omega) (by omega)]
theorem prize_E (h : INV2 M) (k x y : Int) : TT (fX10_prize M 0 k x y) (fun r => TT (fX11_prize M 85 k x y) (fun u => r = u.1 ∧ Keep M u.2)) := by
  have hT := h.1.1
  refine TT.rr (prizeX_T hT k x y) (prizeY_T hT k x y) ?_
  unfold fX10_prize fX11_prize
  rw [wp0_0 hT]
  refine RR.gl (fun _ => RR.gl (fun _ => RR.gr (fun _ => RR.mr (RR.town h k (RR.posl rfl (RR.posr rfl (RR.ok rfl))) (fun a N D ne d e bd _ => RR.negl ne (RR.negr n10 (RR.gl (fun _ => RR.gr (fun _ => ?_)))))))))
  have b := bd.1
  rw [d.isHouse, d.isHouse, e.isHouse bd, e.isHouse bd]
  refine RR.flag (fun c => RR.flag (fun _ => RR.rl ?_) (fun _ => RR.ok rfl)) (fun _ => RR.ok rfl)
  refine RR.br (e.prize bd c.1 (by omega)) (fun u q => ?_)
  exact RR.okp (d.prize c.1 (by omega)) (PC.ok (Q := fun v => v = (u, N)) rfl) (fun r v p p' => by rw [p, p', q])
theorem meets_E (h : INV2 M) (k x y : Int) : TT (fX10_meets M 0 k x y) (fun r => TT (fX11_meets M 85 k x y) (fun u => r = u.1 ∧ Keep M u.2)) := by
  have hT := h.1.1
  refine TT.rr (meetsX_T hT k x y) (meetsY_T hT k x y) ?_
  unfold fX10_meets fX11_meets
  rw [wp0_0 hT]
  refine RR.gl (fun _ => RR.gl (fun _ => RR.gr (fun _ => RR.mr (RR.town h k (RR.posl rfl (RR.posr rfl (RR.ok rfl))) (fun a N D ne d e bd _ => RR.negl ne (RR.negr n10 (RR.gl (fun _ => RR.gr (fun _ => ?_)))))))))
  have b := bd.1
  rw [d.isHouse, d.isHouse, e.isHouse bd, e.isHouse bd]
  refine RR.flag (fun c => RR.flag (fun c' => RR.rl ?_) (fun _ => RR.ok rfl)) (fun _ => RR.ok rfl)
  obtain ⟨hT, ha, _, _, e3, _⟩ := d
  unfold fX7_meeting
  refine RR.iter (fun s t => s = t ∧ (0 ≤ s.1 ∧ s.1 < 6) ∧ (0 ≤ s.2.1 ∧ s.2.1 < 6) ∧ (0 ≤ s.2.2 ∧ s.2.2 ≤ 41)) ?_ _ _ _ _ ⟨rfl, ⟨c.1, by dsimp only; omega⟩, ⟨c'.1, by dsimp only; omega⟩, by dsimp only; omega⟩
  rintro rec rec' ⟨p, q, n⟩ t ⟨rfl, ⟨p0, p6⟩, ⟨q0, q6⟩, n0, n1⟩ hrec
  simp only at p0 p6 q0 q6 n0 n1 ⊢
  refine RR.ii Iff.rfl (fun _ _ => RR.ok rfl) (fun z _ => RR.ii Iff.rfl (fun _ _ => RR.ok rfl) (fun _ _ => RR.gl (fun _ => RR.gl (fun _ => RR.gl (fun _ => ?_)))))
  have r1 := bd.2.2.2.1 p p0 p6
  have r2 := bd.2.2.2.1 q q0 q6
  rw [w32_of (x := 68 + p) (by omega) (by omega), w32_of (x := 68 + q) (by omega) (by omega), e.of (by omega) (by omega), e.of (by omega) (by omega), tp5_ hT ha, (e3 p p0 p6).2, (e3 q q0 q6).2]
  exact hrec _ _ ⟨rfl, ⟨r1.2.1, by have := r1.2.2; dsimp only; omega⟩, ⟨r2.2.1, by have := r2.2.2; dsimp only; omega⟩, by dsimp only; rw [w32_of (by omega) (by omega)]; omega⟩
end Own
