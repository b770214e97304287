/-! sights; moved -/
section Moved
variable {M N : Mem} {D S : Int → Int}
/-- a class's sight that is told as S, the left ones of it -/
def SD (M : Mem) (a : Int) (S : Int → Int) : Prop := WT M ∧ SGA a ∧ ∀ y, 0 ≤ y → y < 30 → M.1 (a + 3) y = S (17 + y)
def RSd (N : Mem) (k : Int) (S : Int → Int) : Prop := WT N ∧ (k = 0 ∨ k = 1) ∧ N.1 85 48 = k ∧ ∀ y, 0 ≤ y → y < 47 → N.1 94 (47 * k + y) = S y
def SBd (S : Int → Int) : Prop := ∀ y, 0 ≤ y → y < 30 → -1 ≤ S (17 + y) ∧ S (17 + y) ≤ 18
theorem gd3_ (h : WT M) {a : Int} (ha : SGA a) {i : Int} (h1 : 0 ≤ i) (h2 : i < 30) : -1 ≤ M.1 (a + 3) i ∧ M.1 (a + 3) i ≤ 18 := by
  rcases ha with rfl | rfl
  · exact rows_at (p := (26, 0, 29, (-1), 18)) h.2.1 31 rfl h1 (by show i ≤ 29; omega)
  · exact rows_at (p := (45, 0, 29, (-1), 18)) h.2.1 35 rfl h1 (by show i ≤ 29; omega)
theorem sightV_S (h : INV2 M) {k : Int} (k0 : 0 ≤ k) (k1 : k < M.1 3 3) : SD M (23 + 19 * k) (fun y => M.1 94 (47 * k + y)) ∧ SBd (fun y => M.1 94 (47 * k + y)) := by
  have hc := cn_ h.1.1 (i := 3) (by decide) (by decide)
  have ha : SGA (23 + 19 * k) := SGA.of (by omega)
  obtain ⟨_, _, e⟩ := sightV_D h k0 k1
  exact ⟨⟨h.1.1, ha, e⟩, fun y p q => by have := gd3_ h.1.1 ha p q; rw [e y p q] at this; exact this⟩
theorem RSd.left {k h g : Int} (d : RSd N k S) (h0 : 0 ≤ h) (h1 : h < 6) (g0 : 0 ≤ g) (g1 : g < 5) : fX11_left N 85 h g = some (S (17 + (5 * h + g))) := by
  rw [left_V d.1 d.2.1 d.2.2.1 h0 h1 g0 g1, d.2.2.2 _ (by omega) (by omega)]
def tdS (D S : Int → Int) (g : Int) : Bool := al (fun h => !decide (S (17 + (5 * h + g)) = -1)) (D 0).toNat
theorem tdS_iff {g : Int} (b0 : 0 ≤ D 0) : tdS D S g = true ↔ ∀ h, 0 ≤ h → h < D 0 → S (17 + (5 * h + g)) ≠ -1 := by
  unfold tdS
  rw [al_iff]
  constructor
  · intro w h p q e
    have := w h p (by omega)
    rw [decide_eq_true e] at this
    cases this
  · intro w h p q
    rw [decide_eq_false (w h p (by omega))]; rfl
theorem tdS_no {g h : Int} (b0 : 0 ≤ D 0) (h0 : 0 ≤ h) (h1 : h < D 0) (z : S (17 + (5 * h + g)) = -1) : tdS D S g = false := by
  cases e : tdS D S g with
  | false => rfl
  | true => exact absurd z ((tdS_iff b0).mp e h h0 h1)
theorem SD.isTold {a b g : Int} (s : SD M a S) (d : TD M b D) (g0 : 0 ≤ g) (g1 : g < 5) : PC (fX4_isTold M a b g) (fun r => (r = 1 ∧ tdS D S g = true) ∨ (r = 0 ∧ tdS D S g = false)) := by
  have bb := d.bd.1
  have e0 := d.2.2.1.1
  unfold fX4_isTold
  rw [e0, gp3_ s.1 s.2.1]
  refine PC.iter (fun i => (0 ≤ i ∧ i ≤ D 0) ∧ ∀ h, 0 ≤ h → h < i → S (17 + (5 * h + g)) ≠ -1) ?_ _ _ ⟨⟨Int.le_refl _, by omega⟩, fun h p q => by omega⟩
  rintro rec i ⟨⟨i0, i1⟩, hi⟩ hrec
  refine PC.guard (fun _ => PC.ite (fun c => PC.guard (fun _ => ?_)) (fun c => PC.ok (Or.inl ⟨rfl, (tdS_iff (by omega)).mpr (fun h p q => hi h p (by omega))⟩)))
  rw [cellV i0 (by omega) g0 g1]
  refine PC.bindE rfl (PC.guard (fun _ => ?_))
  rw [s.2.2 _ (by omega) (by omega)]
  refine PC.ite (fun z => PC.ok (Or.inr ⟨rfl, tdS_no (by omega) i0 c z⟩)) (fun z => hrec _ ⟨?_, ?_⟩)
  · rw [w32_of (by omega) (by omega)]; omega
  · rw [w32_of (by omega) (by omega)]
    intro h p q
    by_cases e : h = i
    · rw [e]; exact z
    · exact hi h p (by omega)
theorem RSd.isTold {k k' g : Int} (s : RSd N k S) (d : RD N k' D) (bd : DBd D) (g0 : 0 ≤ g) (g1 : g < 5) : PC (fX11_isToldAll N 85 g) (fun r => (r = 1 ∧ tdS D S g = true) ∨ (r = 0 ∧ tdS D S g = false)) := by
  have bb := bd.1
  have e0 := d.2.2.1.2.1
  unfold fX11_isToldAll
  rw [e0]
  refine PC.iter (fun i => (0 ≤ i ∧ i ≤ D 0) ∧ ∀ h, 0 ≤ h → h < i → S (17 + (5 * h + g)) ≠ -1) ?_ _ _ ⟨⟨Int.le_refl _, by omega⟩, fun h p q => by omega⟩
  rintro rec i ⟨⟨i0, i1⟩, hi⟩ hrec
  refine PC.guard (fun _ => PC.ite (fun c => ?_) (fun c => PC.ok (Or.inl ⟨rfl, (tdS_iff (by omega)).mpr (fun h p q => hi h p (by omega))⟩)))
  rw [s.left i0 (by omega) g0 g1]
  refine PC.bindE rfl (PC.ite (fun z => PC.ok (Or.inr ⟨rfl, tdS_no (by omega) i0 c z⟩)) (fun z => hrec _ ⟨?_, ?_⟩))
  · rw [w32_of (by omega) (by omega)]; omega
  · rw [w32_of (by omega) (by omega)]
    intro h p q
    by_cases e : h = i
    · rw [e]; exact z
    · exact hi h p (by omega)
/-- what a house has too much -/
def dfS (D S : Int → Int) (g h : Int) : Int := D (2 + (5 * h + g)) - S (17 + (5 * h + g))
def ab (x : Int) : Int := if x < 0 then -x else x
theorem iabs_ab {x : Int} (h0 : -1000000 ≤ x) : iabs x = ab x := by
  unfold iabs ab
  by_cases c : 0 ≤ x
  · rw [if_pos c, if_neg (by omega)]
  · rw [if_neg c, if_pos (by omega), w32_of (by omega) (by omega)]; omega
theorem sizeV {x : Int} (h0 : -1000000 ≤ x) (h1 : x ≤ 1000000) : fX11_size M x = some (ab x) := by
  unfold fX11_size ab
  by_cases c : x < 0
  · rw [if_pos c, if_pos c, w32_of (by omega) (by omega)]
  · rw [if_neg c, if_neg c]
def stS (D S : Int → Int) (g i : Int) : Int := sI (fun h => ab (sI (dfS D S g) (h + 1))) i
def gnS (D S : Int → Int) (g i : Int) : Int := sI (fun h => imax 0 (dfS D S g h)) i
def mrS (D S : Int → Int) (g i : Int) : Int := sI (fun h => imax 0 (-dfS D S g h)) i
theorem gm_sm (g : Int) : ∀ n : Nat, sm (fun h => imax 0 (dfS D S g h)) n - sm (fun h => imax 0 (-dfS D S g h)) n = sm (dfS D S g) n
  | 0 => rfl
  | n + 1 => by
    have := gm_sm g n
    show (sm (fun h => imax 0 (dfS D S g h)) n + imax 0 (dfS D S g (n : Int))) - (sm (fun h => imax 0 (-dfS D S g h)) n + imax 0 (-dfS D S g (n : Int))) = sm (dfS D S g) n + dfS D S g (n : Int)
    have e : imax 0 (dfS D S g (n : Int)) - imax 0 (-dfS D S g (n : Int)) = dfS D S g (n : Int) := by unfold imax; split <;> split <;> omega
    omega
theorem gm_eq (g i : Int) : gnS D S g i - mrS D S g i = sI (dfS D S g) i := gm_sm g i.toNat
theorem df_bd (bd : DBd D) (sb : SBd S) {g h : Int} (g0 : 0 ≤ g) (g1 : g < 5) (h0 : 0 ≤ h) (h1 : h < 6) : -18 ≤ dfS D S g h ∧ dfS D S g h ≤ 10 := by
  have a := bd.has (5 * h + g) (by omega) (by omega)
  have b := sb (5 * h + g) (by omega) (by omega)
  unfold dfS; omega
theorem pS_bd (bd : DBd D) (sb : SBd S) {g i : Int} (g0 : 0 ≤ g) (g1 : g < 5) (i0 : 0 ≤ i) (i1 : i ≤ 6) : -108 ≤ sI (dfS D S g) i ∧ sI (dfS D S g) i ≤ 60 := by
  have := sI_bd (f := dfS D S g) (lo := -18) (hi := 10) (i := i) (fun j p q => df_bd bd sb g0 g1 p (by omega)) i0
  omega
theorem stS_bd (bd : DBd D) (sb : SBd S) {g i : Int} (g0 : 0 ≤ g) (g1 : g < 5) (i0 : 0 ≤ i) (i1 : i ≤ 6) : 0 ≤ stS D S g i ∧ stS D S g i ≤ 648 := by
  have := sI_bd (f := fun h => ab (sI (dfS D S g) (h + 1))) (lo := 0) (hi := 108) (i := i) (fun j p q => by have := pS_bd bd sb g0 g1 (show 0 ≤ j + 1 by omega) (by omega); (try dsimp only); unfold ab; split <;> omega) i0
  unfold stS; omega
theorem gnS_bd (bd : DBd D) (sb : SBd S) {g i : Int} (g0 : 0 ≤ g) (g1 : g < 5) (i0 : 0 ≤ i) (i1 : i ≤ 6) : 0 ≤ gnS D S g i ∧ gnS D S g i ≤ 60 := by
  have := sI_bd (f := fun h => imax 0 (dfS D S g h)) (lo := 0) (hi := 10) (i := i) (fun j p q => by have := df_bd bd sb g0 g1 p (show j < 6 by omega); (try dsimp only); unfold imax; split <;> omega) i0
  unfold gnS; omega
theorem mrS_bd (bd : DBd D) (sb : SBd S) {g i : Int} (g0 : 0 ≤ g) (g1 : g < 5) (i0 : 0 ≤ i) (i1 : i ≤ 6) : 0 ≤ mrS D S g i ∧ mrS D S g i ≤ 108 := by
  have := sI_bd (f := fun h => imax 0 (-dfS D S g h)) (lo := 0) (hi := 18) (i := i) (fun j p q => by have := df_bd bd sb g0 g1 p (show j < 6 by omega); (try dsimp only); unfold imax; split <;> omega) i0
  unfold mrS; omega
theorem SD.movedOf {a b g : Int} (s : SD M a S) (d : TD M b D) (sb : SBd S) (g0 : 0 ≤ g) (g1 : g < 5) (u : Int) : PC (fX4_movedOf M a b g u) (fun r => r = if sI (dfS D S g) (D 0) = 0 then (if u = 0 then stS D S g (D 0) else gnS D S g (D 0)) else -1) := by
  have bd := d.bd
  have bb := bd.1
  obtain ⟨hT, hb, ⟨e0, _⟩, e2, _⟩ := d
  unfold fX4_movedOf
  rw [e0, gp3_ s.1 s.2.1, tp2_ hT hb]
  refine PC.iter (fun t => (0 ≤ t.2.2.2 ∧ t.2.2.2 ≤ D 0) ∧ t.1 = stS D S g t.2.2.2 ∧ t.2.1 = gnS D S g t.2.2.2 ∧ t.2.2.1 = sI (dfS D S g) t.2.2.2) ?_ _ _ ⟨⟨by (try dsimp only); omega, by (try dsimp only); omega⟩, rfl, rfl, rfl⟩
  rintro rec ⟨x, y, z, i⟩ ⟨⟨i0, i1⟩, hx, hy, hz⟩ hrec
  simp only at i0 i1 hx hy hz ⊢
  refine PC.guard (fun _ => PC.ite (fun c => ?_) (fun c => ?_))
  · rw [cellV i0 (by omega) g0 g1]
    refine PC.bindE rfl (PC.guard (fun _ => PC.guard (fun _ => PC.bindE rfl (PC.guard (fun _ => ?_)))))
    rw [(e2 _ (by omega) (by omega)).1, s.2.2 _ (by omega) (by omega)]
    have e : D (2 + (5 * i + g)) - S (17 + (5 * i + g)) = dfS D S g i := rfl
    rw [e]
    have f1 := df_bd bd sb g0 g1 i0 (by omega)
    have f2 := pS_bd bd sb g0 g1 i0 (by omega)
    have f3 := stS_bd bd sb g0 g1 i0 (by omega)
    have f4 := gnS_bd bd sb g0 g1 i0 (by omega)
    have s2 : sI (dfS D S g) (i + 1) = sI (dfS D S g) i + dfS D S g i := sI_s i0
    have s3 : stS D S g (i + 1) = stS D S g i + ab (sI (dfS D S g) (i + 1)) := sI_s i0
    have s4 : gnS D S g (i + 1) = gnS D S g i + imax 0 (dfS D S g i) := sI_s i0
    have a1 : 0 ≤ ab (sI (dfS D S g) (i + 1)) ∧ ab (sI (dfS D S g) (i + 1)) ≤ 1000 := by rw [s2]; unfold ab; split <;> omega
    have a2 : 0 ≤ imax 0 (dfS D S g i) ∧ imax 0 (dfS D S g i) ≤ 1000 := by unfold imax; split <;> omega
    have wi : w32 (i + 1) = i + 1 := w32_of (by omega) (by omega)
    refine hrec _ ⟨⟨by (try dsimp only); omega, by (try dsimp only); omega⟩, ?_, ?_, ?_⟩
    · show w32 (x + iabs (w32 (z + w32 (dfS D S g i)))) = stS D S g (w32 (i + 1))
      rw [wi, s3, ← hx, w32_of (x := dfS D S g i) (by omega) (by omega), w32_of (x := z + dfS D S g i) (by omega) (by omega), hz, ← s2, iabs_ab (by omega), w32_of (by omega) (by omega)]
    · show w32 (y + imax 0 (w32 (dfS D S g i))) = gnS D S g (w32 (i + 1))
      rw [wi, s4, ← hy, w32_of (x := dfS D S g i) (by omega) (by omega), w32_of (by omega) (by omega)]
    · show w32 (z + w32 (dfS D S g i)) = sI (dfS D S g) (w32 (i + 1))
      rw [wi, s2, ← hz, w32_of (x := dfS D S g i) (by omega) (by omega), w32_of (by omega) (by omega)]
  · have ei : i = D 0 := by omega
    rw [ei] at hx hy hz
    rw [← hx, ← hy, ← hz]
    exact PC.ite (fun z1 => by rw [if_pos z1]; exact PC.ite (fun z2 => PC.ok (by rw [if_pos z2])) (fun z2 => PC.ok (by rw [if_neg z2]))) (fun z1 => PC.ok (by rw [if_neg z1]))
theorem RR.riter {ρ σ T : Type} {X : Option ρ} {b' : (T → Option σ) → T → Option σ} {Q : ρ → σ → Prop} (R : T → Prop)
    (hb : ∀ rec' t, R t → (∀ t', R t' → RR X (rec' t') Q) → RR X (b' rec' t) Q) : ∀ n t, R t → RR X (iterC b' n t) Q
  | 0, _, _ => fun _ _ _ e => by cases e
  | n + 1, t, h => hb (iterC b' n) t h (fun t' h' => RR.riter R hb n t' h')
set_option maxHeartbeats 1000000 in
theorem moved_E (h : INV2 M) (k l u : Int) : TT (fX10_moved M 0 k l u) (fun r => TT (fX11_moved M 85 k l u) (fun v => r = v.1 ∧ Keep M v.2)) := by
  have hT := h.1.1
  refine TT.rr (movedX_T hT k l u) (movedY_T hT k l u) ?_
  unfold fX10_moved fX11_moved
  rw [wp0_0 hT, townAt_V hT, sightAt_V hT]
  refine RR.gl (fun _ => RR.gl (fun _ => RR.gr (fun _ => RR.mr ?_)))
  have hT2 : WT (mst M 85 0 0) := hT.keep m85
  have hc := cn_ hT (i := 3) (by decide) (by decide)
  have e90 : (mst M 85 0 0).1 90 3 = M.1 3 3 := by rw [mst_ne _ _ _ _ _ _ (by decide)]; exact cnt90 h (by decide) (by decide)
  rw [hasSight_V hT2 l, e90]
  show RR ((fun r5 => if (if 0 ≤ k ∧ k < M.1 3 0 then 8 + 19 * k else -1) = -1 then (some (-1)) else (if r5 = -1 then (some (-1)) else (if M.2.1 r5 = 4 then (fX4_movedFrom M r5 (if 0 ≤ k ∧ k < M.1 3 0 then 8 + 19 * k else -1) u).bind fun r9 => some r9 else none))) (if 0 ≤ l ∧ l < M.1 3 3 then 23 + 19 * l else -1)) _ _
  dsimp only
  by_cases c : 0 ≤ l ∧ l < M.1 3 3
  rotate_left
  · rw [if_neg c, if_neg c]
    exact RR.br (PC.ok (Q := fun v => v.1 = 0) rfl) (fun r q => RR.posr q (RR.il (fun _ => RR.ok rfl) (fun _ => RR.posl rfl (RR.ok rfl))))
  rw [if_pos c, if_pos c]
  have kk : Keep M (mst (mst M 85 0 0) 85 48 l) := m85.st rfl
  refine RR.br (PC.ok (Q := fun v => v = (1, mst (mst M 85 0 0) 85 48 l)) rfl) (fun r q => ?_)
  rw [q]
  refine RR.negr n10 (RR.gr (fun _ => RR.handR h kk k (fun c' => RR.posr rfl (RR.posl (by rw [if_neg c']) (RR.ok rfl))) (fun c' N d kn e => ?_)))
  rw [if_pos c']
  obtain ⟨s, sb⟩ := sightV_S h c.1 c.2
  have t := townV_D h c'.1 c'.2
  have rs : RSd N l (fun y => M.1 94 (47 * l + y)) := ⟨d.1, by omega, by rw [e 48 (Or.inr (by decide))]; exact mst_at _ _ _ _, fun y p q => by rw [keep_lo kn _ (Or.inr (by decide)), keep_lo kk _ (Or.inr (by decide))]⟩
  generalize (fun y => M.1 94 (47 * l + y)) = S at s sb rs
  have bd := t.bd
  generalize (fun y => M.1 91 (92 * k + y)) = D at d t bd
  have bb := bd.1
  have e0 := d.2.2.1.2.1
  refine RR.negr n10 (RR.negl (by omega) (RR.negl (by omega) (RR.gl (fun _ => RR.rl ?_))))
  unfold fX4_movedFrom
  dsimp only
  rw [e0]
  refine RR.iter (fun x y => x.2 = y.2.2 ∧ (0 ≤ x.2 ∧ x.2 ≤ 5) ∧ x.1 = (if u = 0 then y.1 else y.2.1) ∧ (0 ≤ y.1 ∧ y.1 ≤ 648 * x.2) ∧ (0 ≤ y.2.1 ∧ y.2.1 ≤ 108 * x.2)) ?_ _ _ _ _ ⟨rfl, by decide, by (try dsimp only); split <;> rfl, by decide, by decide⟩
  rintro rec rec' ⟨x, g⟩ ⟨y, z, g'⟩ ⟨e1, ⟨g0, g1⟩, hx, ⟨y0, y1⟩, z0, z1⟩ hrec
  simp only at e1 g0 g1 hx y0 y1 z0 z1 ⊢
  subst e1
  have wg : w32 (g + 1) = g + 1 := by
    rw [w32_of (by omega) (by omega)]
  refine RR.ii Iff.rfl (fun c1 _ => RR.gl (fun _ => RR.bl (s.isTold t g0 c1) (fun r q => ?_))) (fun c1 _ => RR.ir (fun z => RR.ok (by rw [hx, if_pos z])) (fun z => RR.ok (by rw [hx, if_neg z])))
  rcases q with ⟨rfl, q⟩ | ⟨rfl, q⟩
  rotate_left
  · refine RR.posl rfl (RR.stepr (RR.gr (fun _ => RR.jr (RR.posr (by (try dsimp only); omega) (RR.br (rs.isTold d bd g0 c1) (fun r q' => ?_))))))
    rcases q' with ⟨_, q'⟩ | ⟨rfl, q'⟩
    · rw [q] at q'; cases q'
    refine RR.posr rfl (RR.posr rfl (hrec _ _ ⟨rfl, ⟨by (try dsimp only); omega, by (try dsimp only); omega⟩, hx, ⟨y0, by (try dsimp only); omega⟩, z0, by (try dsimp only); omega⟩))
  refine RR.negl n10 ?_
  have se := s.movedOf t sb g0 c1 u
  refine RR.riter (fun p => (0 ≤ p.2.2.2 ∧ p.2.2.2 ≤ D 0) ∧ p.1 = y + stS D S g p.2.2.2 ∧ p.2.1 = z + mrS D S g p.2.2.2 ∧ p.2.2.1 = -sI (dfS D S g) p.2.2.2) ?_ _ _ ⟨⟨by (try dsimp only); omega, by (try dsimp only); omega⟩, by show y = y + 0; omega, by show z = z + 0; omega, rfl⟩
  rintro rec2 ⟨p1, p2, p3, i⟩ ⟨⟨i0, i1⟩, h1, h2, h3⟩ hrec2
  simp only at i0 i1 h1 h2 h3 ⊢
  have f2 := pS_bd bd sb g0 c1 i0 (by omega)
  have f3 := stS_bd bd sb g0 c1 i0 (by omega)
  have f4 := mrS_bd bd sb g0 c1 i0 (by omega)
  refine RR.gr (fun _ => RR.jr (RR.ir (fun c2 => RR.br (rs.isTold d bd g0 c1) (fun r q' => ?_)) (fun c2 => ?_)))
  · rcases q' with ⟨rfl, q'⟩ | ⟨_, q'⟩
    rotate_left
    · rw [q] at q'; cases q'
    refine RR.negr n10 ?_
    rw [rs.left i0 (by omega) g0 c1, hgI i0 (by omega) g0 c1 (by decide) (by decide), d.of (by omega) (by omega)]
    have f1 := df_bd bd sb g0 c1 i0 (by omega)
    have s2 : sI (dfS D S g) (i + 1) = sI (dfS D S g) i + dfS D S g i := sI_s i0
    have s3 : stS D S g (i + 1) = stS D S g i + ab (sI (dfS D S g) (i + 1)) := sI_s i0
    have s4 : mrS D S g (i + 1) = mrS D S g i + imax 0 (-dfS D S g i) := sI_s i0
    have a1 : 0 ≤ ab (sI (dfS D S g) (i + 1)) ∧ ab (sI (dfS D S g) (i + 1)) ≤ 1000 := by rw [s2]; unfold ab; split <;> omega
    have a2 : 0 ≤ imax 0 (-dfS D S g i) ∧ imax 0 (-dfS D S g i) ≤ 1000 := by unfold imax; split <;> omega
    have wi : w32 (i + 1) = i + 1 := w32_of (by omega) (by omega)
    have e2 : S (17 + (5 * i + g)) - D (2 + (5 * i + g)) = -dfS D S g i := by unfold dfS; omega
    rw [bd1, bd1, e2, w32_of (x := -dfS D S g i) (by omega) (by omega), w32_of (x := p3 + -dfS D S g i) (by omega) (by omega), sizeV (by omega) (by omega), bd1, greaterV, bd1]
    have e3 : ab (p3 + -dfS D S g i) = ab (sI (dfS D S g) (i + 1)) := by rw [s2, h3]; unfold ab; split <;> split <;> omega
    rw [e3]
    refine hrec2 _ ⟨⟨by (try dsimp only); omega, by (try dsimp only); omega⟩, ?_, ?_, ?_⟩
    · show w32 (p1 + ab (sI (dfS D S g) (i + 1))) = y + stS D S g (w32 (i + 1))
      rw [wi, s3, w32_of (by omega) (by omega)]; omega
    · show w32 (p2 + imax 0 (-dfS D S g i)) = z + mrS D S g (w32 (i + 1))
      rw [wi, s4, w32_of (by omega) (by omega)]; omega
    · show p3 + -dfS D S g i = -sI (dfS D S g) (w32 (i + 1))
      rw [wi, s2]; omega
  · have ei : i = D 0 := by omega
    have gm := gm_eq (D := D) (S := S) g i
    have f5 := gnS_bd bd sb g0 c1 i0 (by omega)
    rw [← ei] at se
    refine RR.bl se (fun r q' => ?_)
    refine RR.ir (fun z3 => ?_) (fun z3 => ?_)
    · rw [if_pos (by omega)] at q'
      refine RR.negl (by rw [q']; split <;> omega) (hrec _ _ ⟨rfl, ⟨by (try dsimp only); omega, by (try dsimp only); omega⟩, ?_, ⟨by (try dsimp only); omega, by (try dsimp only); omega⟩, by (try dsimp only); omega, by (try dsimp only); omega⟩)
      show w32 (x + r) = if u = 0 then p1 else p2
      by_cases cu : u = 0
      · rw [if_pos cu] at q' hx ⊢
        rw [q', w32_of (by omega) (by omega)]; omega
      · rw [if_neg cu] at q' hx ⊢
        rw [q', w32_of (by omega) (by omega)]; omega
    · rw [if_neg (by omega)] at q'
      exact RR.posl q' (RR.ok rfl)
end Moved
