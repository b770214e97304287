/-! aid, as the reference has it -/
section AidR
variable {M N : Mem} {D : Int → Int}
theorem scrR {x : Int} (y : Int) (h : 95 ≤ x ∧ x ≤ 110) : scr x y = true := by
  unfold scr
  rw [show decide (95 ≤ x) = true from decide_eq_true h.1, show decide (x ≤ 110) = true from decide_eq_true h.2]
  simp
theorem RD.keep {k : Int} (d : RD N k D) (q : Keep N M) (e : ∀ y, 24 ≤ y → y ≤ 26 → M.1 85 y = N.1 85 y) : RD M k D := by
  obtain ⟨hT, hk, ⟨e1, e2, e3⟩, hD⟩ := d
  exact ⟨hT.keep q, hk, ⟨by rw [e 24 (by decide) (by decide)]; exact e1, by rw [e 25 (by decide) (by decide)]; exact e2, by rw [e 26 (by decide) (by decide)]; exact e3⟩, fun y p r => by rw [keep_lo q _ (Or.inr (by decide))]; exact hD y p r⟩
theorem RD.stA {k x i v : Int} (d : RD N k D) (h : 95 ≤ x ∧ x ≤ 110) : RD (mst N x i v) k D := d.keep (Keep.self.st (scrR i h)) (fun y _ _ => mst_ne _ _ _ _ _ _ (by omega))
theorem RD.stF {k i v : Int} (d : RD N k D) (hs : scr 85 i = true) (h : i < 24 ∨ 26 < i) : RD (mst N 85 i v) k D := d.keep (Keep.self.st hs) (fun y _ _ => mst_nf _ _ _ _ _ _ (by omega))
theorem hg2 {h g : Int} (h0 : 0 ≤ h) (h1 : h < 6) (g0 : 0 ≤ g) (g1 : g < 5) : w32 (w32 (5 * h) + g) = 5 * h + g := by
  rw [w32_of (x := 5 * h) (by omega) (by omega), w32_of (by omega) (by omega)]
/-- where the search for a good's aid stands -/
def AGI (k : Int) (D : Int → Int) (g : Int) (N : Mem) (w i left : Int) (M : Mem) : Prop := RD M k D ∧ left = imax 0 (lkA D g - prS D (fun h => spS D h g) w i) ∧ (∀ h, 0 ≤ h → h < D 0 → M.1 108 (5 * h + g) = if D (62 + h) < w ∨ (D (62 + h) = w ∧ h < i) then tkS D g h else 0) ∧ (∀ h g', 0 ≤ h → 0 ≤ g' → g' < 5 → g' ≠ g → M.1 108 (5 * h + g') = N.1 108 (5 * h + g')) ∧ M.1 85 44 = N.1 85 44 + prS D (fun h => tkS D g h * D (62 + h)) w i ∧ M.1 85 45 = N.1 85 45 + prS D (tkS D g) w i
theorem imin_c (a b : Int) : imin a b = imin b a := by unfold imin; split <;> split <;> omega
set_option maxHeartbeats 2000000 in
theorem RD.aidGood {k g : Int} (d : RD N k D) (bd : DBd D) (g0 : 0 ≤ g) (g1 : g < 5) (c44 : 0 ≤ N.1 85 44 ∧ N.1 85 44 ≤ 100000) (c45 : 0 ≤ N.1 85 45 ∧ N.1 85 45 ≤ 100000) : PC (fX11_aidGood N 85 g) (fun u => AGI k D g N 10 0 (imax 0 (lkA D g - spA D g)) u.2 ∧ u.1 = if lkA D g ≤ spA D g then 1 else 0) := by
  have b := bd.1
  have lb := lkA_bd bd g0 g1 (show 0 ≤ D 0 by omega) b.2
  have lA : 0 ≤ lkA D g ∧ lkA D g ≤ 54 := lb.1
  unfold fX11_aidGood
  refine PC.iter (fun s => (0 ≤ s.2.1 ∧ s.2.1 ≤ D 0) ∧ s.1 = sI (fun h => lkS D h g) s.2.1 ∧ RD s.2.2 k D ∧ (∀ h, 0 ≤ h → h < s.2.1 → s.2.2.1 108 (5 * h + g) = 0) ∧ (∀ h g', 0 ≤ h → 0 ≤ g' → g' < 5 → g' ≠ g → s.2.2.1 108 (5 * h + g') = N.1 108 (5 * h + g')) ∧ s.2.2.1 85 44 = N.1 85 44 ∧ s.2.2.1 85 45 = N.1 85 45) ?_ _ _ ⟨⟨by (try dsimp only); omega, by (try dsimp only); omega⟩, rfl, d, fun h p q => by dsimp only at q; omega, fun h g' _ _ _ _ => rfl, rfl, rfl⟩
  rintro rec ⟨x, h, A⟩ ⟨⟨h0, h1⟩, hx, dA, hz, ho, e44, e45⟩ hrec
  simp only at h0 h1 hx dA hz ho e44 e45 ⊢
  rw [dA.2.2.1.2.1, wp85_43 dA.1]
  refine PC.guard (fun _ => PC.ite (fun c => PC.guard (fun _ => PC.sM ?_)) (fun c => ?_))
  · rw [hg2 h0 (by omega) g0 g1]
    have dB : RD (mst A 108 (5 * h + g) 0) k D := dA.stA (by decide)
    rw [dB.lack bd h0 (by omega) g0 g1]
    have lh := lkA_bd bd g0 g1 h0 (by omega)
    rw [← hx] at lh
    have ls := (sp_bd bd h0 (show h < 6 by omega) g0 g1).2
    have wh : w32 (h + 1) = h + 1 := w32_of (by omega) (by omega)
    refine PC.bindE rfl (hrec _ ⟨⟨by (try dsimp only); omega, by (try dsimp only); omega⟩, ?_, dB, fun j p q => ?_, fun j g' p q q1 q2 => ?_, ?_, ?_⟩)
    · show w32 (x + lkS D h g) = sI _ (w32 (h + 1))
      rw [wh, sI_s h0, ← hx, w32_of (by omega) (by omega)]
    · have q : j < w32 (h + 1) := q
      show (mst A 108 (5 * h + g) 0).1 108 (5 * j + g) = 0
      by_cases z : j = h
      · rw [z, mst_at]
      · rw [mst_nf _ _ _ _ _ _ (by omega)]; exact hz j p (by omega)
    · show (mst A 108 (5 * h + g) 0).1 108 (5 * j + g') = _
      rw [mst_nf _ _ _ _ _ _ (by omega)]; exact ho j g' p q q1 q2
    · show (mst A 108 (5 * h + g) 0).1 85 44 = _
      rw [mst_ne _ _ _ _ _ _ (by decide)]; exact e44
    · show (mst A 108 (5 * h + g) 0).1 85 45 = _
      rw [mst_ne _ _ _ _ _ _ (by decide)]; exact e45
  have eh : h = D 0 := by omega
  rw [eh] at hx hz
  have st : AGI k D g N 0 0 x A := by
    refine ⟨dA, ?_, fun j p q => ?_, ho, ?_, ?_⟩
    · rw [prS_0 bd, show x = lkA D g from hx]; unfold imax; split <;> omega
    · rw [hz j p q, if_neg (by have := (bd.2.2.2.1 j p (by omega)).1; omega)]
    · rw [prS_0 bd, e44]; omega
    · rw [prS_0 bd, e45]; omega
  clear hx hz ho e44 e45 dA hrec
  refine PC.iter (fun s => (0 ≤ s.2.1 ∧ s.2.1 ≤ 10) ∧ AGI k D g N s.2.1 0 s.1 s.2.2) ?_ _ _ ⟨⟨by (try dsimp only); omega, by (try dsimp only); omega⟩, st⟩
  clear st
  rintro rec2 ⟨x2, w, A2⟩ ⟨⟨w0, w1⟩, hA⟩ hrec2
  simp only at w0 w1 hA ⊢
  refine PC.ite (fun c => ?_) (fun c => ?_)
  rotate_left
  · have ew : w = 10 := by omega
    subst ew
    have hl := hA.2.1
    rw [prS_10 bd] at hl
    have hl' : x2 = imax 0 (lkA D g - spA D g) := hl
    rw [hl'] at hA
    refine PC.ite (fun z => PC.ok ⟨hA, ?_⟩) (fun z => PC.ok ⟨hA, ?_⟩)
    · rw [hl'] at z
      rw [if_pos (by unfold imax at z; split at z <;> omega)]
    · rw [hl'] at z
      rw [if_neg (by unfold imax at z; split at z <;> omega)]
  refine PC.iter (fun s => (0 ≤ s.2.1 ∧ s.2.1 ≤ D 0) ∧ AGI k D g N w s.2.1 s.1 s.2.2) ?_ _ _ ⟨⟨by (try dsimp only); omega, by (try dsimp only); omega⟩, hA⟩
  clear hA
  rintro rec3 ⟨x3, i, A3⟩ ⟨⟨i0, i1⟩, hA⟩ hrec3
  simp only at i0 i1 hA ⊢
  obtain ⟨dA, hl, ha, ho, e44, e45⟩ := hA
  rw [dA.2.2.1.2.1, wp85_43 dA.1]
  refine PC.guard (fun _ => PC.ite (fun c2 => ?_) (fun c2 => ?_))
  rotate_left
  · have ei : i = D 0 := by omega
    rw [ei] at hl ha e44 e45
    rw [prS_next] at hl e44 e45
    have ww : w32 (w + 1) = w + 1 := w32_of (by omega) (by omega)
    refine hrec2 _ ⟨⟨by (try dsimp only); omega, by (try dsimp only); omega⟩, ?_⟩
    show AGI k D g N (w32 (w + 1)) 0 x3 A3
    rw [ww]
    refine ⟨dA, hl, fun j p q => ?_, ho, e44, e45⟩
    rw [ha j p q]
    by_cases z : D (62 + j) < w + 1 ∨ (D (62 + j) = w + 1 ∧ j < 0)
    · rw [if_pos z, if_pos (by omega)]
    · rw [if_neg z, if_neg (by omega)]
  have wb := (bd.2.2.2.1 i i0 (by omega)).1
  rw [w32_of (x := 62 + i) (by omega) (by omega), dA.of (by omega) (by omega), dA.spare bd i0 (by omega) g0 g1]
  have sb := (sp_bd bd i0 (show i < 6 by omega) g0 g1).1
  have tb := tk_bd bd i0 (show i < 6 by omega) g0 g1
  have pb := prS_bd (D := D) (F := fun h => spS D h g) (lo := 0) (hi := 9) (w := w) (i := i) (by omega) (by decide) (by decide) (fun j p q => (sp_bd bd p (by omega) g0 g1).1)
  have pt := prS_bd (D := D) (F := tkS D g) (lo := 0) (hi := 9) (w := w) (i := i) (by omega) (by decide) (by decide) (fun j p q => tk_bd bd p (by omega) g0 g1)
  have pw := prS_bd (D := D) (F := fun h => tkS D g h * D (62 + h)) (lo := 0) (hi := 81) (w := w) (i := i) (by omega) (by decide) (by decide) (fun j p q => tkW_bd bd p (by omega) g0 g1)
  have ss := prS_step (D := D) (F := fun h => spS D h g) (w := w) i0 c2
  have st := prS_step (D := D) (F := tkS D g) (w := w) i0 c2
  have sw := prS_step (D := D) (F := fun h => tkS D g h * D (62 + h)) (w := w) i0 c2
  have lx : 0 ≤ x3 ∧ x3 ≤ 54 := by rw [hl]; unfold imax; split <;> omega
  have wi : w32 (i + 1) = i + 1 := w32_of (by omega) (by omega)
  refine PC.bindE rfl (PC.join (fun t => t = if D (62 + i) = w then tkS D g i else 0) (fun t ht => ?_) (fun j hj => PC.ite (fun z => PC.bindE rfl ?_) (fun z => hj 0 (by rw [if_neg z]))))
  rotate_left
  · rw [lesserV]
    refine PC.bindE rfl (hj _ ?_)
    rw [if_pos z]
    unfold tkS
    rw [z, imin_c, hl]
    unfold imax imin
    (repeat' split) <;> omega
  have t01 : 0 ≤ t ∧ t ≤ 9 := by rw [ht]; split <;> omega
  have tw : t * w = if D (62 + i) = w then tkS D g i * D (62 + i) else 0 := by
    rw [ht]
    by_cases z : D (62 + i) = w
    · rw [if_pos z, if_pos z, z]
    · rw [if_neg z, if_neg z, Int.zero_mul]
  have twb : 0 ≤ t * w ∧ t * w ≤ 81 := by
    have := tkW_bd bd i0 (show i < 6 by omega) g0 g1
    rw [tw]; split <;> omega
  rw [hg2 i0 (by omega) g0 g1]
  refine PC.guard (fun _ => PC.guard (fun _ => PC.sM (PC.sM (PC.sM ?_))))
  have d1 : RD (mst A3 108 (5 * i + g) (w32 (A3.1 108 (5 * i + g) + t))) k D := dA.stA (by decide)
  have f44 : (mst A3 108 (5 * i + g) (w32 (A3.1 108 (5 * i + g) + t))).1 85 44 = A3.1 85 44 := mst_ne _ _ _ _ _ _ (by decide)
  have f45 : (mst A3 108 (5 * i + g) (w32 (A3.1 108 (5 * i + g) + t))).1 85 45 = A3.1 85 45 := mst_ne _ _ _ _ _ _ (by decide)
  have f108 : ∀ y, (mst A3 108 (5 * i + g) (w32 (A3.1 108 (5 * i + g) + t))).1 108 y = if y = 5 * i + g then w32 (A3.1 108 (5 * i + g) + t) else A3.1 108 y := fun y => by
    rw [mst_r]
    by_cases z : y = 5 * i + g
    · rw [if_pos ⟨rfl, z⟩, if_pos z]
    · rw [if_neg (fun q => z q.2), if_neg z]
  generalize mst A3 108 (5 * i + g) (w32 (A3.1 108 (5 * i + g) + t)) = B at d1 f44 f45 f108 ⊢
  have d2 : RD (mst B 85 44 (w32 (B.1 85 44 + w32 (t * w)))) k D := d1.stF rfl (by decide)
  refine hrec3 _ ⟨⟨by (try dsimp only); omega, by (try dsimp only); omega⟩, d2.stF rfl (by decide), ?_, fun j p q => ?_, fun j g' p q q1 q2 => ?_, ?_, ?_⟩
  · show w32 (x3 - t) = imax 0 (lkA D g - prS D (fun h => spS D h g) w (w32 (i + 1)))
    rw [wi, ss, w32_of (by omega) (by omega), ht, hl]
    by_cases z : D (62 + i) = w
    · rw [if_pos z, if_pos z]
      unfold tkS
      rw [z]
      unfold imax imin
      (repeat' split) <;> omega
    · rw [if_neg z, if_neg z, Int.add_zero, Int.sub_zero]
  · show (mst (mst B 85 44 _) 85 45 _).1 108 (5 * j + g) = if D (62 + j) < w ∨ (D (62 + j) = w ∧ j < w32 (i + 1)) then tkS D g j else 0
    rw [mst_ne _ _ _ _ _ _ (by decide), mst_ne _ _ _ _ _ _ (by decide), f108, wi]
    by_cases z : j = i
    · subst z
      rw [if_pos rfl, ha j p q, ht]
      by_cases y : D (62 + j) = w
      · rw [if_pos y, if_neg (by omega), if_pos (by omega), Int.zero_add, w32_of (by omega) (by omega)]
      · rw [if_neg y, Int.add_zero]
        by_cases y' : D (62 + j) < w
        · rw [if_pos (Or.inl y'), if_pos (Or.inl y'), w32_of (by omega) (by omega)]
        · rw [if_neg (by omega), if_neg (by omega)]; rfl
    · rw [if_neg (by omega), ha j p q]
      by_cases y : D (62 + j) < w ∨ (D (62 + j) = w ∧ j < i)
      · rw [if_pos y, if_pos (by omega)]
      · rw [if_neg y, if_neg (by omega)]
  · show (mst (mst B 85 44 _) 85 45 _).1 108 (5 * j + g') = _
    rw [mst_ne _ _ _ _ _ _ (by decide), mst_ne _ _ _ _ _ _ (by decide), f108, if_neg (by omega)]
    exact ho j g' p q q1 q2
  · show (mst (mst B 85 44 _) 85 45 _).1 85 44 = N.1 85 44 + prS D _ w (w32 (i + 1))
    rw [mst_nf _ _ _ _ _ _ (by decide), mst_at, wi, sw, f44, e44, w32_of (x := t * w) (by omega) (by omega), w32_of (by omega) (by omega), tw]
    omega
  · show (mst (mst B 85 44 _) 85 45 _).1 85 45 = N.1 85 45 + prS D _ w (w32 (i + 1))
    rw [mst_at, mst_nf _ _ _ _ _ _ (by decide), wi, st, f45, e45, w32_of (by omega) (by omega), ht]
    omega
/-- what is found for the first n goods -/
def FAI (k : Int) (D : Int → Int) (n : Int) (M : Mem) : Prop := RD M k D ∧ (∀ h g, 0 ≤ h → h < D 0 → 0 ≤ g → g < n → M.1 108 (5 * h + g) = tkS D g h) ∧ M.1 85 44 = sI (fun g => sI (fun h => tkS D g h * D (62 + h)) (D 0)) n ∧ M.1 85 45 = sI (fun g => sI (tkS D g) (D 0)) n
def enB (D : Int → Int) : Bool := al (fun g => decide (lkA D g ≤ spA D g)) 5
theorem enB_iff : enB D = true ↔ ∀ g, 0 ≤ g → g < 5 → lkA D g ≤ spA D g := by
  unfold enB
  rw [al_iff]
  exact ⟨fun h g p q => of_decide_eq_true (h g p q), fun h g p q => decide_eq_true (h g p q)⟩
theorem enB_no {g : Int} (g0 : 0 ≤ g) (g1 : g < 5) (h : spA D g < lkA D g) : enB D = false := by
  cases e : enB D with
  | false => rfl
  | true => have := enB_iff.mp e g g0 g1; omega
theorem TD.isEnough {a : Int} (d : TD M a D) : PC (fX5_isEnough M a) (fun r => (r = 1 ∧ enB D = true) ∨ (r = 0 ∧ enB D = false)) := by
  unfold fX5_isEnough
  refine PC.iter (fun s => (0 ≤ s ∧ s ≤ 5) ∧ ∀ g, 0 ≤ g → g < s → lkA D g ≤ spA D g) ?_ _ _ ⟨⟨Int.le_refl _, by decide⟩, fun h p q => by omega⟩
  rintro rec s ⟨⟨s0, s1⟩, hs⟩ hrec
  refine PC.ite (fun c => PC.guard (fun _ => PC.bind (d.spareAll s0 c) (fun r q => PC.bind (d.lackAll s0 c) (fun r' q' => ?_)))) (fun c => PC.ok (Or.inl ⟨rfl, enB_iff.mpr (fun g p q => hs g p (by omega))⟩))
  subst q q'
  refine PC.ite (fun z => PC.ok (Or.inr ⟨rfl, enB_no s0 c z⟩)) (fun z => hrec _ ⟨?_, ?_⟩)
  · rw [w32_of (by omega) (by omega)]; omega
  · rw [w32_of (by omega) (by omega)]
    intro g p q
    by_cases e : g = s
    · rw [e]; omega
    · exact hs g p (by omega)
theorem RD.findAid {k : Int} (d : RD N k D) (bd : DBd D) : PC (fX11_findAid N 85) (fun u => ((u.1 = 1 ∧ enB D = true) ∨ (u.1 = 0 ∧ enB D = false)) ∧ FAI k D 5 u.2) := by
  have b := bd.1
  unfold fX11_findAid
  refine PC.guard (fun _ => PC.sM (PC.sM ?_))
  have d2 : RD (mst (mst N 85 44 0) 85 45 0) k D := (d.stF rfl (by decide)).stF rfl (by decide)
  refine PC.iter (fun s => (0 ≤ s.2.1 ∧ s.2.1 ≤ 5) ∧ ((s.1 = 1 ∧ ∀ g, 0 ≤ g → g < s.2.1 → lkA D g ≤ spA D g) ∨ (s.1 = 0 ∧ enB D = false)) ∧ FAI k D s.2.1 s.2.2) ?_ _ _ ⟨⟨by (try dsimp only); omega, by (try dsimp only); omega⟩, Or.inl ⟨rfl, fun h p q => by dsimp only at q; omega⟩, d2, fun h g _ _ p q => by dsimp only at q; omega, by show (mst (mst N 85 44 0) 85 45 0).1 85 44 = 0; rw [mst_nf _ _ _ _ _ _ (by decide), mst_at], by show (mst (mst N 85 44 0) 85 45 0).1 85 45 = 0; rw [mst_at]⟩
  rintro rec ⟨x, g, A⟩ ⟨⟨g0, g1⟩, hx, dA, ha, e44, e45⟩ hrec
  simp only at g0 g1 hx dA ha e44 e45 ⊢
  refine PC.ite (fun c => PC.guard (fun _ => ?_)) (fun c => PC.guard (fun _ => PC.ok ?_))
  rotate_left
  · have eg : g = 5 := by omega
    subst eg
    exact ⟨hx.elim (fun z => Or.inl ⟨z.1, enB_iff.mpr z.2⟩) Or.inr, dA, ha, e44, e45⟩
  have w1 := sI_bd (f := fun g => sI (fun h => tkS D g h * D (62 + h)) (D 0)) (lo := 0) (hi := 486) (i := g) (fun j p q => by
    have := sI_bd (f := fun h => tkS D j h * D (62 + h)) (lo := 0) (hi := 81) (i := D 0) (fun h p' q' => tkW_bd bd p' (by omega) p (by omega)) (by omega)
    (try dsimp only); omega) g0
  have w2 := sI_bd (f := fun g => sI (tkS D g) (D 0)) (lo := 0) (hi := 54) (i := g) (fun j p q => by
    have := sI_bd (f := tkS D j) (lo := 0) (hi := 9) (i := D 0) (fun h p' q' => tk_bd bd p' (by omega) p (by omega)) (by omega)
    (try dsimp only); omega) g0
  refine PC.bind (dA.aidGood bd g0 c (by omega) (by omega)) (fun r q => ?_)
  obtain ⟨⟨r1, _, r3, r4, r5, r6⟩, q⟩ := q
  have wg : w32 (g + 1) = g + 1 := w32_of (by omega) (by omega)
  rw [prS_10 bd] at r5 r6
  have nx : FAI k D (w32 (g + 1)) r.2 := by
    rw [wg]
    refine ⟨r1, fun h g' p p' q q' => ?_, ?_, ?_⟩
    · by_cases e : g' = g
      · rw [e, r3 h p p', if_pos (Or.inl (by have := (bd.2.2.2.1 h p (by omega)).1; omega))]
      · rw [r4 h g' p q (by omega) e]; exact ha h g' p p' q (by omega)
    · rw [r5, sI_s g0, e44]
    · rw [r6, sI_s g0, e45]
  by_cases z : lkA D g ≤ spA D g
  · rw [if_pos z] at q
    refine PC.neg (by rw [q]; decide) (PC.ite (fun y => hrec _ ⟨⟨by (try dsimp only); omega, by (try dsimp only); omega⟩, Or.inr ⟨rfl, ?_⟩, nx⟩) (fun y => hrec _ ⟨⟨by (try dsimp only); omega, by (try dsimp only); omega⟩, Or.inl ⟨rfl, ?_⟩, nx⟩))
    · exact hx.elim (fun v => by omega) (fun v => v.2)
    · have hx' := hx.resolve_right (fun v => y v.1)
      show ∀ g', 0 ≤ g' → g' < w32 (g + 1) → _
      rw [wg]
      intro g' p' q'
      by_cases e : g' = g
      · rw [e]; exact z
      · exact hx'.2 g' p' (by omega)
  · rw [if_neg z] at q
    exact PC.pos q (hrec _ ⟨⟨by (try dsimp only); omega, by (try dsimp only); omega⟩, Or.inr ⟨rfl, enB_no g0 c (by omega)⟩, nx⟩)
theorem RD.aidNights {k : Int} (d : RD N k D) (bd : DBd D) (n0 : 0 ≤ N.1 85 45) (n1 : N.1 85 45 ≤ 1000000) : PC (fX11_aidNights N 85) (fun r => r = ngS (N.1 85 45) (ltA D)) := by
  have b := bd.2.1
  unfold fX11_aidNights ltA
  rw [d.2.2.1.2.2]
  refine PC.iter (fun s => (0 ≤ s.2 ∧ s.2 ≤ D 1) ∧ s.1 = sI (fun t => D (84 + t)) s.2) ?_ _ _ ⟨⟨by decide, b.1⟩, rfl⟩
  rintro rec ⟨x, i⟩ ⟨⟨i0, i1⟩, hx⟩ hrec
  simp only at i0 i1 hx ⊢
  have lb := lt_bd bd i0 (by omega)
  rw [← hx] at lb
  refine PC.guard (fun _ => PC.ite (fun c => ?_) (fun c => ?_))
  · have wi : w32 (i + 1) = i + 1 := w32_of (by omega) (by omega)
    have lim := (bd.2.2.2.2.2 i i0 (by omega)).1
    rw [w32_of (x := 84 + i) (by omega) (by omega), d.of (by omega) (by omega)]
    refine PC.bindE rfl (hrec _ ⟨⟨by (try dsimp only); omega, by (try dsimp only); omega⟩, ?_⟩)
    show w32 (x + D (84 + i)) = sI _ (w32 (i + 1))
    rw [wi, sI_s i0, ← hx, w32_of (by omega) (by omega)]
  · rw [show i = D 1 by omega] at hx
    rw [← hx]
    unfold ngS
    refine PC.ite (fun z => PC.ok (by rw [if_pos z])) (fun z => PC.ite (fun z' => PC.ok (by rw [if_neg z, if_pos z'])) (fun z' => PC.guard (fun _ => PC.ok ?_)))
    have q1 := Int.ediv_nonneg (show 0 ≤ N.1 85 45 + x - 1 by omega) lb.1
    have q2 := Int.ediv_le_self x (show 0 ≤ N.1 85 45 + x - 1 by omega)
    rw [if_neg z, if_neg z', w32_of (x := N.1 85 45 + x) (by omega) (by omega), w32_of (x := N.1 85 45 + x - 1) (by omega) (by omega), Int.tdiv_eq_ediv_of_nonneg (by omega), w32_of (by omega) (by omega)]
theorem aid_E (h : INV2 M) (k x : Int) : TT (fX10_aid M 0 k x) (fun r => TT (fX11_aid M 85 k x) (fun v => r = v.1 ∧ Keep M v.2)) := by
  have hT := h.1.1
  refine TT.rr (aidX_T hT k x) (aidY_T hT k x) ?_
  unfold fX10_aid fX11_aid
  rw [wp0_0 hT]
  refine RR.gl (fun _ => RR.gl (fun _ => RR.gr (fun _ => RR.mr (RR.town h k (RR.posl rfl (RR.posr rfl (RR.ok rfl))) (fun a N D ne d e bd _ => RR.negl ne (RR.negr n10 ?_))))))
  have b := bd.1
  have hX : PC (fX5_isAsked M a x) (fun r => r = if (0 ≤ x ∧ x ≤ 2) ∨ (10 ≤ x ∧ x < 10 + 5 * D 0) then 1 else 0) := by
    unfold fX5_isAsked
    have e0 := d.2.2.1.1
    rw [e0, w32_of (x := 5 * D 0) (by omega) (by omega), w32_of (x := 10 + 5 * D 0) (by omega) (by omega)]
    have out : ¬(0 ≤ x ∧ x ≤ 2) → PC (if x < 10 then some (0 : Int) else if M.2.1 a = 7 then (if x < 10 + 5 * D 0 then some 1 else some 0) else none) (fun r => r = if (0 ≤ x ∧ x ≤ 2) ∨ (10 ≤ x ∧ x < 10 + 5 * D 0) then 1 else 0) := fun z => PC.ite (fun c => PC.ok (by rw [if_neg (by omega)])) (fun c => PC.guard (fun _ => PC.ite (fun c' => PC.ok (by rw [if_pos (by omega)])) (fun c' => PC.ok (by rw [if_neg (by omega)]))))
    refine PC.jI ?_
    dsimp only
    exact (PC.ite (fun c => out (by omega)) (fun c => PC.ite (fun c' => out (by omega)) (fun c' => PC.ok (by rw [if_pos (by omega)]))))
  refine RR.bl hX (fun r q => ?_)
  subst q
  have e1 := e.2.2.1.2.1
  dsimp only
  rw [in_v2, in_v2, e1, w32_of (x := 5 * D 0) (by omega) (by omega), w32_of (x := 9 + 5 * D 0) (by omega) (by omega)]
  by_cases z : (0 ≤ x ∧ x ≤ 2) ∨ (10 ≤ x ∧ x < 10 + 5 * D 0)
  rotate_left
  · rw [if_neg z]
    refine RR.posl rfl (RR.br (PC.ok (Q := fun v => v = 0) (if_neg (by omega))) (fun r q => RR.jr (RR.posr q (RR.gr (fun _ => RR.br (PC.ok (Q := fun v => v = 0) (if_neg (by omega))) (fun r q => RR.posr q (RR.ok rfl)))))))
  rw [if_pos z]
  refine RR.negl n10 ?_
  have main : RR ((fX5_isEnough M a).bind fun r9 => if r9 = 0 then (some (-1)) else ((fX5_answer M a x).bind fun r12 => some r12)) (if N.2.1 85 = 10 then (fX11_findAid N 85).bind fun r11 => if r11.1 = 0 then (some ((-1), r11.2)) else (if x = 0 then (if r11.2.2.1 85 = 10 then some (r11.2.1 85 44, r11.2) else none) else (if x = 1 then (if r11.2.2.1 85 = 10 then some (r11.2.1 85 45, r11.2) else none) else (if x = 2 then (if r11.2.2.1 85 = 10 then (fX11_aidNights r11.2 85).bind fun r20 => some (r20, r11.2) else none) else (if r11.2.2.1 85 = 10 then if r11.2.2.1 (r11.2.1 85 43) = 12 ∧ (0 : Int) ≤ (w32 (x - 10)) ∧ (w32 (x - 10)) < r11.2.2.2.1 (r11.2.1 85 43) then some (r11.2.1 (r11.2.1 85 43) (w32 (x - 10)), r11.2) else none else none)))) else none) (fun r u => r = u.1) := by
    refine RR.bl d.isEnough (fun r q => RR.gr (fun _ => RR.br (e.findAid bd) (fun u v => ?_)))
    obtain ⟨v, dA, ha, e44, e45⟩ := v
    rcases q with ⟨rfl, q⟩ | ⟨rfl, q⟩
    rotate_left
    · have u0 : u.1 = 0 := by rcases v with ⟨_, v⟩ | ⟨v, _⟩; rw [q] at v; cases v; exact v
      exact RR.posl rfl (RR.posr u0 (RR.ok rfl))
    have u0 : u.1 = 1 := by rcases v with ⟨v, _⟩ | ⟨_, v⟩; exact v; rw [q] at v; cases v
    have t1 : u.2.1 85 44 = tkA D (fun g h => tkS D g h * D (62 + h)) := by rw [tkA_swap]; exact e44
    have t2 : u.2.1 85 45 = tkA D (tkS D) := by rw [tkA_swap]; exact e45
    have w2 := sI_bd (f := fun g => sI (tkS D g) (D 0)) (lo := 0) (hi := 54) (i := 5) (fun j p q => by
      have := sI_bd (f := tkS D j) (lo := 0) (hi := 9) (i := D 0) (fun h p' q' => tk_bd bd p' (by omega) p (by omega)) (by omega)
      (try dsimp only); omega) (by decide)
    rw [← e45] at w2
    refine RR.negl n10 (RR.negr (by rw [u0]; decide) (RR.rl ?_))
    have hA := d.answer z
    refine RR.ir (fun c => RR.gr (fun _ => ?_)) (fun c => RR.ir (fun c' => RR.gr (fun _ => ?_)) (fun c' => RR.ir (fun c2 => RR.gr (fun _ => RR.br (dA.aidNights bd (by omega) (by omega)) (fun r q => ?_))) (fun c2 => RR.gr (fun _ => RR.gr (fun _ => ?_)))))
    · refine RR.okp hA (PC.ok (Q := fun v => v = (u.2.1 85 44, u.2)) rfl) (fun r v p p' => ?_)
      rw [p, p']; show _ = u.2.1 85 44
      unfold aiS; rw [if_pos c, t1]
    · refine RR.okp hA (PC.ok (Q := fun v => v = (u.2.1 85 45, u.2)) rfl) (fun r v p p' => ?_)
      rw [p, p']; show _ = u.2.1 85 45
      unfold aiS; rw [if_neg c, if_pos c', t2]
    · refine RR.okp hA (PC.ok (Q := fun v => v = (r, u.2)) rfl) (fun r' v p p' => ?_)
      rw [p, p']; show _ = r
      unfold aiS; rw [if_neg c, if_neg c', if_pos c2, q, t2]
    · rw [wp85_43 dA.1, w32_of (x := x - 10) (by omega) (by omega)]
      refine RR.okp hA (PC.ok (Q := fun v => v = (u.2.1 108 (x - 10), u.2)) rfl) (fun r' v p p' => ?_)
      rw [p, p']; show _ = u.2.1 108 (x - 10)
      have := ha ((x - 10) / 5) ((x - 10) % 5) (by omega) (by omega) (by omega) (by omega)
      rw [show 5 * ((x - 10) / 5) + (x - 10) % 5 = x - 10 by omega] at this
      rw [this]; unfold aiS; rw [if_neg c, if_neg c', if_neg c2]
  refine RR.br (PC.ok (Q := fun v => v = if 0 ≤ x ∧ x ≤ 2 then 1 else 0) rfl) (fun r q => RR.jr ?_)
  by_cases y : 0 ≤ x ∧ x ≤ 2
  · rw [if_pos y] at q
    exact RR.negr (by rw [q]; decide) main
  · rw [if_neg y] at q
    exact RR.posr q (RR.gr (fun _ => RR.br (PC.ok (Q := fun v => v = 1) (if_pos (by omega))) (fun r q => RR.negr (by rw [q]; decide) main)))
end AidR
