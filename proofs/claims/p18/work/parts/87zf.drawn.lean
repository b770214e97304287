/-! drawn -/
section RRd
variable {ρ σ S T : Type}
theorem RR.all {X : Option ρ} {Y : Option σ} {Q : ρ → σ → Prop} {P : ρ → Prop} {P' : σ → Prop} (h : RR X Y Q) (p : PC X P) (p' : PC Y P') : RR X Y (fun r u => P r ∧ P' u ∧ Q r u) := fun r u e e' => ⟨p r e, p' u e', h r u e e'⟩
theorem RR.sm {α : Type} {f : α → Option ρ} {x : α} {Y : Option σ} {Q : ρ → σ → Prop} (h : RR (f x) Y Q) : RR (some x) Y (fun r u => PC (f r) (fun v => Q v u)) := fun r u e e' => by
  cases e
  exact fun v hv => h v u hv e'
theorem PC.iterZ {b' : (T → Option σ) → T → Option σ} {Z : T → σ → Prop} (hz : ∀ rec' t z, Z t z → b' rec' t = some z) : ∀ m t z, Z t z → PC (iterC b' m t) (fun u => u = z)
  | 0, _, _, _ => fun r e => by cases e
  | m + 1, t, z, hZ => fun r e => by
    have e' : b' (iterC b' m) t = some r := e
    rw [hz _ _ _ hZ] at e'
    cases e'; rfl
theorem RR.iterZ {b : (S → Option ρ) → S → Option ρ} {b' : (T → Option σ) → T → Option σ} {Q : ρ → σ → Prop} (R : S → T → Prop) (Z : T → σ → Prop) (hz : ∀ rec' t z, Z t z → b' rec' t = some z)
    (hb : ∀ rec rec' s t, R s t → (∀ s' t', R s' t' → RR (rec s') (rec' t') Q) → (∀ t' z, Z t' z → PC (rec' t') (fun u => u = z)) → RR (b rec s) (b' rec' t) Q) : ∀ n m s t, R s t → RR (iterC b n s) (iterC b' m t) Q
  | 0, _, _, _, _ => fun _ _ e => by cases e
  | _ + 1, 0, _, _, _ => fun _ _ _ e => by cases e
  | n + 1, m + 1, s, t, h => hb (iterC b n) (iterC b' m) s t h (fun s' t' h' => RR.iterZ R Z hz hb n m s' t' h') (fun t' z q => PC.iterZ hz m t' z q)
theorem RR.rr {X : Option ρ} {Y : Option σ} {Q : ρ → σ → Prop} (h : RR X Y Q) : RR X (Y.bind fun r => some r) Q := by
  cases Y with
  | none => exact RR.xr
  | some r => exact h
end RRd
section Drawn
variable {O P A B M N : Mem} {D L : Int → Int} {a l k q : Int} {f g : Int → Int}
theorem wS_sm : ∀ n : Nat, wS f n = w32 (sm f n)
  | 0 => rfl
  | n + 1 => by
    show w32 (wS f n + f (n : Int)) = w32 (sm f n + f (n : Int))
    rw [wS_sm n]
    unfold w32; omega
theorem wI_sI (i : Int) : wI f i = w32 (sI f i) := wS_sm _
/-- what was taken from a house, all in all -/
def lsT (D : Int → Int) (A : Mem) (h : Int) : Int := sI (fun t => sI (fun g => A.1 71 (30 * t + 5 * h + g)) 5) (D 1)
def WD (O P : Mem) (a l k q : Int) (D L : Int → Int) (A B : Mem) : Prop := WB O P a l k q D L A B ∧ A.1 68 16 = B.1 85 49 ∧ ∀ h, 0 ≤ h → h < 6 → B.1 107 h = w32 (lsT D A h)
theorem WB.seed (w : WB O P a l k q D L A B) (v v' : Int) : WB O P a l k q D L (mst A 68 16 v) (mst B 85 49 v') := by
  obtain ⟨c, e, bl, r69, r70, r71, r72, r73, r74, r75, r76, r77, rc, rn, rs⟩ := w
  exact ⟨c.stF (by decide), e.stF rfl (by decide), bl, RWn.lf (by decide) (RWn.rt (by decide) r69), RWn.lf (by decide) (RWn.rt (by decide) r70), RWn.lf (by decide) (RWn.rt (by decide) r71), RWn.lf (by decide) (RWn.rt (by decide) r72), RWn.lf (by decide) (RWn.rt (by decide) r73), RWn.lf (by decide) (RWn.rt (by decide) r74), RWn.lf (by decide) (RWn.rt (by decide) r75), RWn.lf (by decide) (RWn.rt (by decide) r76), RWn.lf (by decide) (RWn.rt (by decide) r77), rc, rn, SBd'.lf (by decide) rs⟩
theorem lsT_upd {A' : Mem} {t0 h0 g0 : Int} (ht : 0 ≤ t0 ∧ t0 < D 1) (hg : 0 ≤ g0 ∧ g0 < 5) (he : ∀ y, y ≠ 30 * t0 + 5 * h0 + g0 → A'.1 71 y = A.1 71 y) : lsT D A' h0 = lsT D A h0 + (A'.1 71 (30 * t0 + 5 * h0 + g0) - A.1 71 (30 * t0 + 5 * h0 + g0)) := by
  unfold lsT sI
  rw [sm_upd (i := t0) ht.1 (f := fun t => sm (fun g => A'.1 71 (30 * t + 5 * h0 + g)) (5 : Int).toNat) (g := fun t => sm (fun g => A.1 71 (30 * t + 5 * h0 + g)) (5 : Int).toNat) (fun j _ z => sm_cong (fun i p q => he _ (by omega))), if_pos (by omega)]
  (try dsimp only)
  rw [sm_upd (i := g0) hg.1 (f := fun g => A'.1 71 (30 * t0 + 5 * h0 + g)) (g := fun g => A.1 71 (30 * t0 + 5 * h0 + g)) (fun j _ z => he _ (by omega)), if_pos (by omega)]
  (try dsimp only)
  omega
theorem lsT_cong {A' : Mem} (h : Int) (he : ∀ t g, 0 ≤ t → t < D 1 → 0 ≤ g → g < 5 → A'.1 71 (30 * t + 5 * h + g) = A.1 71 (30 * t + 5 * h + g)) : lsT D A' h = lsT D A h := by
  unfold lsT
  exact sI_cong (fun t t0 t1 => sI_cong (fun g g0 g1 => he t g t0 t1 g0 g1))
theorem WD.take (h : WD O P a l k q D L A B) (t h' : Int) {g : Int} (g0 : 0 ≤ g) (g1 : g < 5) : RR (fX9_takeOne A 68 t h' g) (fX11_takes B 85 t h' g) (fun r u => r.1 = u.1 ∧ WD O P a l k q D L r.2 u.2) := by
  obtain ⟨w, sd, ls⟩ := h
  have bd := w.2.2.1.1
  have b0 := bd.1
  have b1 := bd.2.1
  refine (RR.all (w.take t h' g0 g1) (w.1.take t h' g) (w.2.1.take bd t h' g0 g1)).mono (fun r u p => ?_)
  obtain ⟨p1, p2, e, w'⟩ := p
  refine ⟨e, w', ?_⟩
  rcases p1 with ⟨rfl, p1⟩ | ⟨rfl, p1⟩
  · rcases p2 with ⟨rfl, _⟩ | ⟨rfl, _⟩
    · exact ⟨sd, ls⟩
    · exact absurd (show (0 : Int) = 1 from e) (by decide)
  rcases p2 with ⟨rfl, _⟩ | ⟨rfl, _⟩
  · exact absurd (show (1 : Int) = 0 from e) (by decide)
  refine ⟨sd, fun x x0 x1 => ?_⟩
  obtain ⟨⟨⟨t0, t1⟩, _⟩, ⟨h0, h1⟩, _⟩ := p1
  have e71 : ∀ y, y ≠ 30 * t + 5 * h' + g → (tkC A t h' g).1 71 y = A.1 71 y := fun y z => by
    show (mst _ 71 (30 * t + 5 * h' + g) _).1 71 y = _
    rw [mst_nf _ _ _ _ _ _ z]; rfl
  have e71' : (tkC A t h' g).1 71 (30 * t + 5 * h' + g) = w32 (A.1 71 (30 * t + 5 * h' + g) + 1) := by
    show (mst _ 71 (30 * t + 5 * h' + g) _).1 71 (30 * t + 5 * h' + g) = _
    rw [mst_at]; rfl
  show (tkR B t h' g).1 107 x = w32 (lsT D (tkC A t h' g) x)
  have o := ls x x0 x1
  by_cases c : x = h'
  · subst c
    rw [lsT_upd (A := A) ⟨t0, t1⟩ ⟨g0, g1⟩ e71, e71']
    have e107 : (tkR B t x g).1 107 x = w32 (B.1 107 x + 1) := by
      show (mst _ 107 x _).1 107 x = _
      rw [mst_at]; rfl
    rw [e107, o]
    unfold w32; omega
  · have e107 : (tkR B t h' g).1 107 x = B.1 107 x := by
      show (mst _ 107 h' _).1 107 x = _
      rw [mst_nf _ _ _ _ _ _ c]; rfl
    rw [e107, o, lsT_cong (A := A) x (fun t' g' t0' t1' g0' g1' => e71 _ (by omega))]
theorem WD.give (h : WD O P a l k q D L A B) (t h' : Int) {g : Int} (g0 : 0 ≤ g) (g1 : g < 5) : RR (fX9_giveOne A 68 t h' g) (fX11_gives B 85 t h' g) (fun r u => r.1 = u.1 ∧ WD O P a l k q D L r.2 u.2) := by
  obtain ⟨w, sd, ls⟩ := h
  have bd := w.2.2.1.1
  refine (RR.all (w.give t h' g0 g1) (w.1.give t h' g) (w.2.1.give bd t h' g0 g1)).mono (fun r u p => ?_)
  obtain ⟨p1, p2, e, w'⟩ := p
  refine ⟨e, w', ?_⟩
  rcases p1 with ⟨rfl, p1⟩ | ⟨rfl, p1⟩
  · rcases p2 with ⟨rfl, _⟩ | ⟨rfl, _⟩
    · exact ⟨sd, ls⟩
    · exact absurd (show (0 : Int) = 1 from e) (by decide)
  rcases p2 with ⟨rfl, _⟩ | ⟨rfl, _⟩
  · exact absurd (show (1 : Int) = 0 from e) (by decide)
  refine ⟨sd, fun x x0 x1 => ?_⟩
  have e107 : (gvR B D L t h' g).1 107 x = B.1 107 x := rfl
  have e71 : ∀ y, (gvC A D L t h' g).1 71 y = A.1 71 y := fun y => rfl
  show (gvR B D L t h' g).1 107 x = w32 (lsT D (gvC A D L t h' g) x)
  rw [e107, ls x x0 x1, lsT_cong (A := A) x (fun _ _ _ _ _ _ => e71 _)]
set_option maxHeartbeats 1000000 in
theorem CW.ends_F (c : CW O A a l D L) : PC (fX9_nightEnds A 68) (fun r => (∀ y, r.1 71 y = A.1 71 y) ∧ r.1 68 16 = A.1 68 16) := by
  unfold fX9_nightEnds
  refine PC.iter (fun s => CW O s.2 a l D L ∧ (∀ y, s.2.1 71 y = A.1 71 y) ∧ s.2.1 68 16 = A.1 68 16) ?_ _ _ ⟨c, fun _ => rfl, rfl⟩
  clear c
  rintro rec ⟨i, B⟩ ⟨c, f, g⟩ hrec
  simp only at c f g ⊢
  have hT := c.1.1
  rw [wp68_8 hT, wp68_10 hT]
  generalize hv : w32 (B.1 75 i + B.1 77 i) = v
  refine PC.guard (fun _ => PC.guard (fun _ => PC.ite (fun _ => PC.guard (fun _ => PC.guard (fun _ => PC.guard (fun _ => PC.sM ?_)))) (fun _ => PC.sM (PC.ok ⟨fun y => by rw [mst_ne _ _ _ _ _ _ (by decide)]; exact f y, by rw [mst_nf _ _ _ _ _ _ (by decide)]; exact g⟩))))
  have c2 : CW O (mst B 75 i v) a l D L := c.st (by decide)
  have f2 : ∀ y, (mst B 75 i v).1 71 y = A.1 71 y := fun y => by rw [mst_ne _ _ _ _ _ _ (by decide)]; exact f y
  have g2 : (mst B 75 i v).1 68 16 = A.1 68 16 := by rw [mst_ne _ _ _ _ _ _ (by decide)]; exact g
  generalize mst B 75 i v = C at *
  refine PC.guard (fun _ => PC.guard (fun _ => PC.join (fun t => CW O t a l D L ∧ (∀ y, t.1 71 y = A.1 71 y) ∧ t.1 68 16 = A.1 68 16) (fun t ⟨ct, ft, gt⟩ => ?_) (fun j hj => PC.ite (fun _ => hj _ ⟨c2, f2, g2⟩) (fun _ => PC.sM (hj _ ⟨c2.stF (by decide), fun y => by rw [mst_ne _ _ _ _ _ _ (by decide)]; exact f2 y, by rw [mst_nf _ _ _ _ _ _ (by decide)]; exact g2⟩)))))
  rw [wp68_10 ct.1.1]
  refine PC.guard (fun _ => PC.guard (fun _ => PC.sM ?_))
  have c3 : CW O (mst t 77 i 0) a l D L := ct.st (by decide)
  rw [wp68_9 c3.1.1]
  refine PC.guard (fun _ => PC.sM (hrec _ ⟨c3.st (by decide), fun y => by (try dsimp only); rw [mst_ne _ _ _ _ _ _ (by decide), mst_ne _ _ _ _ _ _ (by decide)]; exact ft y, by (try dsimp only); rw [mst_ne _ _ _ _ _ _ (by decide), mst_ne _ _ _ _ _ _ (by decide)]; exact gt⟩))
set_option maxHeartbeats 1000000 in
theorem RW'.ends_F (c : RW' P B k q D L) : PC (fX11_ends B 85) (fun r => (∀ y, r.1 107 y = B.1 107 y) ∧ r.1 85 49 = B.1 85 49) := by
  unfold fX11_ends
  refine PC.iter (fun s => RW' P s.2 k q D L ∧ (∀ y, s.2.1 107 y = B.1 107 y) ∧ s.2.1 85 49 = B.1 85 49) ?_ _ _ ⟨c, fun _ => rfl, rfl⟩
  clear c
  rintro rec ⟨i, C⟩ ⟨c, f, g⟩ hrec
  simp only at c f g ⊢
  have hT := c.1.1
  rw [wp85_37 hT, wp85_34 hT]
  generalize hv : w32 (C.1 105 i + C.1 102 i) = v
  refine PC.guard (fun _ => PC.ite (fun _ => PC.guard (fun _ => PC.guard (fun _ => PC.guard (fun _ => PC.sM ?_)))) (fun _ => PC.sM (PC.ok ⟨fun y => by rw [mst_ne _ _ _ _ _ _ (by decide)]; exact f y, by rw [mst_nf _ _ _ _ _ _ (by decide)]; exact g⟩)))
  have c2 : RW' P (mst C 105 i v) k q D L := c.st (by decide)
  rw [wp85_34 c2.1.1]
  refine PC.guard (fun _ => PC.sM ?_)
  have c3 : RW' P (mst (mst C 105 i v) 102 i 0) k q D L := c2.st (by decide)
  rw [wp85_33 c3.1.1]
  refine PC.guard (fun _ => PC.sM ?_)
  have c4 : RW' P (mst (mst (mst C 105 i v) 102 i 0) 101 i 0) k q D L := c3.st (by decide)
  have f4 : ∀ y, (mst (mst (mst C 105 i v) 102 i 0) 101 i 0).1 107 y = B.1 107 y := fun y => by rw [mst_ne _ _ _ _ _ _ (by decide), mst_ne _ _ _ _ _ _ (by decide), mst_ne _ _ _ _ _ _ (by decide)]; exact f y
  have g4 : (mst (mst (mst C 105 i v) 102 i 0) 101 i 0).1 85 49 = B.1 85 49 := by rw [mst_ne _ _ _ _ _ _ (by decide), mst_ne _ _ _ _ _ _ (by decide), mst_ne _ _ _ _ _ _ (by decide)]; exact g
  generalize mst (mst (mst C 105 i v) 102 i 0) 101 i 0 = E at *
  have go : ∀ t : Int, PC (bM (mst E 85 41 (bOr (E.1 85 41) t)) fun M21 => rec (w32 (i + 1), M21)) (fun r => (∀ y, r.1 107 y = B.1 107 y) ∧ r.1 85 49 = B.1 85 49) := fun t => PC.sM (hrec _ ⟨c4.stF rfl (by decide), fun y => by (try dsimp only); rw [mst_ne _ _ _ _ _ _ (by decide)]; exact f4 y, by (try dsimp only); rw [mst_nf _ _ _ _ _ _ (by decide)]; exact g4⟩)
  exact PC.guard (fun _ => PC.bindT (fun r17 => PC.jI (PC.ite (fun _ => go _) (fun _ => go _))))
theorem WD.ends (h : WD O P a l k q D L A B) : RR (fX9_nightEnds A 68) (fX11_ends B 85) (fun r u => WD O P a l k q D L r u) := by
  obtain ⟨w, sd, ls⟩ := h
  refine (RR.all w.ends w.1.ends_F w.2.1.ends_F).mono (fun r u p => ?_)
  obtain ⟨⟨p1, p2⟩, ⟨p3, p4⟩, w'⟩ := p
  exact ⟨w', by rw [p2, p4]; exact sd, fun x x0 x1 => by rw [p3, ls x x0 x1, lsT_cong (A := A) x (fun _ _ _ _ _ _ => p1 _)]⟩
theorem WD.draw (h : WD O P a l k q D L A B) {n : Int} (n0 : 0 < n) : RR (fX9_drawBelow A 68 n) (fX11_draw B 85 n) (fun r u => (r.1 = u.1 ∧ 0 ≤ r.1 ∧ r.1 < n) ∧ WD O P a l k q D L r.2 u.2) := by
  obtain ⟨w, sd, ls⟩ := h
  unfold fX9_drawBelow fX11_draw
  rw [sd]
  generalize w32 (w32 (B.1 85 49 * 1103515245) + 12345) = v
  refine RR.gl (fun _ => RR.gr (fun _ => RR.ml (RR.mr (RR.posl n0 (RR.gl (fun _ => RR.gr (fun _ => RR.ok ?_)))))))
  rw [mst_at, mst_at]
  have nn := bUshr_nn v
  refine ⟨⟨rfl, Int.tmod_nonneg _ nn, Int.tmod_lt_of_pos _ n0⟩, w.seed _ _, ?_, fun x x0 x1 => ?_⟩
  · show (mst A 68 16 v).1 68 16 = (mst B 85 49 v).1 85 49
    rw [mst_at, mst_at]
  · show (mst B 85 49 v).1 107 x = _
    rw [mst_ne _ _ _ _ _ _ (by decide), ls x x0 x1, lsT_cong (A := A) x (fun _ _ _ _ _ _ => mst_ne _ _ _ _ _ _ (by decide))]
theorem WD.least (h : WD O P a l k q D L A B) (t : Int) : RR (fX9_giveLeast A 68 t) (fX11_givesOne B 85 t) (fun r u => r.1 = u.1 ∧ WD O P a l k q D L r.2 u.2) := by
  have b0 := h.1.2.2.1.1.1
  unfold fX9_giveLeast fX11_givesOne
  refine RR.iter (fun s s' => s.1 = s'.1 ∧ (0 ≤ s.1 ∧ s.1 ≤ 5) ∧ WD O P a l k q D L s.2 s'.2) ?_ _ _ _ _ ⟨rfl, ⟨by (try dsimp only); omega, by (try dsimp only); omega⟩, h⟩
  clear h
  rintro rec rec' ⟨g, A⟩ ⟨g', B⟩ ⟨e1, ⟨g0, g5⟩, h⟩ hrec
  simp only at e1 g0 g5 h ⊢
  subst e1
  refine RR.ii Iff.rfl (fun cg _ => ?_) (fun _ _ => RR.ok ⟨rfl, h⟩)
  refine RR.iter (fun s s' => s.1 = s'.1 ∧ (0 ≤ s.1 ∧ s.1 ≤ D 0) ∧ WD O P a l k q D L s.2 s'.2) ?_ _ _ _ _ ⟨rfl, ⟨by (try dsimp only); omega, by (try dsimp only); omega⟩, h⟩
  clear h
  rintro rec2 rec2' ⟨x, A⟩ ⟨x', B⟩ ⟨e1, ⟨x0, x1⟩, h⟩ hrec2
  simp only at e1 x0 x1 h ⊢
  subst e1
  have c := h.1.1
  have e := h.1.2.1
  rw [c.2.2.1, c.1.2.2.1.1, e.1.2.2.1.2.1, w32_of (x := x + 1) (by omega) (by omega), w32_of (x := g + 1) (by omega) (by omega)]
  refine RR.gl (fun _ => RR.gl (fun _ => RR.gr (fun _ => RR.ii Iff.rfl (fun cx _ => RR.bb (h.give t x g0 cg) (fun r u p => RR.ii (by rw [p.1]) (fun z _ => hrec2 _ _ ⟨rfl, ⟨by (try dsimp only); omega, by (try dsimp only); omega⟩, p.2⟩) (fun _ _ => RR.ok ⟨rfl, p.2⟩))) (fun _ _ => hrec _ _ ⟨rfl, ⟨by (try dsimp only); omega, by (try dsimp only); omega⟩, h⟩))))
/-- all that is lacked -/
def LTk (D : Int → Int) (A : Mem) : Int := sI (fun y => imax 0 (D (32 + y) - A.1 69 y)) 30
theorem imax0 (x : Int) : 0 ≤ imax 0 x ∧ x ≤ imax 0 x ∧ (imax 0 x = 0 ∨ imax 0 x = x) := by unfold imax; split <;> omega
theorem LTk_bd (bd : DBd D) (sb : SBd' A) : 0 ≤ LTk D A ∧ LTk D A ≤ 270 := by
  have := sI_bd (f := fun y => imax 0 (D (32 + y) - A.1 69 y)) (lo := 0) (hi := 9) (i := 30) (fun j p q => by
    have b := (bd.2.2.1 j p q).2
    have s := sb j p q
    have m := imax0 (D (32 + j) - A.1 69 j)
    (try dsimp only)
    omega) (by decide)
  unfold LTk
  omega
theorem sm_ge (hf : ∀ j, 0 ≤ j → 0 ≤ f j) : ∀ n : Nat, 0 ≤ sm f n ∧ ∀ j, 0 ≤ j → j < (n : Int) → f j ≤ sm f n
  | 0 => ⟨Int.le_refl _, fun j p q => by omega⟩
  | n + 1 => by
    obtain ⟨h1, h2⟩ := sm_ge hf n
    have h3 := hf (n : Int) (by omega)
    show 0 ≤ sm f n + f (n : Int) ∧ ∀ j, 0 ≤ j → j < ((n + 1 : Nat) : Int) → f j ≤ sm f n + f (n : Int)
    refine ⟨by omega, fun j p q => ?_⟩
    by_cases e : j = (n : Int)
    · rw [e]; omega
    · have := h2 j p (by omega); omega
theorem LTk_0 (h : LTk D A ≤ 0) {y : Int} (y0 : 0 ≤ y) (y1 : y < 30) : D (32 + y) ≤ A.1 69 y := by
  have e : LTk D A = sm (fun y => imax 0 (D (32 + y) - A.1 69 y)) 30 := rfl
  have := (sm_ge (f := fun y => imax 0 (D (32 + y) - A.1 69 y)) (fun j _ => (imax0 _).1) 30).2 y y0 (by omega)
  have m := imax0 (D (32 + y) - A.1 69 y)
  (try dsimp only at this)
  omega
theorem CW.least_LT (c : CW O A a l D L) (sb : SBd' A) (t : Int) : PC (fX9_giveLeast A 68 t) (fun r => r.1 = 0 ∨ LTk D r.2 = LTk D A - 1) := by
  unfold fX9_giveLeast
  refine PC.iter (fun s => s.2 = A) ?_ _ _ rfl
  rintro rec ⟨g, B⟩ e hrec
  simp only at e ⊢
  subst e
  refine PC.ite (fun _ => PC.iter (fun s => s.2 = B) ?_ _ _ rfl) (fun _ => PC.ok (Or.inl rfl))
  rintro rec2 ⟨x, C⟩ e hrec2
  simp only at e ⊢
  subst e
  refine PC.guard (fun _ => PC.guard (fun _ => PC.ite (fun _ => PC.bind (c.give t x g) (fun r p => ?_)) (fun _ => hrec _ rfl)))
  rcases p with ⟨rfl, _⟩ | ⟨rfl, p⟩
  · exact PC.pos rfl (hrec2 _ rfl)
  refine PC.neg n10 (PC.ok (Or.inr ?_))
  have b0 := c.1.bd.1
  obtain ⟨_, ⟨x0, x1⟩, ⟨g0, g1⟩, _, m, _⟩ := p
  have s := sb (5 * x + g) (by omega) (by omega)
  have e69 : ∀ y, y ≠ 5 * x + g → (gvC C D L t x g).1 69 y = C.1 69 y := fun y z => by
    show (mst _ 69 (5 * x + g) _).1 69 y = _
    rw [mst_nf _ _ _ _ _ _ z]; rfl
  have e69' : (gvC C D L t x g).1 69 (5 * x + g) = w32 (C.1 69 (5 * x + g) + 1) := by
    show (mst _ 69 (5 * x + g) _).1 69 (5 * x + g) = _
    rw [mst_at]; rfl
  show LTk D (gvC C D L t x g) = _
  unfold LTk sI
  rw [sm_upd (i := 5 * x + g) (by omega) (f := fun y => imax 0 (D (32 + y) - (gvC C D L t x g).1 69 y)) (g := fun y => imax 0 (D (32 + y) - C.1 69 y)) (fun j _ z => by (try dsimp only); rw [e69 j z]), if_pos (by omega)]
  (try dsimp only)
  rw [e69', w32_of (by omega) (by omega)]
  have m1 := imax0 (D (32 + (5 * x + g)) - (C.1 69 (5 * x + g) + 1))
  have m2 := imax0 (D (32 + (5 * x + g)) - C.1 69 (5 * x + g))
  omega
theorem RW'.least_0 (e : RW' P B k q D L) (bd : DBd D) (z : ∀ y, 0 ≤ y → y < 30 → D (32 + y) ≤ B.1 97 y) (t : Int) : PC (fX11_givesOne B 85 t) (fun u => u = (0, B)) := by
  have b0 := bd.1
  unfold fX11_givesOne
  refine PC.iter (fun s => 0 ≤ s.1 ∧ s.1 ≤ 5 ∧ s.2 = B) ?_ _ _ ⟨by (try dsimp only); omega, by (try dsimp only); omega, rfl⟩
  rintro rec ⟨g, C⟩ ⟨g0, g5, e1⟩ hrec
  simp only at g0 g5 e1 ⊢
  subst e1
  refine PC.ite (fun cg => PC.iter (fun s => 0 ≤ s.1 ∧ s.1 ≤ D 0 ∧ s.2 = C) ?_ _ _ ⟨by (try dsimp only); omega, by (try dsimp only); omega, rfl⟩) (fun _ => PC.ok rfl)
  rintro rec2 ⟨x, E⟩ ⟨x0, x1, e2⟩ hrec2
  simp only at x0 x1 e2 ⊢
  subst e2
  rw [e.1.2.2.1.2.1, w32_of (x := x + 1) (by omega) (by omega), w32_of (x := g + 1) (by omega) (by omega)]
  refine PC.guard (fun _ => PC.ite (fun cx => PC.bind (e.give bd t x g0 cg) (fun r p => ?_)) (fun _ => hrec _ ⟨by (try dsimp only); omega, by (try dsimp only); omega, rfl⟩))
  rcases p with ⟨rfl, _⟩ | ⟨rfl, p⟩
  · exact PC.pos rfl (hrec2 _ ⟨by (try dsimp only); omega, by (try dsimp only); omega, rfl⟩)
  · have := z (5 * x + g) (by omega) (by omega)
    have := p.2.2.2.1
    omega
set_option maxHeartbeats 1000000 in
theorem WD.deeds (h : WD O P a l k q D L A B) {t : Int} (t0 : 0 ≤ t) (t1 : t < D 1) : RR (fX9_drawDeeds A 68 t) (fX11_drawThief B 85 t) (fun r u => WD O P a l k q D L r u) := by
  have bd := h.1.2.2.1.1
  have lb := h.1.2.2.1.2
  have b0 := bd.1
  have b1 := bd.2.1
  unfold fX9_drawDeeds fX11_drawThief
  refine RR.iter (fun s s' => s.1 = s'.1 ∧ WD O P a l k q D L s.2 s'.2) ?_ _ _ _ _ ⟨rfl, h⟩
  clear h
  rintro rec rec' ⟨i, A⟩ ⟨i', B⟩ ⟨e1, h⟩ hrec
  simp only at e1 h ⊢
  subst e1
  have c := h.1.1
  have e := h.1.2.1
  rw [c.2.2.1, tp8_ c.1.1 c.1.2.1, (c.1.2.2.2.2.2.2 t t0 (by omega)).1, c.1.2.2.1.1, w32_of (x := 84 + t) (by omega) (by omega), e.1.of (by omega) (by omega), e.1.2.2.1.2.1]
  refine RR.gl (fun _ => RR.gl (fun _ => RR.gl (fun _ => RR.gr (fun _ => RR.br (PC.ok (Q := fun v => v = D (84 + t)) rfl) (fun v hv => ?_)))))
  subst hv
  refine RR.ii Iff.rfl (fun _ _ => ?_) (fun _ _ => ?_)
  · refine RR.bb (h.draw (n := D 0) (by omega)) (fun r u p => RR.gl (fun _ => RR.gr (fun _ => RR.bb (p.2.draw (n := 5) (by decide)) (fun r' u' p' => RR.gl (fun _ => RR.gr (fun _ => ?_))))))
    rw [← p.1.1, ← p'.1.1]
    exact RR.bb (p'.2.take t r.1 p'.1.2.1 p'.1.2.2) (fun r2 u2 p2 => hrec _ _ ⟨rfl, p2.2⟩)
  refine RR.iterZ (fun s s' => (0 ≤ s.1 ∧ s.1 + LTk D s.2 ≤ 270) ∧ s'.1 ≠ 0 ∧ WD O P a l k q D L s.2 s'.2) (fun s' z => s'.1 = 0 ∧ s'.2 = z) ?_ ?_ _ _ _ _ ⟨⟨by (try dsimp only); omega, by have := LTk_bd bd h.1.2.2.2.2.2.2.2.2.2.2.2.2.2.2; (try dsimp only); omega⟩, by (try dsimp only); decide, h⟩
  · rintro rec' ⟨on, B⟩ z ⟨e1, e2⟩
    simp only at e1 e2 ⊢
    subst e1 e2
    exact if_pos rfl
  rintro rec rec' ⟨n, A⟩ ⟨on, B⟩ ⟨⟨n0, n1⟩, e1, h⟩ hrec hz
  simp only at n0 n1 e1 h ⊢
  have c := h.1.1
  have e := h.1.2.1
  have sb : SBd' A := h.1.2.2.2.2.2.2.2.2.2.2.2.2.2.2
  have lt := LTk_bd bd sb
  refine RR.negr e1 ?_
  by_cases cn : n < 270
  · refine RR.posl cn (RR.gl (fun _ => RR.gr (fun _ => RR.bl (c.owes lb t) (fun v hv => RR.br (h.1.owes t0 (by omega)) (fun v' hv' => RR.ii (by rw [hv, hv']) (fun _ _ => ?_) (fun _ _ => RR.ok h))))))
    refine RR.bb (RR.all (h.least t) (c.least_LT sb t) PC.tr) (fun r u p => ?_)
    obtain ⟨p1, _, p2, p3⟩ := p
    by_cases z : r.1 = 0
    · exact RR.posl z (RR.okp (PC.ok (Q := fun x => x = r.2) rfl) (hz (u.1, u.2) u.2 ⟨by (try dsimp only); rw [← p2]; exact z, rfl⟩) (fun x y hx hy => by rw [hx, hy]; exact p3))
    · have p1 := p1.resolve_left z
      refine RR.negl z (hrec _ _ ⟨⟨?_, ?_⟩, by (try dsimp only); rw [← p2]; exact z, p3⟩)
      · (try dsimp only); rw [w32_of (by omega) (by omega)]; omega
      · (try dsimp only); rw [w32_of (by omega) (by omega)]; omega
  · refine RR.negl cn (RR.gr (fun _ => RR.br (h.1.owes t0 (by omega)) (fun v' hv' => RR.ir (fun _ => ?_) (fun _ => RR.ok h))))
    have z97 : ∀ y, 0 ≤ y → y < 30 → D (32 + y) ≤ B.1 97 y := fun y y0 y1 => by
      rw [← h.1.2.2.2.1 y y0 y1]; exact LTk_0 (A := A) (by omega) y0 y1
    refine RR.br (e.least_0 bd z97 t) (fun u hu => ?_)
    rw [hu]
    exact RR.okp (PC.ok (Q := fun x => x = A) rfl) (hz (0, B) B ⟨rfl, rfl⟩) (fun x y hx hy => by rw [hx, hy]; exact h)
/-! what is seen -/
theorem CW.want (c : CW O A a l D L) (sb : SBd' A) : PC (fX8_want A 68) (fun r => r = sI (fun y => imax 0 (D (32 + y) - A.1 69 y)) (5 * D 0)) := by
  have bd := c.1.bd
  have b0 := bd.1
  have tb : ∀ y, 0 ≤ y → y < 30 → 0 ≤ imax 0 (D (32 + y) - A.1 69 y) ∧ imax 0 (D (32 + y) - A.1 69 y) ≤ 9 := fun y y0 y1 => by
    have b := (bd.2.2.1 y y0 y1).2
    have s := sb y y0 y1
    have m := imax0 (D (32 + y) - A.1 69 y)
    omega
  have sbd : ∀ i, 0 ≤ i → i ≤ 30 → 0 ≤ sI (fun y => imax 0 (D (32 + y) - A.1 69 y)) i ∧ sI (fun y => imax 0 (D (32 + y) - A.1 69 y)) i ≤ 270 := fun i i0 i1 => by
    have := sI_bd (f := fun y => imax 0 (D (32 + y) - A.1 69 y)) (lo := 0) (hi := 9) (i := i) (fun j p q => tb j p (by omega)) i0
    omega
  unfold fX8_want
  rw [c.2.2.1, c.1.2.2.1.1]
  refine PC.iter (fun s => (0 ≤ s.2 ∧ s.2 ≤ D 0) ∧ s.1 = sI (fun y => imax 0 (D (32 + y) - A.1 69 y)) (5 * s.2)) ?_ _ _ ⟨⟨by decide, by (try dsimp only); omega⟩, rfl⟩
  rintro rec ⟨x, h⟩ ⟨⟨h0, h1⟩, hx⟩ hrec
  simp only at h0 h1 hx ⊢
  refine PC.guard (fun _ => PC.guard (fun _ => PC.ite (fun ch => ?_) (fun ch => PC.ok (by rw [hx, show h = D 0 by omega]))))
  refine PC.iter (fun s => (0 ≤ s.2 ∧ s.2 ≤ 5) ∧ s.1 = sI (fun y => imax 0 (D (32 + y) - A.1 69 y)) (5 * h + s.2)) ?_ _ _ ⟨⟨by (try dsimp only); omega, by (try dsimp only); omega⟩, by (try dsimp only); rw [Int.add_zero]; exact hx⟩
  rintro rec2 ⟨y, g⟩ ⟨⟨g0, g1⟩, hy⟩ hrec2
  simp only at g0 g1 hy ⊢
  refine PC.ite (fun cg => PC.bind (c.lack sb h0 (by omega) g0 cg) (fun r hr => hrec2 _ ?_)) (fun cg => hrec _ ?_)
  · (try dsimp only)
    have t := tb (5 * h + g) (by omega) (by omega)
    have s := sbd (5 * h + g) (by omega) (by omega)
    have b := (bd.2.2.1 (5 * h + g) (by omega) (by omega)).2
    have s9 := sb (5 * h + g) (by omega) (by omega)
    rw [← hy] at s
    rw [w32_of (x := D (32 + (5 * h + g)) - A.1 69 (5 * h + g)) (by omega) (by omega)] at hr
    rw [hr, w32_of (x := g + 1) (by omega) (by omega), w32_of (by omega) (by omega)]
    refine ⟨⟨by omega, by omega⟩, ?_⟩
    rw [show 5 * h + (g + 1) = (5 * h + g) + 1 by omega, sI_s (by omega), ← hy]
  · (try dsimp only)
    rw [w32_of (x := h + 1) (by omega) (by omega)]
    refine ⟨⟨by omega, by omega⟩, ?_⟩
    rw [hy, show 5 * h + g = 5 * (h + 1) by omega]
theorem WB.want (w : WB O P a l k q D L A B) : PC (fX11_want B 85) (fun r => r = sI (fun y => imax 0 (D (32 + y) - A.1 69 y)) (5 * D 0)) := by
  obtain ⟨c, e, ⟨bd, lb⟩, r69, _, _, _, _, _, _, _, _, _, _, sb⟩ := w
  have b0 := bd.1
  unfold fX11_want
  rw [e.1.2.2.1.2.1, wp85_29 e.1.1, w32_of (x := D 0 * 5) (by omega) (by omega)]
  refine PC.iter (fun s => (0 ≤ s.2 ∧ s.2 ≤ 5 * D 0) ∧ s.1 = sI (fun y => imax 0 (D (32 + y) - A.1 69 y)) s.2) ?_ _ _ ⟨⟨by decide, by (try dsimp only); omega⟩, rfl⟩
  rintro rec ⟨x, y⟩ ⟨⟨y0, y1⟩, hx⟩ hrec
  simp only at y0 y1 hx ⊢
  refine PC.guard (fun _ => PC.ite (fun cy => ?_) (fun cy => PC.ok (by rw [hx, show y = 5 * D 0 by omega])))
  have b := (bd.2.2.1 y y0 (by omega)).2
  have s := sb y y0 (by omega)
  have m := imax0 (D (32 + y) - A.1 69 y)
  have sbd := sI_bd (f := fun y => imax 0 (D (32 + y) - A.1 69 y)) (lo := 0) (hi := 9) (i := y) (fun j p q => by
    have b := (bd.2.2.1 j p (by omega)).2
    have s := sb j p (by omega)
    have m := imax0 (D (32 + j) - A.1 69 j)
    (try dsimp only)
    omega) y0
  rw [← hx] at sbd
  rw [w32_of (x := 32 + y) (by omega) (by omega), e.1.of (by omega) (by omega), w32_of (x := y + 1) (by omega) (by omega)]
  refine PC.bindE rfl (PC.guard (fun _ => ?_))
  rw [← r69 y y0 (by omega), w32_of (x := D (32 + y) - A.1 69 y) (by omega) (by omega), greaterV]
  refine PC.bindE rfl (hrec _ ?_)
  (try dsimp only)
  rw [w32_of (by omega) (by omega)]
  refine ⟨⟨by omega, by omega⟩, ?_⟩
  rw [sI_s y0, ← hx]
theorem WB.pious (w : WB O P a l k q D L A B) : RR (fX8_pious A 68) (fX11_pious B 85) (fun r u => r = u) := by
  have c := w.1
  have e := w.2.1
  have lb := w.2.2.1.2
  have b1 := w.2.2.1.1.2.1
  unfold fX8_pious fX11_pious
  rw [c.2.2.1, c.1.2.2.1.2, e.1.2.2.1.2.2]
  refine RR.iter (fun s s' => s = s' ∧ (-1 ≤ s.1 ∧ s.1 < 4) ∧ 0 ≤ s.2 ∧ s.2 ≤ D 1) ?_ _ _ _ _ ⟨rfl, ⟨by decide, by decide⟩, by (try dsimp only); omega, by (try dsimp only); omega⟩
  rintro rec rec' ⟨x, t⟩ s' ⟨hs, ⟨x0, x1⟩, t0, t1⟩ hrec
  subst hs
  simp only at x0 x1 t0 t1 ⊢
  rw [w32_of (x := t + 1) (by omega) (by omega)]
  refine RR.gl (fun _ => RR.gl (fun _ => RR.gr (fun _ => RR.ii Iff.rfl (fun ct _ => RR.ii Iff.rfl (fun _ _ => hrec _ _ ⟨rfl, ⟨by (try dsimp only); omega, by (try dsimp only); omega⟩, by (try dsimp only); omega, by (try dsimp only); omega⟩) (fun nx _ => ?_)) (fun _ _ => RR.ok rfl))))
  refine RR.bl (c.owes lb t) (fun v hv => RR.bl (c.owes lb x) (fun v2 hv2 => RR.br (w.owes t0 (by omega)) (fun u hu => RR.br (w.owes (t := x) (by omega) (by omega)) (fun u2 hu2 => RR.ii (by rw [hv, hv2, hu, hu2]) (fun _ _ => hrec _ _ ⟨rfl, ⟨by (try dsimp only); omega, by (try dsimp only); omega⟩, by (try dsimp only); omega, by (try dsimp only); omega⟩) (fun _ _ => hrec _ _ ⟨rfl, ⟨x0, x1⟩, by (try dsimp only); omega, by (try dsimp only); omega⟩)))))
theorem CW.lost (c : CW O A a l D L) {h : Int} (h0 : 0 ≤ h) (h1 : h < 6) : PC (fX8_lost A 68 h) (fun r => r = w32 (lsT D A h)) := by
  have b1 := c.1.bd.2.1
  unfold fX8_lost lsT
  rw [c.2.2.1, c.1.2.2.1.2]
  refine PC.iter (fun s => (0 ≤ s.2 ∧ s.2 ≤ D 1) ∧ s.1 = w32 (sI (fun t => sI (fun g => A.1 71 (30 * t + 5 * h + g)) 5) s.2)) ?_ _ _ ⟨⟨by decide, by (try dsimp only); omega⟩, rfl⟩
  rintro rec ⟨x, t⟩ ⟨⟨t0, t1⟩, hx⟩ hrec
  simp only at t0 t1 hx ⊢
  refine PC.guard (fun _ => PC.guard (fun _ => PC.ite (fun ct => PC.bind (c.took t0 (by omega) h0 h1) (fun r hr => hrec _ ?_)) (fun ct => PC.ok (by rw [hx, show t = D 1 by omega]))))
  (try dsimp only)
  rw [w32_of (x := t + 1) (by omega) (by omega)]
  refine ⟨⟨by omega, by omega⟩, ?_⟩
  rw [hr, wI_sI, hx, sI_s t0]
  unfold w32; omega
set_option maxHeartbeats 1000000 in
theorem WD.seen (h : WD O P a l k q D L A B) {x : Int} (hx : r32 x) : RR (fX8_seen A 68 x) (fX11_ofState B 85 x) (fun r u => r = u) := by
  obtain ⟨w, sd, ls⟩ := h
  have w' := w
  obtain ⟨c, e, ⟨bd, lb⟩, r69, r70, r71, r72, r73, r74, r75, r76, r77, rc, rn, sb⟩ := w'
  have b0 := bd.1
  have b1 := bd.2.1
  have one : ∀ {X Y : Option Int}, RR X Y (fun r u => r = u) → RR (X.bind fun r => some r) (Y.bind fun r => some r) (fun r u => r = u) := fun h => RR.bb h (fun r u p => RR.ok p)
  unfold fX8_seen fX11_ofState
  refine RR.ii Iff.rfl (fun _ _ => RR.gr (fun _ => one (RR.okp (c.want sb) w.want (fun _ _ p q => by rw [p, q])))) (fun _ _ => ?_)
  refine RR.ii Iff.rfl (fun _ _ => RR.gl (fun _ => RR.gr (fun _ => RR.ok rc.1))) (fun _ _ => ?_)
  refine RR.ii Iff.rfl (fun _ _ => RR.gr (fun _ => one w.pious)) (fun _ _ => ?_)
  refine RR.ii Iff.rfl (fun _ _ => RR.ok rfl) (fun c20 _ => ?_)
  unfold r32 at hx
  have hd : x.tdiv 10 = x / 10 := Int.tdiv_eq_ediv_of_nonneg (by omega)
  have hm : x.tmod 10 = x % 10 := Int.tmod_eq_emod_of_nonneg (by omega)
  have wd : w32 (x / 10) = x / 10 := w32_of (by omega) (by omega)
  rw [hd, hm, wd]
  refine RR.gr (fun _ => ?_)
  unfold fX11_ofEach
  rw [hd, hm, wd, e.1.isHouse bd, e.1.isThief bd, wp85_39 e.1.1, wp85_35 e.1.1, wp85_36 e.1.1, wp85_37 e.1.1]
  by_cases c70 : x < 70
  rotate_left
  · refine RR.negl c70 (RR.rr (RR.negr (by omega) (RR.gr (fun _ => RR.flagr (fun _ => ?_) (fun _ => RR.ok rfl)))))
    exact RR.negr (by omega) (RR.negr (by omega) (RR.negr (by omega) (RR.negr (by omega) (RR.ok rfl))))
  refine RR.posl c70 (one ?_)
  unfold fX8_seenOf
  rw [c.2.2.1, c.1.isHouse, c.1.isThief, wp68_6 c.1.1, wp68_7 c.1.1, wp68_8 c.1.1]
  refine RR.ii Iff.rfl (fun _ _ => RR.gl (fun _ => RR.gl (fun _ => RR.gr (fun _ => RR.flag (fun ch => ?_) (fun _ => RR.ok rfl))))) (fun n6 _ => RR.gl (fun _ => RR.gl (fun _ => RR.gr (fun _ => RR.flag (fun ct => ?_) (fun _ => RR.ok rfl)))))
  · refine RR.gr (fun _ => RR.lb (RR.okp (c.lost ch.1 (by omega)) (PC.ok (Q := fun v => v = B.1 107 (x % 10)) rfl) (fun r u p p' => PC.ok ?_)))
    rw [p, p', ls _ ch.1 (by omega)]
  refine RR.ii Iff.rfl (fun _ _ => RR.gl (fun _ => RR.gr (fun _ => RR.ok (r73 _ ct.1 (by omega))))) (fun n2 _ => ?_)
  refine RR.ii Iff.rfl (fun _ _ => RR.gl (fun _ => RR.gr (fun _ => RR.ok (r74 _ ct.1 (by omega))))) (fun n3 _ => ?_)
  refine RR.ii Iff.rfl (fun _ _ => one (RR.okp (c.owes lb _) (w.owes ct.1 (by omega)) (fun _ _ p p' => by rw [p, p']))) (fun n4 _ => ?_)
  exact RR.posr (by omega) (RR.gl (fun _ => RR.gr (fun _ => RR.ok (r75 _ ct.1 (by omega)))))
theorem beginR_49 (c : RW' P N k q D L) : PC (fX11_begin N 85) (fun r => r.1 85 49 = N.1 85 49) := by
  unfold fX11_begin
  refine PC.iter (fun s => RW' P s.2 k q D L ∧ s.2.1 85 49 = N.1 85 49) ?_ _ _ ⟨c, rfl⟩
  rintro rec ⟨i, A⟩ ⟨cA, g⟩ hrec
  simp only at cA g ⊢
  refine PC.ite (fun z => PC.guard (fun _ => ?_)) (fun z => ?_)
  · rw [wp85_29 cA.1.1]
    exact PC.bindT (fun r5 => PC.guard (fun _ => PC.sM (hrec _ ⟨cA.st (by decide), by (try dsimp only); rw [mst_ne _ _ _ _ _ _ (by decide)]; exact g⟩)))
  refine PC.iter (fun s => RW' P s.2 k q D L ∧ s.2.1 85 49 = N.1 85 49) ?_ _ _ ⟨cA, g⟩
  clear cA g z hrec rec A
  rintro rec ⟨i, A⟩ ⟨cA, g⟩ hrec
  simp only at cA g ⊢
  refine PC.ite (fun z => PC.guard (fun _ => ?_)) (fun z => ?_)
  · rw [wp85_30 cA.1.1]
    exact PC.guard (fun _ => PC.sM (hrec _ ⟨cA.st (by decide), by (try dsimp only); rw [mst_ne _ _ _ _ _ _ (by decide)]; exact g⟩))
  refine PC.iter (fun s => RW' P s.2 k q D L ∧ s.2.1 85 49 = N.1 85 49) ?_ _ _ ⟨cA, g⟩
  clear cA g z hrec rec A
  rintro rec ⟨i, A⟩ ⟨cA, g⟩ hrec
  simp only at cA g ⊢
  refine PC.ite (fun z => PC.guard (fun _ => ?_)) (fun z => ?_)
  · rw [wp85_31 cA.1.1]
    have c1 : RW' P (mst A 99 i 0) k q D L := cA.st (by decide)
    refine PC.guard (fun _ => PC.sM ?_)
    rw [wp85_32 c1.1.1]
    exact PC.guard (fun _ => PC.sM (hrec _ ⟨c1.st (by decide), by (try dsimp only); rw [mst_ne _ _ _ _ _ _ (by decide), mst_ne _ _ _ _ _ _ (by decide)]; exact g⟩))
  refine PC.iter (fun s => RW' P s.2 k q D L ∧ s.2.1 85 49 = N.1 85 49) ?_ _ _ ⟨cA, g⟩
  clear cA g z hrec rec A
  rintro rec ⟨i, A⟩ ⟨cA, g⟩ hrec
  simp only at cA g ⊢
  refine PC.ite (fun z => PC.guard (fun _ => ?_)) (fun z => ?_)
  · have hR := cA.1.1
    have v34 := wp85_34 hR
    have v35 := wp85_35 hR
    have v36 := wp85_36 hR
    have v37 := wp85_37 hR
    have v38 := wp85_38 hR
    rw [wp85_33 hR]
    refine PC.guard (fun _ => PC.sM ?_)
    simp only [rr_101, v34]
    refine PC.guard (fun _ => PC.sM ?_)
    simp only [rr_101, rr_102, v35]
    refine PC.guard (fun _ => PC.sM ?_)
    simp only [rr_101, rr_102, rr_103, v36]
    refine PC.guard (fun _ => PC.sM ?_)
    simp only [rr_101, rr_102, rr_103, rr_104, v37]
    refine PC.guard (fun _ => PC.sM ?_)
    simp only [rr_101, rr_102, rr_103, rr_104, rr_105, v38]
    refine PC.guard (fun _ => PC.sM (hrec _ ⟨(((((cA.st (by decide)).st (by decide)).st (by decide)).st (by decide)).st (by decide)).st (by decide), ?_⟩))
    (try dsimp only)
    simp only [rr_101, rr_102, rr_103, rr_104, rr_105, rr_106]; exact g
  refine PC.iter (fun s => RW' P s.2 k q D L ∧ s.2.1 85 49 = N.1 85 49) ?_ _ _ ⟨cA, g⟩
  clear cA g z hrec rec A
  rintro rec ⟨i, A⟩ ⟨cA, g⟩ hrec
  simp only at cA g ⊢
  refine PC.ite (fun z => PC.guard (fun _ => ?_)) (fun z => ?_)
  · rw [wp85_39 cA.1.1]
    exact PC.guard (fun _ => PC.sM (hrec _ ⟨cA.st (by decide), by (try dsimp only); rw [mst_ne _ _ _ _ _ _ (by decide)]; exact g⟩))
  exact PC.guard (fun _ => PC.sM (PC.sM (PC.sM (PC.ok (by rw [mst_nf _ _ _ _ _ _ (by decide), mst_nf _ _ _ _ _ _ (by decide), mst_nf _ _ _ _ _ _ (by decide)]; exact g)))))
theorem WB.seedl (w : WB O P a l k q D L A B) (v : Int) : WB O P a l k q D L (mst A 68 16 v) B := by
  obtain ⟨c, e, bl, r69, r70, r71, r72, r73, r74, r75, r76, r77, rc, rn, rs⟩ := w
  exact ⟨c.stF (by decide), e, bl, RWn.lf (by decide) r69, RWn.lf (by decide) r70, RWn.lf (by decide) r71, RWn.lf (by decide) r72, RWn.lf (by decide) r73, RWn.lf (by decide) r74, RWn.lf (by decide) r75, RWn.lf (by decide) r76, RWn.lf (by decide) r77, rc, rn, SBd'.lf (by decide) rs⟩
set_option maxHeartbeats 2000000 in
theorem drawn_E (h : INV3 M) (t l sd n x : Int) (hx : r32 x) : TT (fX10_drawn M 0 t l sd n x) (fun r => Keep M r.2 ∧ TT (fX11_drawn r.2 85 t l sd n x) (fun u => r.1 = u.1 ∧ Keep r.2 u.2)) := by
  have hT := h.1.1.1
  refine TT.rrm (P := fun r => Keep M r.2) (Q := fun N u => Keep N u.2) (Y := fun N => fX11_drawn N 85 t l sd n x) (drawnX_T hT t l sd n x) (fun N hN => by obtain ⟨i, kN⟩ := hN; have kN : Keep M N := kN; exact drawnY_T (hT.keep kN) t l sd n x) (fun N hN => ?_)
  obtain ⟨_, kN⟩ := hN
  have kN : Keep M N := kN
  have k0 : Keep M (mst N 85 0 0) := kN.st rfl
  unfold fX10_drawn fX11_drawn
  rw [wp0_0 hT, townAt_V hT, lawAt_V hT, wp0_3 hT, bd1, bd1]
  refine RR.gl (fun _ => RR.gl (fun _ => RR.gr (fun _ => RR.mr ?_)))
  rw [in_v2]
  by_cases cn : 1 ≤ n ∧ n ≤ 30
  rotate_left
  · rw [if_neg cn]
    refine RR.br (PC.ok (Q := fun v => v = 0) rfl) (fun v hv => RR.posr hv ?_)
    exact RR.il (fun _ => RR.ok rfl) (fun _ => RR.il (fun _ => RR.ok rfl) (fun _ => RR.il (fun _ => RR.ok rfl) (fun _ => RR.posl (by omega) (RR.ok rfl))))
  rw [if_pos cn]
  refine RR.br (PC.ok (Q := fun v => v = 1) rfl) (fun v hv => RR.negr (by rw [hv]; decide) (RR.lawR h.1 k0 l (fun cl => ?_) (fun cl dl kl => ?_)))
  · rw [if_neg cl]
    exact RR.posr rfl (RR.il (fun _ => RR.ok rfl) (fun _ => RR.posl rfl (RR.ok rfl)))
  rw [if_pos cl]
  obtain ⟨tl, lb⟩ := lawV_L h.1 cl.1 cl.2
  refine RR.negr n10 (RR.gr (fun _ => RR.handR h.1 (k0.trans kl) t (fun ct => ?_) (fun ct N3 d kd e => ?_)))
  · rw [if_neg ct]
    exact RR.posr rfl (RR.posl rfl (RR.ok rfl))
  rw [if_pos ct]
  have tt := townV_D h.1 ct.1 ct.2
  have bd := tt.bd
  have b0 := bd.1
  have r27 : RLd N3 l (fun y => M.1 92 (3 * l + y)) := dl.keep kd (by rw [e 27 (Or.inr (by decide))])
  generalize (fun y => M.1 91 (92 * t + y)) = D at *
  generalize (fun y => M.1 92 (3 * l + y)) = L at *
  refine RR.negl (by omega) (RR.negl (by omega) (RR.negl (by omega) (RR.negl (by omega) (RR.gl (fun _ => RR.negr n10 (RR.gr (fun _ => RR.mr ?_)))))))
  have d3 : RD (mst N3 85 49 sd) t D := d.stF rfl (by decide)
  have r3 : RLd (mst N3 85 49 sd) l L := r27.keep (Keep.self.st rfl) (mst_nf _ _ _ _ _ _ (by decide))
  have e49 : (mst N3 85 49 sd).1 85 49 = sd := mst_at _ _ _ _
  generalize mst N3 85 49 sd = N4 at *
  have rw0 : RW' N4 N4 t l D L := ⟨d3, r3, Keep.self, rfl, rfl⟩
  refine RR.bl (PC.and (begin_V tt tl) (PC.of (begin_T hT tt.2.1 tl.2.1))) (fun A0 z => RR.gl (fun _ => RR.gl (fun _ => ?_)))
  obtain ⟨zx, g1, g2, g3, g4⟩ := z
  refine RR.br (PC.and (beginR_V rw0) (beginR_49 rw0)) (fun B0 z => ?_)
  obtain ⟨⟨⟨rb, _⟩, zy⟩, s49⟩ := z
  have cA : CW A0 A0 (8 + 19 * t) (17 + 19 * l) D L := ⟨tt.keep g1, tl.keep g1, g2, g3, Keep.self, rfl⟩
  have wb : WB A0 N4 (8 + 19 * t) (17 + 19 * l) t l D L A0 B0 := WB.start cA rb bd lb zx zy
  have wd : WD A0 N4 (8 + 19 * t) (17 + 19 * l) t l D L (mst A0 68 16 sd) B0 := by
    refine ⟨wb.seedl sd, by rw [mst_at, s49, e49], fun y y0 y1 => ?_⟩
    rw [zy.2.2.2.2.1 y y0 y1]
    have : lsT D (mst A0 68 16 sd) y = 0 := by
      unfold lsT
      rw [sI_cong (g := fun _ => 0) (fun t t0 t1 => ?_)]
      · exact sm_zero _
      · rw [sI_cong (g := fun _ => 0) (fun g g0 g1 => ?_)]
        · exact sm_zero _
        · have b1 := bd.2.1
          rw [mst_ne _ _ _ _ _ _ (by decide)]
          exact (zx.2.2.1 _ (by omega) (by omega)).1
    rw [this]; rfl
  rw [wp0_3 cA.1.1]
  unfold fX9_drawNights
  refine RR.lb ?_
  refine RR.gl (fun _ => RR.ml ?_)
  refine RR.iter (fun s s' => s.1 = s'.1 ∧ (0 ≤ s.1 ∧ s.1 ≤ 30) ∧ WD A0 N4 (8 + 19 * t) (17 + 19 * l) t l D L s.2 s'.2) ?_ _ _ _ _ ⟨rfl, ⟨by (try dsimp only); omega, by (try dsimp only); omega⟩, wd⟩
  clear wd wb cA s49 zy rb zx g1 g2 g3 g4 rw0
  rintro rec rec' ⟨i, A⟩ ⟨i', B⟩ ⟨e1, ⟨i0, i1⟩, w⟩ hrec
  simp only at e1 i0 i1 w ⊢
  subst e1
  refine RR.ii Iff.rfl (fun ci _ => ?_) (fun ci _ => ?_)
  · refine RR.iter (fun s s' => s.1 = s'.1 ∧ (0 ≤ s.1 ∧ s.1 ≤ 4) ∧ WD A0 N4 (8 + 19 * t) (17 + 19 * l) t l D L s.2 s'.2) ?_ _ _ _ _ ⟨rfl, ⟨by (try dsimp only); omega, by (try dsimp only); omega⟩, w⟩
    clear w
    rintro rec2 rec2' ⟨j, A⟩ ⟨j', B⟩ ⟨e1, ⟨j0, j1⟩, w⟩ hrec2
    simp only at e1 j0 j1 w ⊢
    subst e1
    have c := w.1.1
    have e := w.1.2.1
    have b1 := bd.2.1
    rw [c.2.2.1, c.1.2.2.1.2, e.1.2.2.1.2.2, c.isFree, hasV, w32_of (x := j + 1) (by omega) (by omega), w32_of (x := i + 1) (by omega) (by omega), ← w.1.2.2.2.2.2.2.2.2.2.2.2.2.1.1]
    refine RR.gl (fun _ => RR.gl (fun _ => RR.gr (fun _ => RR.ii Iff.rfl (fun cj _ => ?_) (fun _ _ => RR.bb w.ends (fun r u p => hrec _ _ ⟨rfl, ⟨by (try dsimp only); omega, by (try dsimp only); omega⟩, p⟩)))))
    have nx : ∀ A' B', WD A0 N4 (8 + 19 * t) (17 + 19 * l) t l D L A' B' → RR (rec2 (j + 1, A')) (rec2' (j + 1, B')) _ := fun A' B' p => hrec2 _ _ ⟨rfl, ⟨by (try dsimp only); omega, by (try dsimp only); omega⟩, p⟩
    rcases and1 (bShr (A.1 68 13) j) with y | y
    · rw [if_pos ⟨⟨j0, cj⟩, y⟩, y]
      refine RR.bl (PC.ok (Q := fun v => v = 1) rfl) (fun v hv => RR.negl (by rw [hv]; decide) (RR.br (PC.ok (Q := fun v => v = 0) rfl) (fun v' hv' => RR.posr hv' ?_)))
      exact RR.bb (w.deeds j0 cj) (fun r u p => nx _ _ p)
    · rw [if_neg (fun z => by rw [y] at z; exact absurd z.2 (by decide)), y]
      exact RR.bl (PC.ok (Q := fun v => v = 0) rfl) (fun v hv => RR.posl hv (RR.br (PC.ok (Q := fun v => v = 1) rfl) (fun v' hv' => RR.negr (by rw [hv']; decide) (nx _ _ w))))
  have c := w.1.1
  have e := w.1.2.1
  refine RR.sm ?_
  (try dsimp only)
  rw [wp0_3 c.1.1, wp68_2 c.1.1, c.1.2.2.1.1, e.1.2.2.1.2.1, wp85_29 e.1.1, w32_of (x := 5 * D 0) (by omega) (by omega), w32_of (x := 70 + 5 * D 0) (by omega) (by omega), w32_of (x := 69 + 5 * D 0) (by omega) (by omega), in_v2]
  have hs : RR (if A.2.1 0 = 9 then (fX8_seen A 68 x).bind fun r21 => some (r21, A) else none) ((fX11_ofState B 85 x).bind fun r37 => some (r37, B)) (fun r u => r.1 = u.1) := RR.gl (fun _ => RR.bb (w.seen hx) (fun r u p => RR.ok p))
  refine RR.jl (RR.gr (fun _ => ?_))
  by_cases c70 : x < 70
  · rw [if_neg (show ¬(70 ≤ x ∧ x ≤ 69 + 5 * D 0) by omega)]
    exact RR.posl c70 (RR.br (PC.ok (Q := fun v => v = 0) rfl) (fun v hv => RR.posr hv hs))
  refine RR.negl c70 (RR.gl (fun _ => ?_))
  by_cases cx : x < 70 + 5 * D 0
  · rw [if_pos (show 70 ≤ x ∧ x ≤ 69 + 5 * D 0 by omega), w32_of (x := x - 70) (by omega) (by omega)]
    exact RR.posl cx (RR.br (PC.ok (Q := fun v => v = 1) rfl) (fun v hv => RR.negr (by rw [hv]; decide) (RR.gl (fun _ => RR.gl (fun _ => RR.gl (fun _ => RR.gr (fun _ => RR.ok (w.1.2.2.2.1 _ (by omega) (by omega)))))))))
  · rw [if_neg (show ¬(70 ≤ x ∧ x ≤ 69 + 5 * D 0) by omega)]
    exact RR.negl cx (RR.br (PC.ok (Q := fun v => v = 0) rfl) (fun v hv => RR.posr hv hs))
end Drawn
