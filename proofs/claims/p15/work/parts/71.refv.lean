/-! the reference: numbers taken, as the spec has them -/
section RefV
variable {M N : Mem} {T : Int → Int} {n i : Int}
/-- the reference's first fault so far, ahead of b -/
def FR (fp : Int × Int) (M : Mem) (b : Int) : Prop := (fp.1 = 0 ∧ M.1 85 17 = 0) ∨ (fp.1 ≠ 0 ∧ M.1 85 17 = fp.1 ∧ M.1 85 18 = fp.2 ∧ fp.2 < b)
theorem FR.up {fp : Int × Int} {b c : Int} (h : FR fp M b) (hc : b ≤ c) : FR fp M c := h.elim Or.inl (fun q => Or.inr ⟨q.1, q.2.1, q.2.2.1, by omega⟩)
theorem FR.same {fp : Int × Int} {b : Int} (h : FR fp M b) (e1 : N.1 85 17 = M.1 85 17) (e2 : N.1 85 18 = M.1 85 18) : FR fp N b := by unfold FR at *; rw [e1, e2]; exact h
theorem later_V (hT : WT M) {f p b : Int} {fp : Int × Int} (hf : f ≠ 0) (h : FR fp M b) (hb : b ≤ p) : TT (fX11_later M 85 f p) (fun r => (r.2 = M.2 ∧ ∀ x y, (x ≠ 85 ∨ (y ≠ 17 ∧ y ≠ 18)) → r.1 x y = M.1 x y) ∧ FR (nt f p fp) r (p + 1)) := by
  unfold fX11_later
  rcases h with ⟨h1, h2⟩ | ⟨h1, h2, h3, h4⟩
  · refine TT.guard (wk85 hT) (TT.jI (TT.pos h2 (TT.sM (TT.sM (TT.ok ⟨⟨rfl, fun x y q => ?_⟩, ?_⟩)))))
    · rw [mst_r, if_neg (by omega), mst_r, if_neg (by omega)]
    · unfold nt
      rw [if_pos h1]
      exact Or.inr ⟨hf, rfl, rfl, by show p < p + 1; omega⟩
  · refine TT.guard (wk85 hT) (TT.jI (TT.neg (by rw [h2]; exact h1) (TT.neg (by rw [h3]; omega) (TT.neg (by rw [h3]; omega) (TT.ok ⟨⟨rfl, fun _ _ _ => rfl⟩, ?_⟩)))))
    unfold nt
    rw [if_neg h1]
    exact Or.inr ⟨h1, h2, h3, by omega⟩
def badR (v lo hi bt : Int) : Bool := decide (v < lo) || decide (hi < v) || decide (v = bt)
/-- what a number taken leaves -/
def TkV (M : Mem) (k lo hi bt i : Int) (fp : Int × Int) (r : Int × Mem) : Prop := (tK (M.1 86) (M.1 85 11) i ≠ 2 ∧ r.1 = 0 ∧ r.2.1 85 16 = tS (M.1 86) (M.1 85 11) i) ∨ (tK (M.1 86) (M.1 85 11) i = 2 ∧ r.1 = 1 ∧ r.2.1 96 k = tV (M.1 86) (M.1 85 11) i ∧ TokY (M.1 86) (M.1 85 11) (tE (M.1 86) (M.1 85 11) i) r.2 ∧ FR (if badR (tV (M.1 86) (M.1 85 11) i) lo hi bt = true then nt 2 (tS (M.1 86) (M.1 85 11) i) fp else fp) r.2 (tS (M.1 86) (M.1 85 11) i + 1) ∧ (¬ badR (tV (M.1 86) (M.1 85 11) i) lo hi bt = true → r.2.1 85 23 = M.1 85 23))
set_option maxHeartbeats 1000000 in
theorem takeBut_V (hT : WT M) (hp : PT M) (hb : BY M) (hX : TokY (M.1 86) (M.1 85 11) i M) {fp : Int × Int} (hF : FR fp M (tS (M.1 86) (M.1 85 11) i)) {k lo hi bt : Int} (k0 : 0 ≤ k) (k4 : k < 4) : TT (fX11_takeBut M 85 k lo hi bt) (fun r => TkV M k lo hi bt i fp r ∧ r.2.1 85 21 = M.1 85 21 ∧ r.2.1 85 22 = M.1 85 22) := by
  unfold fX11_takeBut
  obtain ⟨x1, x2, x3, x4, x5⟩ := hX
  have kr := @tK_r (M.1 86) (M.1 85 11) i
  have mk3 : mk (tK (M.1 86) (M.1 85 11) i) = 3 ↔ tK (M.1 86) (M.1 85 11) i = 2 := by
    unfold mk
    generalize tK (M.1 86) (M.1 85 11) i = q at *
    constructor
    · intro e
      split at e
      · omega
      · split at e
        · omega
        · split at e
          · assumption
          · split at e <;> omega
    · intro e
      rw [if_neg (by omega), if_neg (by omega), if_pos e]
  rw [wp85_20 hT, x2]
  unfold TkV
  generalize hTT : M.1 86 = T at *
  generalize hn : M.1 85 11 = n at *
  refine TT.guard (wk85 hT) (TT.ite (fun h3 => ?_) (fun h3 => ?_))
  · have eK := mk3.mp h3
    have e10 := x3 (by rw [eK]; decide)
    have e14 := x4 eK
    refine TT.guard ⟨wk96 hT, k0, by rw [wl96 hT]; exact k4⟩ (TT.sM ?_)
    have hV : VK M (mst M 96 k (M.1 85 14)) := ⟨rfl, fun x y a _ => mst_ne _ _ _ _ _ _ a⟩
    have a85 : ∀ y, (mst M 96 k (M.1 85 14)).1 85 y = M.1 85 y := fun y => mst_ne _ _ _ _ _ _ (by decide)
    have ak : (mst M 96 k (M.1 85 14)).1 96 k = tV T n i := by rw [mst_at]; exact e14
    have a86 : (mst M 96 k (M.1 85 14)).1 86 = T := by rw [← hTT]; exact funext fun y => mst_ne _ _ _ _ _ _ (by decide)
    generalize mst M 96 k (M.1 85 14) = N at *
    have hTN := hT.keep hV.keep
    rw [a85, e14]
    refine TT.bindE (in_v2 _ _ _ _) ?_
    refine TT.join (fun t : Mem => VK M t ∧ t.1 86 = T ∧ t.1 85 10 = tE T n i ∧ t.1 96 k = tV T n i ∧ FR (if badR (tV T n i) lo hi bt = true then nt 2 (tS T n i) fp else fp) t (tS T n i + 1) ∧ (¬ badR (tV T n i) lo hi bt = true → t.1 85 23 = M.1 85 23) ∧ t.1 85 21 = M.1 85 21 ∧ t.1 85 22 = M.1 85 22) (fun t ht => ?_) (fun j hj => ?_)
    · obtain ⟨g1, g2, g3, g4, g5, g6, g7, g8⟩ := ht
      have hTt := hT.keep g1.keep
      have e11 : t.1 85 11 = n := (g1.2 85 11 (by decide) (by decide)).trans hn
      have hbt : BY t := fun j a b => by rw [g2]; rw [e11] at b; exact (by rw [← hTT]; exact hb j a (by rw [hn]; exact b))
      have pst : PS t := hp.1.of (g3.trans e10.symm) (e11.trans hn.symm)
      have tv := token_V hTt pst hbt
      rw [g2, e11, g3] at tv
      refine TT.guard (wk85 hTt) (TT.bind tv (fun r q => TT.ok ⟨Or.inr ⟨eK, rfl, ?_, q.2, ?_, fun z => ?_⟩, ?_, ?_⟩))
      · show r.1 96 k = _
        rw [q.1.2 96 k (Or.inl (by decide))]; exact g4
      · exact g5.same (q.1.2 85 17 (by decide)) (q.1.2 85 18 (by decide))
      · show r.1 85 23 = _
        rw [q.1.2 85 23 (by decide)]; exact g6 z
      · show r.1 85 21 = _
        rw [q.1.2 85 21 (by decide)]; exact g7
      · show r.1 85 22 = _
        rw [q.1.2 85 22 (by decide)]; exact g8
    · have bd : badR (tV T n i) lo hi bt = true ↔ (¬(lo ≤ tV T n i ∧ tV T n i ≤ hi) ∨ tV T n i = bt) := by
        unfold badR
        simp only [Bool.or_eq_true, decide_eq_true_eq]
        omega
      refine TT.join (fun _ => badR (tV T n i) lo hi bt = true) (fun _ hbad => ?_) (fun j2 hj2 => ?_)
      · have hFN : FR fp N (tS T n i) := hF.same (a85 17) (a85 18)
        rw [a85, x1]
        refine TT.bind (later_V hTN (by decide) hFN (Int.le_refl _)) (fun r q => ?_)
        have hV2 : VK M r := hV.trans ⟨q.1.1, fun x y _ b => q.1.2 x y (by omega)⟩
        have hTr := hT.keep hV2.keep
        refine TT.guard (wk85 hTr) (TT.sM (hj _ ⟨⟨hV2.1, fun x y a b => ?_⟩, ?_, ?_, ?_, ?_, fun z => absurd hbad z, ?_, ?_⟩))
        · rw [mst_r, if_neg (by rintro ⟨e1, e2⟩; omega)]; exact hV2.2 x y a b
        · funext y
          show r.1 86 y = T y
          rw [q.1.2 86 y (Or.inl (by decide)), a86]
        · show r.1 85 10 = _
          rw [q.1.2 85 10 (by decide), a85]; exact e10
        · show r.1 96 k = _
          rw [q.1.2 96 k (Or.inl (by decide))]; exact ak
        · rw [if_pos hbad]; exact q.2
        · show r.1 85 21 = _
          rw [q.1.2 85 21 (by decide), a85]
        · show r.1 85 22 = _
          rw [q.1.2 85 22 (by decide), a85]
      · have fine : ¬ badR (tV T n i) lo hi bt = true → TT (j N) _ := fun z => hj N ⟨hV, a86, by rw [a85]; exact e10, ak, by rw [if_neg z]; exact (hF.same (a85 17) (a85 18)).up (by omega), fun _ => a85 23, a85 21, a85 22⟩
        by_cases hc : lo ≤ tV T n i ∧ tV T n i ≤ hi
        · rw [if_pos hc]
          exact TT.neg (by decide) (TT.ite (fun c => hj2 () (bd.mpr (Or.inr c))) (fun c => fine (fun z => (bd.mp z).elim (fun w => w hc) c)))
        · rw [if_neg hc]
          exact TT.pos rfl (hj2 () (bd.mpr (Or.inl hc)))
  · have eK : tK T n i ≠ 2 := fun z => h3 (mk3.mpr z)
    refine TT.bind (P := fun r => r = (0, mst M 85 16 (M.1 85 12))) ?_ (fun r q => ?_)
    · unfold fX11_fails
      exact TT.guard (wk85 hT) (TT.sM (TT.ok rfl))
    · rw [q]
      refine TT.guard (Or.inl rfl) (TT.ok ⟨Or.inl ⟨eK, rfl, ?_⟩, rfl, rfl⟩)
      show M.1 85 12 = _
      exact x1
theorem take_V (hT : WT M) (hp : PT M) (hb : BY M) (hX : TokY (M.1 86) (M.1 85 11) i M) {fp : Int × Int} (hF : FR fp M (tS (M.1 86) (M.1 85 11) i)) {k lo hi : Int} (k0 : 0 ≤ k) (k4 : k < 4) : TT (fX11_take M 85 k lo hi) (fun r => TkV M k lo hi (-1) i fp r ∧ r.2.1 85 21 = M.1 85 21 ∧ r.2.1 85 22 = M.1 85 22) := by
  unfold fX11_take
  refine TT.guard (wk85 hT) (TT.bind (takeBut_V hT hp hb hX hF k0 k4) (fun r q => TT.guard ?_ (TT.ok q)))
  rcases q.1 with z | z
  · exact Or.inl z.2.1
  · exact Or.inr z.2.1
theorem takeHouse_V (hT : WT M) (hp : PT M) (hb : BY M) (hX : TokY (M.1 86) (M.1 85 11) i M) {fp : Int × Int} (hF : FR fp M (tS (M.1 86) (M.1 85 11) i)) {k : Int} (k0 : 0 ≤ k) (k4 : k < 4) : TT (fX11_takeHouse M 85 k) (fun r => TkV M k 0 5 (-1) i fp r ∧ (r.1 = 1 → r.2.1 85 21 = mx (M.1 85 21) (tV (M.1 86) (M.1 85 11) i)) ∧ r.2.1 85 22 = M.1 85 22) := by
  unfold fX11_takeHouse
  refine TT.guard (wk85 hT) (TT.bind (TT.and (take_T hT hp k0 k4) (take_V hT hp hb hX hF k0 k4)) (fun r q => ?_))
  obtain ⟨qT, qV, q21, q22⟩ := q
  refine TT.ite (fun h0 => TT.ok ⟨?_, fun z => by have z' : (0 : Int) = 1 := z; omega, q22⟩) (fun h0 => ?_)
  · rcases qV with z | z
    · exact Or.inl ⟨z.1, rfl, z.2.2⟩
    · exact absurd z.2.1 (by omega)
  · have hTr := hT.keep qT.2.1.1.keep
    rcases qV with z | ⟨z1, z2, z3, z4, z5, z6⟩
    · exact absurd z.2.1 h0
    · rw [wp85_20 hTr]
      refine TT.guard (wk85 hTr) (TT.guard ⟨wk96 hTr, k0, by rw [wl96 hTr]; exact k4⟩ ?_)
      refine TT.bind (P := fun v => v = mx (M.1 85 21) (tV (M.1 86) (M.1 85 11) i)) ?_ (fun v hv => TT.sM (TT.ok ⟨Or.inr ⟨z1, rfl, z3, z4, z5, z6⟩, fun _ => hv, q22⟩))
      unfold fX11_greater mx
      rw [q21, z3]
      refine TT.ite (fun c => TT.ok ?_) (fun c => TT.ok ?_)
      · rw [if_neg (by omega)]
      · by_cases e : M.1 85 21 < tV (M.1 86) (M.1 85 11) i
        · rw [if_pos e]
        · rw [if_neg e]; omega
end RefV
