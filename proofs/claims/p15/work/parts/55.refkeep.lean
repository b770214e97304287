/-! the reference: a text is read and kept; images -/
section RefY
variable {M : Mem}
def RTQ (M N : Mem) : Prop := N.2 = M.2 ∧ ∀ x y, scr x y = false → ¬(x = 88 ∧ y = 0) → ¬(x = 89 ∧ y = 0) → N.1 x y = M.1 x y
theorem WT.mst' {M : Mem} (h : WT M) {a i v : Int} (hp : freeOf PL a i = true) (hr : (RGL.all fun p => decide (p.1 ≠ a) || (decide (p.2.2.2.1 ≤ v) && decide (v ≤ p.2.2.2.2))) = true) (hc : a ≠ 90 ∧ a ≠ 91 ∧ a ≠ 92 ∧ a ≠ 93) : WT (mst M a i v) := by
  refine ⟨h.1.mst v hp, fun p hp j a1 a2 => ?_, fun l k l0 l4 k0 k2 => ?_, fun q j q0 q8 j0 j4 => ?_⟩
  · have g := List.all_eq_true.mp hr p hp
    simp only [Bool.or_eq_true, Bool.and_eq_true, decide_eq_true_eq] at g
    rw [mst_r]
    by_cases e : p.1 = a ∧ j = i
    · rw [if_pos e]; exact g.resolve_left (fun z => z e.1)
    · rw [if_neg e]; exact h.2.1 p hp j a1 a2
  · rw [mst_ne _ _ _ _ _ _ hc.1.symm, mst_ne _ _ _ _ _ _ hc.1.symm, mst_ne _ _ _ _ _ _ hc.2.1.symm, mst_ne _ _ _ _ _ _ hc.2.2.1.symm]; exact h.2.2.1 l k l0 l4 k0 k2
  · rw [mst_ne _ _ _ _ _ _ hc.2.2.2.symm, mst_ne _ _ _ _ _ _ hc.2.2.2.symm]; exact h.2.2.2 q j q0 q8 j0 j4
theorem r88 (v : Int) : (RGL.all fun p => decide (p.1 ≠ 88) || (decide (p.2.2.2.1 ≤ v) && decide (v ≤ p.2.2.2.2))) = true := by
  rw [List.all_eq_true]
  intro p hp
  have g : (RGL.all fun p => decide (p.1 ≠ 88)) = true := by decide +kernel
  rw [List.all_eq_true.mp g p hp]; rfl
theorem r89 (v : Int) : (RGL.all fun p => decide (p.1 ≠ 89) || (decide (p.2.2.2.1 ≤ v) && decide (v ≤ p.2.2.2.2))) = true := by
  rw [List.all_eq_true]
  intro p hp
  have g : (RGL.all fun p => decide (p.1 ≠ 89)) = true := by decide +kernel
  rw [List.all_eq_true.mp g p hp]; rfl
theorem f88 : freeOf PL 88 0 = true := by decide +kernel
theorem f89 : freeOf PL 89 0 = true := by decide +kernel
theorem RTQ.wt {M N : Mem} (h : WT M) (q : RTQ M N) : WT N := by
  have h2 := (h.mst' (a := 88) (i := 0) (v := N.1 88 0) f88 (r88 _) (by decide)).mst' (a := 89) (i := 0) (v := N.1 89 0) f89 (r89 _) (by decide)
  refine h2.keep ⟨q.1, fun x y s => ?_⟩
  rw [mst_r, mst_r]
  by_cases e : x = 89 ∧ y = 0
  · rw [if_pos e, e.1, e.2]
  · rw [if_neg e]
    by_cases e2 : x = 88 ∧ y = 0
    · rw [if_pos e2, e2.1, e2.2]
    · rw [if_neg e2]; exact q.2 x y s e2 e
set_option maxHeartbeats 1000000 in
theorem readText_T (hT : WT M) (hl : 0 ≤ M.1 85 11 ∧ M.1 85 11 ≤ 600) {s : Int} (h0 : 0 ≤ s) (h3 : s ≤ 3) : TT (fX11_readText M 85 s) (fun r => B01 r.1 ∧ RTQ M r.2 ∧ (r.1 ≠ 0 → DOf s r.2 ∧ r.2.1 85 17 = 0)) := by
  unfold fX11_readText
  refine TT.guard (wk85 hT) (TT.bind (blank_T hT h0 h3) (fun r1 q1 => ?_))
  have hK1 := q1.1.keep
  have hT1 := hT.keep hK1
  refine TT.guard (wk85 hT1) (TT.sM (TT.sM (TT.sM (TT.sM ?_))))
  have hV : VK r1 (mst (mst (mst (mst r1 85 21 (-1)) 85 22 (-1)) 85 10 0) 85 17 0) := ⟨rfl, fun x y _ c => by
    rw [mst_r, if_neg (by rintro ⟨e1, e2⟩; omega), mst_r, if_neg (by rintro ⟨e1, e2⟩; omega), mst_r, if_neg (by rintro ⟨e1, e2⟩; omega), mst_r, if_neg (by rintro ⟨e1, e2⟩; omega)]⟩
  have hd : DOf s (mst (mst (mst (mst r1 85 21 (-1)) 85 22 (-1)) 85 10 0) 85 17 0) := q1.2 _ (fun y => vk95 hV y)
  have e11 : r1.1 85 11 = M.1 85 11 := q1.1.2 85 11 (by decide)
  have hp : PS (mst (mst (mst (mst r1 85 21 (-1)) 85 22 (-1)) 85 10 0) 85 17 0) := by
    refine ⟨Int.le_refl _, ?_, ?_⟩
    · show 0 ≤ r1.1 85 11
      omega
    · show r1.1 85 11 ≤ 600
      omega
  generalize mst (mst (mst (mst r1 85 21 (-1)) 85 22 (-1)) 85 10 0) 85 17 0 = N at *
  have hTN := hT1.keep hV.keep
  refine TT.bind (token_T hTN hp) (fun r13 q13 => ?_)
  have hT13 := hTN.keep q13.1.keep
  refine TT.guard (wk85 hT13) (TT.bind (lines_T hT13 q13.2.1 (DOf.stab s _ _ q13.1.vk q13.lf hd)) (fun r15 q15 => ?_))
  obtain ⟨b15, l15, d15, p15⟩ := q15
  have hK15 : Keep M r15.2 := ((hK1.trans hV.keep).trans q13.1.keep).trans l15.1
  have hT15 := hT.keep hK15
  refine TT.join (fun t : Mem => Keep M t ∧ DOf s t) (fun t ht => ?_) (fun j hj => ?_)
  · obtain ⟨t1, t2⟩ := ht
    have hTt := hT.keep t1
    rw [wp85_3 hTt]
    refine TT.guard (wk85 hTt) (TT.join (fun z : Int => z = 0 → t.1 85 17 = 0) (fun z hz => ?_) (fun j hj => TT.ite (fun _ => hj _ (fun h => absurd h (by decide))) (fun _ => hj _ id)))
    refine TT.guard ⟨wk88 hTt, by decide, by rw [wl88 hTt]; decide⟩ (TT.sM ?_)
    refine TT.join (fun _ => True) (fun w _ => ?_) (fun j hj => TT.ite (fun _ => hj _ trivial) (fun _ => TT.ite (fun _ => hj _ trivial) (fun _ => hj _ trivial)))
    rw [show (mst t 88 0 z).1 85 4 = 89 from (wp85_4 hTt : t.1 85 4 = 89)]
    refine TT.guard ⟨(wk89 hTt : t.2.1 89 = 12), by decide, by show 0 < t.2.2.1 89; rw [wl89 hTt]; decide⟩ (TT.sM ?_)
    rw [show (mst (mst t 88 0 z) 89 0 w).1 85 3 = 88 from (wp85_3 hTt : t.1 85 3 = 88), show (mst (mst t 88 0 z) 89 0 w).1 88 0 = z from rfl]
    have hQ : RTQ M (mst (mst t 88 0 z) 89 0 w) := ⟨t1.1, fun x y c e1 e2 => by
      rw [mst_r, if_neg e2, mst_r, if_neg e1]; exact t1.2 x y c⟩
    exact TT.guard ⟨(wk88 hTt : t.2.1 88 = 12), by decide, by show 0 < t.2.2.1 88; rw [wl88 hTt]; decide⟩ (TT.ite (fun e => TT.ok ⟨Or.inr rfl, hQ, fun _ => ⟨⟨t2.1, t2.2.1, t2.2.2.1, t2.2.2.2⟩, hz e⟩⟩) (fun _ => TT.ok ⟨Or.inl rfl, hQ, fun h => absurd rfl h⟩))
  · have hs : TT (j r15.2) _ := hj r15.2 ⟨hK15, d15⟩
    refine TT.ite (fun _ => hs) (fun _ => TT.ite (fun _ => TT.guard (wk85 hT15) (TT.ite (fun _ => ?_) (fun _ => hs))) (fun _ => hs))
    rw [wp85_19 hT15]
    refine TT.guard ⟨wk95 hT15, by decide, by rw [wl95 hT15]; decide⟩ (TT.join (fun _ => True) (fun _ _ => TT.bind (later_T hT15 _ (by decide)) (fun z q => ?_)) (fun k hk => TT.ite (fun _ => TT.guard ⟨wk95 hT15, by decide, by rw [wl95 hT15]; decide⟩ (TT.ite (fun _ => hs) (fun _ => hk () trivial))) (fun _ => hk () trivial)))
    have hVz : VK r15.2 z := ⟨q.1.1, fun x y _ b => q.1.2 x y (by omega)⟩
    exact hj z ⟨hK15.trans hVz.keep, DOf.stab s _ _ hVz ⟨fun h => absurd h q.2, fun h => by rw [q.1.2 85 23 (by decide)] at h; exact h⟩ d15⟩
theorem store_T (hS : Shp M) {a w k : Int} (ka : M.2.1 a = 12) (ha : a ≠ 95) (ha2 : a ≠ 85) (w0 : 0 ≤ w) (w1 : w ≤ 161) (k0 : 0 ≤ w * k) (k1 : w * k + w ≤ M.2.2.1 a) (k2 : w * k ≤ 10000) : TT (fX11_store M 85 a w k) (fun r => r.2 = M.2 ∧ (∀ x y, x ≠ a → r.1 x y = M.1 x y) ∧ ∀ y, r.1 a y = if w * k ≤ y ∧ y < w * k + w then M.1 95 (y - w * k) else M.1 a y) := by
  unfold fX11_store
  generalize w * k = W at *
  rw [w32_of (x := W) (by omega) (by omega)]
  refine TT.iter (fun s : Int × Mem => (0 ≤ s.1 ∧ s.1 ≤ w) ∧ (s.2.2 = M.2 ∧ ∀ x y, x ≠ a → s.2.1 x y = M.1 x y) ∧ ∀ y, s.2.1 a y = if W ≤ y ∧ y < W + s.1 then M.1 95 (y - W) else M.1 a y) (fun s => (w - s.1).toNat) ?_ BIG (0, M) ⟨⟨Int.le_refl _, by dsimp only; omega⟩, ⟨rfl, fun _ _ _ => rfl⟩, fun y => by rw [if_neg (by dsimp only; omega)]⟩ (by unfold BIG; dsimp only; omega)
  rintro rec ⟨i, N⟩ ⟨⟨i0, i1⟩, ⟨hN, hfr⟩, hc⟩ hr
  simp only at i0 i1 hN hfr hc ⊢
  have kN : N.2.1 = M.2.1 := by rw [hN]
  have lN : N.2.2.1 = M.2.2.1 := by rw [hN]
  have p19 : N.1 85 19 = 95 := by rw [hfr 85 19 (fun e => ha2 e.symm)]; exact sp85_19 hS
  rw [p19]
  refine TT.ite (fun c2 => ?_) (fun c2 => TT.ok ⟨hN, hfr, fun y => by rw [hc y, show i = w by omega]⟩)
  rw [w32_of (x := W + i) (by omega) (by omega)]
  refine TT.guard (by rw [kN]; exact sk85 hS) (TT.guard ⟨by rw [kN]; exact sk95 hS, i0, by rw [lN, sl95 hS]; omega⟩ (TT.guard ⟨by rw [kN]; exact ka, by omega, by rw [lN]; omega⟩ (TT.sM (hr _ ⟨⟨?_, ?_⟩, ⟨hN, fun x y hx => ?_⟩, fun y => ?_⟩ ?_))))
  · show 0 ≤ w32 (i + 1)
    rw [w32_of (by omega) (by omega)]; omega
  · show w32 (i + 1) ≤ w
    rw [w32_of (by omega) (by omega)]; omega
  · show (mst _ a _ _).1 x y = _
    rw [mst_ne _ _ _ _ _ _ hx, hfr x y hx]
  · show (mst _ a _ _).1 a y = if W ≤ y ∧ y < W + w32 (i + 1) then _ else _
    rw [mst_r, w32_of (x := i + 1) (by omega) (by omega)]
    by_cases hy : y = W + i
    · subst hy
      rw [if_pos ⟨rfl, rfl⟩, if_pos (by omega), hfr 95 _ (fun e => ha e.symm), show W + i - W = i by omega]
    · rw [if_neg (fun q => hy q.2), hc y]
      by_cases hq : W ≤ y ∧ y < W + i
      · rw [if_pos hq, if_pos (by omega)]
      · rw [if_neg hq, if_neg (by omega)]
  · show (w - w32 (i + 1)).toNat < (w - i).toNat
    rw [w32_of (by omega) (by omega)]; omega
/-! rows of numbers: a block comes from elsewhere -/
def blkB (L L' : L5) (a c lo W sh : Int) : Bool := L.all fun p => decide (p.1 ≠ a) || decide (p.2.2.1 < lo) || decide (lo + W ≤ p.2.1) || (decide (lo ≤ p.2.1) && decide (p.2.2.1 < lo + W) && L'.any fun p' => decide (p'.1 = c) && decide (p'.2.1 ≤ p.2.1 - lo + sh) && decide (p.2.2.1 - lo + sh ≤ p'.2.2.1) && decide (p.2.2.2.1 ≤ p'.2.2.2.1) && decide (p'.2.2.2.2 ≤ p.2.2.2.2))
theorem rows_blk {M N : Mem} {L L' : L5} {a c lo W sh : Int} (hM : rows M L) (hM' : rows M L') (hN : ∀ y, N.1 a y = if lo ≤ y ∧ y < lo + W then M.1 c (y - lo + sh) else M.1 a y) (chk : blkB L L' a c lo W sh = true) {p : Int × Int × Int × Int × Int} (hp : p ∈ L) (ha : p.1 = a) (i : Int) (h1 : p.2.1 ≤ i) (h2 : i ≤ p.2.2.1) : p.2.2.2.1 ≤ N.1 p.1 i ∧ N.1 p.1 i ≤ p.2.2.2.2 := by
  have g := List.all_eq_true.mp chk p hp
  simp only [Bool.or_eq_true, Bool.and_eq_true, decide_eq_true_eq, List.any_eq_true] at g
  rw [ha, hN i]
  rcases g with ((g | g) | g) | ⟨⟨g1, g2⟩, p', hp', ⟨⟨⟨g3, g4⟩, g5⟩, g6⟩, g7⟩
  · exact absurd ha g
  · rw [if_neg (by omega), ← ha]; exact hM p hp i h1 h2
  · rw [if_neg (by omega), ← ha]; exact hM p hp i h1 h2
  · rw [if_pos (by omega), ← g3]
    have := hM' p' hp' (i - lo + sh) (by omega) (by omega)
    omega
end RefY
