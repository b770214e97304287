/-! the reference: lines as the spec has them -/
section RefL
variable {M N : Mem} {T : Int → Int} {n i : Int}
/-- within a line, k numbers taken -/
def LPr (T : Int → Int) (n s : Int) (σ : RSt) (l : Int) (k : Nat) (sh th tt : Int) (D : Int → Int) (M : Mem) : Prop := (M.1 86 = T ∧ M.1 85 11 = n ∧ BY M) ∧ TokY T n (tP T n σ.1 (k + 1)) M ∧ okN T n σ.1 k ∧ FR (fpN T n l σ.1 (fp0 T n s σ) k) M (tS T n (tP T n σ.1 (k + 1))) ∧ (∀ j : Nat, j < k → M.1 96 (sh + j) = vv T n σ.1 j) ∧ ((fpN T n l σ.1 (fp0 T n s σ) k).1 = 0 → M.1 85 23 ≠ 0 ∧ (∀ y, 0 ≤ y → y < 161 → M.1 95 y = D y) ∧ M.1 85 21 = th ∧ M.1 85 22 = tt)
/-- how a line ends -/
def LO (T : Int → Int) (n s : Int) (σ : RSt) (r : Int × Mem) : Prop := (r.1 = 0 ∧ BRK T n s σ (r.2.1 85 16)) ∨ (r.1 = 1 ∧ tK T n σ.1 = 1 ∧ lnIx T n σ.1 s ≠ -1 ∧ ∃ sh : Int, LPr T n s σ (lnIx T n σ.1 s) (nmL (lnIx T n σ.1 s)).toNat sh (upH (lnIx T n σ.1 s) (vv T n σ.1 0) (vv T n σ.1 1) σ.2.2.2.1) (upT (lnIx T n σ.1 s) (vv T n σ.1 0) (vv T n σ.1 1) σ.2.2.2.2) (updL (lnIx T n σ.1 s) (vv T n σ.1 0) (vv T n σ.1 1) (vv T n σ.1 2) σ.2.2.1) r.2)
theorem TT.tkv {s : Int} {σ : RSt} {l sh th th' tt lo hi bt h21 : Int} {k : Nat} {D : Int → Int} {X : Option (Int × Mem)} {g : Int × Mem → Option (Int × Mem)} (hl : l = lnIx T n σ.1 s) (hc : tK T n σ.1 = 1) (hne : l ≠ -1) (hk : (k : Int) < nmL l) (hT : WT M) (hL : LPr T n s σ l k sh th tt D M)
    (hX : TT X (TakeQ M (sh + k) lo hi)) (hV : TT X (fun r => TkV M (sh + k) lo hi bt (tP T n σ.1 (k + 1)) (fpN T n l σ.1 (fp0 T n s σ) k) r ∧ (r.1 = 1 → r.2.1 85 21 = h21) ∧ r.2.1 85 22 = M.1 85 22))
    (hb : tK T n (tP T n σ.1 (k + 1)) = 2 → badR (tV T n (tP T n σ.1 (k + 1))) lo hi bt = badB l k (tV T n (tP T n σ.1 (k + 1))) (tV T n (tP T n σ.1 1))) (hth : tK T n (tP T n σ.1 (k + 1)) = 2 → M.1 85 21 = th → h21 = th')
    (rest : ∀ r : Int × Mem, WT r.2 → PT r.2 → LPr T n s σ l (k + 1) sh th' tt D r.2 → TakeR M (sh + k) lo hi r.2 → TT (g r) (LO T n s σ)) : TT (X.bind fun r => if r.1 = 0 then some (0, r.2) else g r) (LO T n s σ) := by
  refine TT.bind (TT.and hX hV) (fun r q => ?_)
  obtain ⟨qT, qV, q21, q22⟩ := q
  obtain ⟨⟨e86, e11, hby⟩, lX, lok, lF, lv, lD⟩ := hL
  unfold TkV at qV
  rw [e86, e11] at qV
  rcases qV with ⟨z1, z2, z3⟩ | ⟨z1, z2, z3, z4, z5, z6⟩
  · exact TT.pos z2 (TT.ok (Or.inl ⟨rfl, Or.inr ⟨hc, by rw [← hl]; exact hne, k, lok, by rw [← hl]; exact Or.inl ⟨hk, z1⟩, z3⟩⟩))
  · refine TT.neg (by rw [z2]; decide) ?_
    obtain ⟨g1, g2, g3, g4⟩ := qT.2.2.2 (by rw [z2]; decide)
    have hVK := qT.2.1.1
    have f86 : r.2.1 86 = T := by rw [← e86]; exact funext fun y => hVK.2 86 y (by decide) (Or.inl (by decide))
    have f11 : r.2.1 85 11 = n := (hVK.2 85 11 (by decide) (by decide)).trans e11
    have fby : BY r.2 := fun j a b => by
      rw [f86]; rw [f11] at b
      have := hby j a (by rw [e11]; exact b)
      rw [e86] at this; exact this
    have eF : fpN T n l σ.1 (fp0 T n s σ) (k + 1) = if badR (tV T n (tP T n σ.1 (k + 1))) lo hi bt = true then nt 2 (tS T n (tP T n σ.1 (k + 1))) (fpN T n l σ.1 (fp0 T n s σ) k) else fpN T n l σ.1 (fp0 T n s σ) k := by
      rw [hb z1]; rfl
    have ge := @tE_gt T n (tP T n σ.1 (k + 1)) (by rw [z1]; decide)
    have sl := @tS_le T n (tE T n (tP T n σ.1 (k + 1)))
    refine rest r (hT.keep hVK.keep) g1 ⟨⟨f86, f11, fby⟩, z4, fun j j1 j2 => ?_, ?_, fun j hj => ?_, fun e => ?_⟩ ⟨g2, g3, g4, qT.2.1.2, fun y => hVK.2 95 y (by decide) (Or.inl (by decide))⟩
    · by_cases w : j = k + 1
      · rw [w]; exact z1
      · exact lok j j1 (by omega)
    · rw [eF]
      exact z5.up (by show _ ≤ tS T n (tE T n (tP T n σ.1 (k + 1))); omega)
    · by_cases w : j = k
      · rw [w]; exact z3
      · rw [g3 _ (by omega)]; exact lv j (by omega)
    · rw [eF] at e
      by_cases w : badR (tV T n (tP T n σ.1 (k + 1))) lo hi bt = true
      · exfalso
        rw [if_pos w] at e
        unfold nt at e
        by_cases v : (fpN T n l σ.1 (fp0 T n s σ) k).1 = 0
        · rw [if_pos v] at e
          have e' : (2 : Int) = 0 := e
          omega
        · rw [if_neg v] at e; exact v e
      · rw [if_neg w] at e
        obtain ⟨u1, u2, u3, u4⟩ := lD e
        refine ⟨by rw [z6 w]; exact u1, fun y a b => ?_, ?_, q22.trans u4⟩
        · rw [hVK.2 95 y (by decide) (Or.inl (by decide))]; exact u2 y a b
        · rw [q21 z2]; exact hth z1 u3
theorem bad_no {l k v v0 lo hi : Int} (hv : 0 ≤ v) (h1 : lo3 l k = lo) (h2 : hi3 l k = hi) (h3 : ¬((l = 7 ∨ l = 14) ∧ k = 1)) : badR v lo hi (-1) = badB l k v v0 := by
  unfold badR badB
  rw [h1, h2, decide_eq_false (show ¬ v = -1 by omega), Bool.or_false]
  have : ((decide (l = 7) || decide (l = 14)) && decide (k = 1) && decide (v = v0)) = false := by
    simp only [Bool.and_eq_false_iff, Bool.or_eq_false_iff, decide_eq_false_iff_not]
    omega
  rw [this, Bool.or_false]
theorem bad_son {l v v0 lo hi : Int} (hl : l = 7 ∨ l = 14) (h1 : lo3 l 1 = lo) (h2 : hi3 l 1 = hi) : badR v lo hi v0 = badB l 1 v v0 := by
  unfold badR badB
  rw [h1, h2]
  have : (decide (l = 7) || decide (l = 14)) = true := by
    simp only [Bool.or_eq_true, decide_eq_true_eq]; exact hl
  rw [this, decide_eq_true (show (1 : Int) = 1 from rfl), Bool.true_and, Bool.true_and]
theorem lay_V (hT : WT M) {j v : Int} (h : M.1 85 23 ≠ 0 → 0 ≤ j ∧ j < 161) : TT (fX11_lay M 85 j v) (fun r => (M.1 85 23 = 0 ∧ r = M) ∨ (M.1 85 23 ≠ 0 ∧ r = mst M 95 j v)) := by
  unfold fX11_lay
  rw [wp85_19 hT]
  refine TT.guard (wk85 hT) (TT.ite (fun c => TT.ok (Or.inl ⟨c, rfl⟩)) (fun c => ?_))
  exact TT.guard ⟨wk95 hT, (h c).1, by rw [wl95 hT]; exact (h c).2⟩ (TT.sM (TT.ok (Or.inr ⟨c, rfl⟩)))
/-- a cell of what is told is laid -/
theorem LPr.lay {s : Int} {σ : RSt} {l sh th tt j v : Int} {k : Nat} {D : Int → Int} {X : Option Mem} (hl : l = lnIx T n σ.1 s) (hc : tK T n σ.1 = 1) (hne : l ≠ -1) (hk : (nmL l).toNat = k) (hL : LPr T n s σ l k sh th tt D M) (hX : TT X (fun r => (M.1 85 23 = 0 ∧ r = M) ∨ (M.1 85 23 ≠ 0 ∧ r = mst M 95 j v)))
    (hD : updL l (vv T n σ.1 0) (vv T n σ.1 1) (vv T n σ.1 2) σ.2.2.1 = up D j v) (h1 : upH l (vv T n σ.1 0) (vv T n σ.1 1) σ.2.2.2.1 = th) (h2 : upT l (vv T n σ.1 0) (vv T n σ.1 1) σ.2.2.2.2 = tt) : TT (X.bind fun r => some (1, r)) (LO T n s σ) := by
  refine TT.bind hX (fun r q => TT.ok (Or.inr ⟨rfl, hc, by rw [← hl]; exact hne, sh, ?_⟩))
  rw [← hl, hk, hD, h1, h2]
  obtain ⟨⟨e86, e11, hby⟩, lX, lok, lF, lv, lD⟩ := hL
  rcases q with ⟨q1, q2⟩ | ⟨q1, q2⟩
  · rw [q2]
    exact ⟨⟨e86, e11, hby⟩, lX, lok, lF, lv, fun e => absurd q1 (lD e).1⟩
  · rw [q2]
    refine ⟨⟨?_, e11, fun a b c => ?_⟩, lX, lok, lF, fun a b => ?_, fun e => ⟨(lD e).1, fun y y0 y1 => ?_, (lD e).2.2⟩⟩
    · rw [← e86]; exact funext fun y => mst_ne _ _ _ _ _ _ (by decide)
    · show -128 ≤ (mst M 95 j v).1 86 a ∧ (mst M 95 j v).1 86 a ≤ 127
      rw [mst_ne _ _ _ _ _ _ (by decide)]; exact hby a b c
    · show (mst M 95 j v).1 96 _ = _
      rw [mst_ne _ _ _ _ _ _ (by decide)]; exact lv a b
    · show (mst M 95 j v).1 95 y = up D j v y
      rw [mst_r]
      by_cases w : y = j
      · rw [if_pos ⟨rfl, w⟩, w, up_at]
      · rw [if_neg (fun x => w x.2), up_ne w]; exact (lD e).2.1 y y0 y1
theorem LPr.e {s : Int} {σ : RSt} {l sh th tt : Int} {k : Nat} {D : Int → Int} (hL : LPr T n s σ l k sh th tt D M) : M.1 86 = T ∧ M.1 85 11 = n := ⟨hL.1.1, hL.1.2.1⟩
section Lines2
variable {s : Int} {σ : RSt} {l th tt : Int}
set_option maxHeartbeats 1000000 in
theorem goodsLine_V (hT : WT M) (hp : PT M) (hl : l = lnIx T n σ.1 s) (hc : tK T n σ.1 = 1) (h12 : l = 1 ∨ l = 2) (hL : LPr T n s σ l 0 0 σ.2.2.2.1 σ.2.2.2.2 σ.2.2.1 M) {row : Int} (hrow : (l = 1 → row = 2) ∧ (l = 2 → row = 32)) : TT (fX11_goodsLine M 85 row) (LO T n s σ) := by
  unfold fX11_goodsLine
  have nm : nmL l = 3 := by rcases h12 with e | e <;> rw [e] <;> rfl
  have hne : l ≠ -1 := by omega
  have c0 : lo3 l 0 = 0 ∧ hi3 l 0 = 5 := by rcases h12 with e | e <;> rw [e] <;> exact ⟨rfl, rfl⟩
  have c1 : lo3 l 1 = 0 ∧ hi3 l 1 = 4 := by rcases h12 with e | e <;> rw [e] <;> exact ⟨rfl, rfl⟩
  have c2 : lo3 l 2 = 0 ∧ hi3 l 2 = 9 := by rcases h12 with e | e <;> rw [e] <;> exact ⟨rfl, rfl⟩
  have hX := hL.2.1
  have hF := hL.2.2.2.1
  have v1 := takeHouse_V hT hp hL.1.2.2 (i := tP T n σ.1 (0 + 1)) (k := 0 + (0 : Nat)) (by rw [hL.1.1, hL.1.2.1]; exact hX) (by rw [hL.1.1, hL.1.2.1]; exact hF) (by decide) (by decide)
  refine TT.guard (wk85 hT) (TT.tkv (th' := mx σ.2.2.2.1 (vv T n σ.1 0)) (sh := 0) (k := 0) hl hc hne (by rw [nm]; decide) hT hL (takeHouse_T hT hp (by decide) (by decide)) v1 (fun z => bad_no (tV_r z).1 c0.1 c0.2 (by omega)) (fun z e => by rw [hL.1.1, hL.1.2.1, e]; rfl) (fun r1 hT1 hp1 hL1 q1 => ?_))
  have v2 := take_V hT1 hp1 hL1.1.2.2 (i := tP T n σ.1 (1 + 1)) (k := 0 + (1 : Nat)) (lo := 0) (hi := 4) (by rw [hL1.1.1, hL1.1.2.1]; exact hL1.2.1) (by rw [hL1.1.1, hL1.1.2.1]; exact hL1.2.2.2.1) (by decide) (by decide)
  refine TT.guard (wk85 hT1) (TT.tkv (th' := mx σ.2.2.2.1 (vv T n σ.1 0)) (sh := 0) (k := 1) hl hc hne (by rw [nm]; decide) hT1 hL1 (take_T hT1 hp1 (by decide) (by decide)) (v2.mono (fun r q => ⟨q.1, fun _ => q.2.1, q.2.2⟩)) (fun z => bad_no (tV_r z).1 c1.1 c1.2 (by omega)) (fun z e => e) (fun r2 hT2 hp2 hL2 q2 => ?_))
  have v3 := take_V hT2 hp2 hL2.1.2.2 (i := tP T n σ.1 (2 + 1)) (k := 0 + (2 : Nat)) (lo := 0) (hi := 9) (by rw [hL2.1.1, hL2.1.2.1]; exact hL2.2.1) (by rw [hL2.1.1, hL2.1.2.1]; exact hL2.2.2.2.1) (by decide) (by decide)
  refine TT.guard (wk85 hT2) (TT.tkv (th' := mx σ.2.2.2.1 (vv T n σ.1 0)) (sh := 0) (k := 2) hl hc hne (by rw [nm]; decide) hT2 hL2 (take_T hT2 hp2 (by decide) (by decide)) (v3.mono (fun r q => ⟨q.1, fun _ => q.2.1, q.2.2⟩)) (fun z => bad_no (tV_r z).1 c2.1 c2.2 (by omega)) (fun z e => e) (fun r3 hT3 hp3 hL3 q3 => ?_))
  rw [wp85_20 hT3]
  have w0 : r3.2.1 96 0 = vv T n σ.1 0 := hL3.2.2.2.2.1 0 (by decide)
  have w1 : r3.2.1 96 1 = vv T n σ.1 1 := hL3.2.2.2.2.1 1 (by decide)
  have w2 : r3.2.1 96 2 = vv T n σ.1 2 := hL3.2.2.2.2.1 2 (by decide)
  have b0 := tV_r (hL3.2.2.1 1 (by decide) (by decide))
  have b1 := tV_r (hL3.2.2.1 2 (by decide) (by decide))
  rw [w0, w1, w2]
  have hv0 : 0 ≤ vv T n σ.1 0 ∧ vv T n σ.1 0 ≤ 99 := b0
  have hv1 : 0 ≤ vv T n σ.1 1 ∧ vv T n σ.1 1 ≤ 99 := b1
  have hr : 2 ≤ row ∧ row ≤ 32 := by omega
  rw [w32_of (x := 5 * vv T n σ.1 0) (by omega) (by omega), w32_of (x := row + 5 * vv T n σ.1 0) (by omega) (by omega), w32_of (x := row + 5 * vv T n σ.1 0 + vv T n σ.1 1) (by omega) (by omega)]
  refine TT.guard (wk85 hT3) (TT.guard (rd_g hT3 (by decide) (by decide)) (TT.guard (rd_g hT3 (by decide) (by decide)) (TT.guard (rd_g hT3 (by decide) (by decide)) (LPr.lay hl hc hne (by rw [nm]; rfl) hL3 (lay_V hT3 (fun hg => ?_)) ?_ ?_ ?_))))
  · have g2 := q3.2.2.2.1.2 hg
    have g1 := q2.2.2.2.1.2 g2
    have r1v := q1.2.2.1 (Or.inr g1)
    have r2v := q2.2.2.1 (Or.inr g2)
    have e1 : r1.2.1 96 0 = vv T n σ.1 0 := hL1.2.2.2.2.1 0 (by decide)
    have e2 : r2.2.1 96 1 = vv T n σ.1 1 := hL2.2.2.2.2.1 1 (by decide)
    have r1v' : 0 ≤ r1.2.1 96 0 ∧ r1.2.1 96 0 ≤ 5 := r1v
    have r2v' : 0 ≤ r2.2.1 96 1 ∧ r2.2.1 96 1 ≤ 4 := r2v
    omega
  · rcases h12 with e | e
    · rw [e, uL_1, hrow.1 e]
    · rw [e, uL_2, hrow.2 e]
  · unfold upH
    rw [if_pos (by omega)]
  · unfold upT
    rw [if_neg (by omega)]
end Lines2
end RefL
