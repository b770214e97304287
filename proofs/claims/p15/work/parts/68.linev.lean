/-! a line, as both readers have it -/
section LineS
variable {M N : Mem} {T : Int → Int} {n i : Int}
def nt (q pl : Int) (fp : Int × Int) : Int × Int := if fp.1 = 0 then (q, pl) else fp
def badB (l k v v0 : Int) : Bool := decide (v < lo3 l k) || decide (hi3 l k < v) || ((decide (l = 7) || decide (l = 14)) && decide (k = 1) && decide (v = v0))
def fullB (l : Int) (D : Int → Int) : Bool := (decide (l = 8) && decide (4 ≤ D 1)) || (decide (12 ≤ l) && decide (l ≤ 15) && decide (40 ≤ D 0)) || (decide (l = 16) && decide (8 ≤ D 0))
def nmL (l : Int) : Int := (sTab 1).getD l.toNat 0
def tP (T : Int → Int) (n i : Int) : Nat → Int
  | 0 => i
  | k + 1 => tE T n (tP T n i k)
def fpN (T : Int → Int) (n l i : Int) (fp0 : Int × Int) : Nat → Int × Int
  | 0 => fp0
  | k + 1 => if badB l k (tV T n (tP T n i (k + 1))) (tV T n (tP T n i 1)) = true then nt 2 (tS T n (tP T n i (k + 1))) (fpN T n l i fp0 k) else fpN T n l i fp0 k
def mx (a b : Int) : Int := if a < b then b else a
def up (D : Int → Int) (j v : Int) : Int → Int := fun y => if y = j then v else D y
def updL (l : Int) (v0 v1 v2 : Int) (D : Int → Int) : Int → Int :=
  if l = 0 then up D 0 v0
  else if l = 1 then up D (2 + 5 * v0 + v1) v2
  else if l = 2 then up D (32 + 5 * v0 + v1) v2
  else if l = 3 then up D (62 + v0) v1
  else if l = 4 then up D (68 + v0) v1
  else if l = 5 then up D (74 + v0) v1
  else if l = 6 then up D (79 + v0) v1
  else if l = 7 then up D (88 + v0) v1
  else if l = 8 then up (up D (84 + D 1) v0) 1 (D 1 + 1)
  else if l = 9 then up D 0 v0
  else if l = 10 then up D 1 v0
  else if l = 11 then up D 2 (bOr (D 2) (bShl 1 v0))
  else if l = 15 then up (up (up (up (up D (1 + 4 * D 0) 3) (2 + 4 * D 0) (-1)) (3 + 4 * D 0) (-1)) (4 + 4 * D 0) (-1)) 0 (D 0 + 1)
  else if l < 15 then up (up (up (up (up D (1 + 4 * D 0) (l - 12)) (2 + 4 * D 0) v0) (3 + 4 * D 0) v1) (4 + 4 * D 0) v2) 0 (D 0 + 1)
  else if l = 16 then up (up (up D (1 + 2 * D 0) v0) (2 + 2 * D 0) v1) 0 (D 0 + 1)
  else up D (17 + 5 * v0 + v1) v2
def upH (l v0 v1 th : Int) : Int := if l = 1 ∨ l = 2 ∨ l = 3 then mx th v0 else if l = 4 then mx (mx th v1) v0 else th
def upT (l v0 v1 tt : Int) : Int := if l = 7 then mx tt (mx v0 v1) else tt
/-- where a text's reading stands: the token's place, the first fault, what is read, the topmost house and thief -/
abbrev RSt : Type := Int × (Int × Int) × (Int → Int) × Int × Int
def fp0 (T : Int → Int) (n s : Int) (σ : RSt) : Int × Int := if fullB (lnIx T n σ.1 s) σ.2.2.1 = true then nt 3 (tS T n σ.1) σ.2.1 else σ.2.1
def fpL (T : Int → Int) (n s : Int) (σ : RSt) : Int × Int := fpN T n (lnIx T n σ.1 s) σ.1 (fp0 T n s σ) (nmL (lnIx T n σ.1 s)).toNat
def vv (T : Int → Int) (n i : Int) (k : Nat) : Int := tV T n (tP T n i (k + 1))
/-- behind one line -/
def nxL (T : Int → Int) (n s : Int) (σ : RSt) : RSt :=
  (tP T n σ.1 ((nmL (lnIx T n σ.1 s)).toNat + 2), fpL T n s σ,
   if (fpL T n s σ).1 = 0 then updL (lnIx T n σ.1 s) (vv T n σ.1 0) (vv T n σ.1 1) (vv T n σ.1 2) σ.2.2.1 else σ.2.2.1,
   if (fpL T n s σ).1 = 0 then upH (lnIx T n σ.1 s) (vv T n σ.1 0) (vv T n σ.1 1) σ.2.2.2.1 else σ.2.2.2.1,
   if (fpL T n s σ).1 = 0 then upT (lnIx T n σ.1 s) (vv T n σ.1 0) (vv T n σ.1 1) σ.2.2.2.2 else σ.2.2.2.2)
/-- the first k numbers of a line stand -/
def okN (T : Int → Int) (n i : Int) (k : Nat) : Prop := ∀ j : Nat, 1 ≤ j → j ≤ k → tK T n (tP T n i j) = 2
/-- the line is one -/
def CL1 (T : Int → Int) (n s : Int) (σ : RSt) : Prop := tK T n σ.1 = 1 ∧ lnIx T n σ.1 s ≠ -1 ∧ okN T n σ.1 (nmL (lnIx T n σ.1 s)).toNat ∧ tK T n (tP T n σ.1 ((nmL (lnIx T n σ.1 s)).toNat + 1)) = 3
/-- where it breaks off -/
def BRK (T : Int → Int) (n s : Int) (σ : RSt) (pl : Int) : Prop := ((tK T n σ.1 ≠ 1 ∨ lnIx T n σ.1 s = -1) ∧ pl = tS T n σ.1) ∨ (tK T n σ.1 = 1 ∧ lnIx T n σ.1 s ≠ -1 ∧ ∃ k : Nat, okN T n σ.1 k ∧ (((k : Int) < nmL (lnIx T n σ.1 s) ∧ tK T n (tP T n σ.1 (k + 1)) ≠ 2) ∨ ((k : Int) = nmL (lnIx T n σ.1 s) ∧ tK T n (tP T n σ.1 (k + 1)) ≠ 3)) ∧ pl = tS T n (tP T n σ.1 (k + 1)))
theorem BRK.uniq {s pl pl' : Int} {σ : RSt} (h : BRK T n s σ pl) (g : BRK T n s σ pl') : pl = pl' := by
  rcases h with ⟨h1, h2⟩ | ⟨h1, h2, k, h3, h4, h5⟩
  · rcases g with ⟨_, g2⟩ | ⟨g1, g2, _⟩
    · rw [h2, g2]
    · exact (h1.elim (fun z => z g1) (fun z => g2 z)).elim
  · rcases g with ⟨g1, _⟩ | ⟨g1, g2, k', g3, g4, g5⟩
    · exact (g1.elim (fun z => z h1) (fun z => h2 z)).elim
    · have e : k = k' := by
        rcases Nat.lt_trichotomy k k' with q | q | q
        · exfalso
          have := g3 (k + 1) (by omega) (by omega)
          rcases h4 with h4 | h4
          · exact h4.2 this
          · rcases g4 with g4 | g4 <;> omega
        · exact q
        · exfalso
          have := h3 (k' + 1) (by omega) (by omega)
          rcases g4 with g4 | g4
          · exact g4.2 this
          · rcases h4 with h4 | h4 <;> omega
      rw [h5, g5, e]
theorem BRK.not {s pl : Int} {σ : RSt} (h : BRK T n s σ pl) : ¬ CL1 T n s σ := by
  rintro ⟨c1, c2, c3, c4⟩
  rcases h with ⟨h1, _⟩ | ⟨h1, h2, k, h3, h4, h5⟩
  · exact h1.elim (fun z => z c1) (fun z => c2 z)
  · rcases h4 with h4 | h4
    · exact h4.2 (c3 (k + 1) (by omega) (by omega))
    · have e : (nmL (lnIx T n σ.1 s)).toNat = k := by omega
      rw [e] at c4
      exact h4.2 c4
theorem tP_le (h : i ≤ n) : ∀ k : Nat, tP T n i k ≤ n ∧ i ≤ tP T n i k
  | 0 => ⟨h, Int.le_refl _⟩
  | k + 1 => by
    have g := tP_le h k
    refine ⟨tE_n g.1, ?_⟩
    have a := @tS_le T n (tP T n i k)
    have b : tS T n (tP T n i k) ≤ tE T n (tP T n i k) := by
      by_cases c : tK T n (tP T n i k) = 0
      · unfold tK at c
        unfold tE
        by_cases z : n ≤ tS T n (tP T n i k)
        · rw [if_pos z]; exact Int.le_refl _
        · exfalso
          rw [if_neg z] at c
          by_cases y : isL (T (tS T n (tP T n i k))) = true
          · rw [if_pos y] at c; omega
          · rw [if_neg y] at c
            by_cases x : isD (T (tS T n (tP T n i k))) = true
            · rw [if_pos x] at c
              split at c <;> omega
            · rw [if_neg x] at c
              split at c <;> omega
      · have := tE_gt c; omega
    show i ≤ tE T n (tP T n i k)
    omega
/-! the class: one number -/
theorem readNumber_V (hT : WT M) {l k : Int} (l0 : 0 ≤ l) (l1 : l < 18) (k0 : 0 ≤ k) (k3 : k < 3) : TT (fX3_readNumber M 47 l k) (fun r => (r.2 = M.2 ∧ ∀ x y, x ≠ 67 → (x ≠ 47 ∨ (y ≠ 0 ∧ y ≠ 1)) → r.1 x y = M.1 x y) ∧ r.1 67 k = M.1 47 11 ∧ (∀ j, j ≠ k → r.1 67 j = M.1 67 j) ∧ (r.1 47 0, r.1 47 1) = if badB l k (M.1 47 11) (M.1 67 0) = true then nt 2 (M.1 47 10) (M.1 47 0, M.1 47 1) else (M.1 47 0, M.1 47 1)) := by
  unfold fX3_readNumber
  rw [w32_of (x := 3 * l) (by omega) (by omega), w32_of (x := 3 * l + k) (by omega) (by omega), wp47_12 hT]
  have e3 : (sTab 2).getD (3 * l + k).toNat 0 = lo3 l k := rfl
  have e4 : (sTab 3).getD (3 * l + k).toNat 0 = hi3 l k := rfl
  rw [e3, e4]
  refine TT.join (fun t : Int => t = if (l = 7 ∨ l = 14) ∧ k = 1 ∧ M.1 47 11 = M.1 67 0 then 1 else 0) (fun t2 ht2 => ?_) (fun j1 hj1 => TT.join (fun _ => ¬((l = 7 ∨ l = 14) ∧ k = 1 ∧ M.1 47 11 = M.1 67 0)) (fun _ h => hj1 _ (by rw [if_neg h])) (fun j19 hj19 => TT.join (fun _ => l = 7 ∨ l = 14) (fun _ hl => TT.ite (fun ck => TT.guard (wk47 hT) (TT.guard ⟨wk67 hT, by decide, by rw [wl67 hT]; decide⟩ (TT.ite (fun ce => hj1 _ (by rw [if_pos ⟨hl, ck, ce⟩])) (fun ce => hj19 () (fun q => ce q.2.2))))) (fun ck => hj19 () (fun q => ck q.2.1))) (fun j21 hj21 => TT.ite (fun c => hj21 () (Or.inl c)) (fun c7 => TT.ite (fun c => hj21 () (Or.inr c)) (fun c14 => hj19 () (fun q => q.1.elim c7 c14))))))
  refine TT.guard (wk47 hT) (TT.guard (by omega) ?_)
  have bad_y : ∀ (z : M.1 47 11 < lo3 l k ∨ hi3 l k < M.1 47 11 ∨ t2 ≠ 0), badB l k (M.1 47 11) (M.1 67 0) = true := by
    intro z
    unfold badB
    simp only [Bool.or_eq_true, Bool.and_eq_true, decide_eq_true_eq]
    rcases z with z | z | z
    · exact Or.inl (Or.inl z)
    · exact Or.inl (Or.inr z)
    · right
      by_cases q : (l = 7 ∨ l = 14) ∧ k = 1 ∧ M.1 47 11 = M.1 67 0
      · exact ⟨⟨q.1, q.2.1⟩, q.2.2⟩
      · rw [if_neg q] at ht2; exact absurd ht2 z
  have bad_n : ¬ M.1 47 11 < lo3 l k → ¬ hi3 l k < M.1 47 11 → t2 = 0 → ¬ badB l k (M.1 47 11) (M.1 67 0) = true := by
    intro z1 z2 z3 z4
    unfold badB at z4
    simp only [Bool.or_eq_true, Bool.and_eq_true, decide_eq_true_eq] at z4
    rcases z4 with (z4 | z4) | z4
    · exact z1 z4
    · exact z2 z4
    · rw [if_pos ⟨z4.1.1, z4.1.2, z4.2⟩] at ht2; omega
  refine TT.join (fun t : Mem => (t.2 = M.2 ∧ ∀ x y, (x ≠ 47 ∨ (y ≠ 0 ∧ y ≠ 1)) → t.1 x y = M.1 x y) ∧ (t.1 47 0, t.1 47 1) = if badB l k (M.1 47 11) (M.1 67 0) = true then nt 2 (M.1 47 10) (M.1 47 0, M.1 47 1) else (M.1 47 0, M.1 47 1)) (fun t ht => ?_) (fun j5 hj5 => TT.join (fun _ => badB l k (M.1 47 11) (M.1 67 0) = true) (fun _ hb => TT.bind (P := fun r => (r.2 = M.2 ∧ ∀ x y, (x ≠ 47 ∨ (y ≠ 0 ∧ y ≠ 1)) → r.1 x y = M.1 x y) ∧ (r.1 47 0, r.1 47 1) = nt 2 (M.1 47 10) (M.1 47 0, M.1 47 1)) ?_ (fun r q => hj5 r ⟨q.1, by rw [if_pos hb]; exact q.2⟩)) (fun j11 hj11 => TT.ite (fun c => hj11 () (bad_y (Or.inl c))) (fun c1 => TT.guard (by omega) (TT.ite (fun c => hj11 () (bad_y (Or.inr (Or.inl c)))) (fun c2 => TT.ite (fun c3 => hj5 M ⟨⟨rfl, fun _ _ _ => rfl⟩, by rw [if_neg (bad_n c1 c2 c3)]⟩) (fun c3 => hj11 () (bad_y (Or.inr (Or.inr c3)))))))))
  · obtain ⟨⟨t1, t2⟩, t3⟩ := ht
    have hTt : WT t := KD.wt (M := M) ⟨t1, fun x y q _ _ => t2 x y (by
      by_cases c : x = 47 ∧ (y = 0 ∨ y = 1)
      · exfalso
        rw [c.1, scr47 (by omega)] at q; cases q
      · omega)⟩ hT
    rw [wp47_12 hTt]
    refine TT.guard (wk47 hTt) (TT.guard ⟨wk67 hTt, k0, by rw [wl67 hTt]; exact k3⟩ (TT.sM (TT.ok ⟨⟨t1, fun x y a b => ?_⟩, ?_, fun j hj => ?_, t3⟩)))
    · rw [mst_ne _ _ _ _ _ _ a]; exact t2 x y b
    · rw [mst_at]; exact t2 47 11 (by decide)
    · rw [mst_nf _ _ _ _ _ _ hj]; exact t2 67 j (Or.inl (by decide))
  · unfold fX3_note nt
    refine TT.guard (wk47 hT) (TT.ite (fun c => TT.sM (TT.sM (TT.ok ⟨⟨rfl, fun x y h => ?_⟩, ?_⟩))) (fun c => TT.ok ⟨⟨rfl, fun _ _ _ => rfl⟩, ?_⟩))
    · rw [mst_r, if_neg (by omega), mst_r, if_neg (by omega)]
    · rw [if_pos c]; rfl
    · rw [if_neg c]
end LineS
