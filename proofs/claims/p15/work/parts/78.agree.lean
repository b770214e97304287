/-! two tapes of the same bytes: the same text -/
section Agree
variable {T T' : Int → Int} {n i : Int}
theorem wmB_congr (h : ∀ j, 0 ≤ j → j < n → T j = T' j) {j m : Int} (j0 : 0 ≤ j) (jm : j + m ≤ n) (l : Nat) : wmB T j m l = wmB T' j m l := by
  refine Bool.eq_iff_iff.mpr ?_
  rw [wmB_iff, wmB_iff]
  constructor
  · rintro ⟨a, b⟩
    exact ⟨a, fun k hk => by rw [← h (j + k) (by omega) (by omega)]; exact b k hk⟩
  · rintro ⟨a, b⟩
    exact ⟨a, fun k hk => by rw [h (j + k) (by omega) (by omega)]; exact b k hk⟩
theorem lnF_congr (h : ∀ j, 0 ≤ j → j < n → T j = T' j) {j m : Int} (j0 : 0 ≤ j) (jm : j + m ≤ n) : ∀ (k : Nat) (l v : Int), lnF T j m k l v = lnF T' j m k l v
  | 0, _, _ => rfl
  | k + 1, l, v => by
    unfold lnF
    rw [wmB_congr h j0 jm, lnF_congr h j0 jm k]
theorem lnIx_congr (h : ∀ j, 0 ≤ j → j < n → T j = T' j) (hi : 0 ≤ i) (hn : i ≤ n) (s : Int) : lnIx T n i s = lnIx T' n i s := by
  unfold lnIx
  rw [← tS_congr h hi, ← tE_congr h hi]
  have a := @tS_le T n i
  have b := @tE_n T n i hn
  exact lnF_congr h (by omega) (by omega) 18 _ _
theorem tP_congr (h : ∀ j, 0 ≤ j → j < n → T j = T' j) (hi : 0 ≤ i) (hn : i ≤ n) : ∀ k : Nat, tP T n i k = tP T' n i k
  | 0 => rfl
  | k + 1 => by
    show tE T n (tP T n i k) = tE T' n (tP T' n i k)
    rw [← tP_congr h hi hn k]
    have b := tP_le (T := T) hn k
    exact tE_congr h (by omega)
theorem tV_cg (h : ∀ j, 0 ≤ j → j < n → T j = T' j) (hi : 0 ≤ i) (hn : i ≤ n) (hk : tK T n i ≠ 0) : tV T n i = tV T' n i := by
  have g := tE_gt hk
  have e := @tE_n T n i hn
  have s := @tS_le T n i
  unfold tV
  rw [← tS_congr h hi, ← tE_congr h hi, h (tS T n i) (by omega) (by omega)]
  by_cases c : tE T n i - tS T n i = 1
  · rw [if_pos c, if_pos c]
  · rw [if_neg c, if_neg c, h (tS T n i + 1) (by omega) (by omega)]
theorem tKP_congr (h : ∀ j, 0 ≤ j → j < n → T j = T' j) (hi : 0 ≤ i) (hn : i ≤ n) (k : Nat) : tK T n (tP T n i k) = tK T' n (tP T' n i k) := by
  rw [← tP_congr h hi hn k]
  have b := tP_le (T := T) hn k
  exact tK_congr h (by omega)
theorem okN_congr (h : ∀ j, 0 ≤ j → j < n → T j = T' j) (hi : 0 ≤ i) (hn : i ≤ n) {k : Nat} (g : okN T n i k) : okN T' n i k := fun j a b => by
  rw [← tKP_congr h hi hn j]; exact g j a b
theorem tVP_congr (h : ∀ j, 0 ≤ j → j < n → T j = T' j) (hi : 0 ≤ i) (hn : i ≤ n) {k : Nat} (g : tK T n (tP T n i k) ≠ 0) : tV T n (tP T n i k) = tV T' n (tP T' n i k) := by
  rw [← tP_congr h hi hn k]
  have b := tP_le (T := T) hn k
  exact tV_cg h (by omega) b.1 g
theorem tSP_congr (h : ∀ j, 0 ≤ j → j < n → T j = T' j) (hi : 0 ≤ i) (hn : i ≤ n) (k : Nat) : tS T n (tP T n i k) = tS T' n (tP T' n i k) := by
  rw [← tP_congr h hi hn k]
  have b := tP_le (T := T) hn k
  exact tS_congr h (by omega)
theorem fpN_congr (h : ∀ j, 0 ≤ j → j < n → T j = T' j) (hi : 0 ≤ i) (hn : i ≤ n) {l : Int} {fp : Int × Int} : ∀ k : Nat, okN T n i k → fpN T n l i fp k = fpN T' n l i fp k
  | 0, _ => rfl
  | k + 1, g => by
    have e1 := tVP_congr h hi hn (k := k + 1) (by rw [g (k + 1) (by omega) (by omega)]; decide)
    have e2 := tVP_congr h hi hn (k := 1) (by rw [g 1 (by omega) (by omega)]; decide)
    have e3 := tSP_congr h hi hn (k + 1)
    have e4 := fpN_congr h hi hn (l := l) (fp := fp) k (fun j a b => g j a (by omega))
    unfold fpN
    rw [e1, e2, e3, e4]
theorem ln_b {s : Int} (s0 : 0 ≤ s) (s4 : s < 4) (h : lnIx T n i s ≠ -1) : 0 ≤ lnIx T n i s ∧ lnIx T n i s < 18 := by
  have lb := (@lnIx_sp T n i s s0 s4).resolve_left (fun x => h x.1)
  have fb := FL_b s0 s4
  omega
theorem nxL_congr (h : ∀ j, 0 ≤ j → j < n → T j = T' j) {s : Int} (s0 : 0 ≤ s) (s4 : s < 4) {σ : RSt} (hi : 0 ≤ σ.1) (hn : σ.1 ≤ n) (g : CL1 T n s σ) : nxL T n s σ = nxL T' n s σ := by
  obtain ⟨_, g2, g3, _⟩ := g
  have lb := ln_b s0 s4 g2
  have eL := lnIx_congr h hi hn s
  have eF : fpL T n s σ = fpL T' n s σ := by
    unfold fpL fp0
    rw [← eL, ← tS_congr h hi]
    exact fpN_congr h hi hn _ g3
  have hv : ∀ k : Nat, (k : Int) < nmL (lnIx T n σ.1 s) → vv T n σ.1 k = vv T' n σ.1 k := fun k hk => tVP_congr h hi hn (k := k + 1) (by rw [g3 (k + 1) (by omega) (by omega)]; decide)
  have u1 := updL_eq (D := σ.2.2.1) lb.1 lb.2 (fun z => hv 0 z) (fun z => hv 1 z) (fun z => hv 2 z)
  have u2 := upH_eq (th := σ.2.2.2.1) lb.1 lb.2 (fun z => hv 0 z) (fun z => hv 1 z)
  have u3 := upT_eq (tt := σ.2.2.2.2) lb.1 lb.2 (fun z => hv 0 z) (fun z => hv 1 z)
  unfold nxL
  rw [u1, u2, u3, eF, tP_congr h hi hn, eL]
theorem sg_b (n0 : 0 ≤ n) {s : Int} : ∀ k : Nat, 0 ≤ (sg T n s k).1 ∧ (sg T n s k).1 ≤ n
  | 0 => ⟨Int.le_refl _, n0⟩
  | k + 1 => by
    have b := sg_b n0 (s := s) k
    have c := tP_le (T := T) b.2 ((nmL (lnIx T n (sg T n s k).1 s)).toNat + 2)
    show 0 ≤ tP T n (sg T n s k).1 ((nmL (lnIx T n (sg T n s k).1 s)).toNat + 2) ∧ tP T n (sg T n s k).1 ((nmL (lnIx T n (sg T n s k).1 s)).toNat + 2) ≤ n
    omega
theorem sg_congr (h : ∀ j, 0 ≤ j → j < n → T j = T' j) (n0 : 0 ≤ n) {s : Int} (s0 : 0 ≤ s) (s4 : s < 4) : ∀ k : Nat, (∀ j : Nat, j < k → CL1 T n s (sg T n s j)) → sg T n s k = sg T' n s k
  | 0, _ => rfl
  | k + 1, g => by
    show nxL T n s (sg T n s k) = nxL T' n s (sg T' n s k)
    rw [← sg_congr h n0 s0 s4 k (fun j a => g j (by omega))]
    have b := @sg_b T n n0 s k
    exact nxL_congr h s0 s4 b.1 b.2 (g k (by omega))
theorem CL1_congr (h : ∀ j, 0 ≤ j → j < n → T j = T' j) {s : Int} {σ : RSt} (hi : 0 ≤ σ.1) (hn : σ.1 ≤ n) (g : CL1 T n s σ) : CL1 T' n s σ := by
  obtain ⟨g1, g2, g3, g4⟩ := g
  unfold CL1
  rw [← lnIx_congr h hi hn s, ← tK_congr h hi, ← tKP_congr h hi hn]
  exact ⟨g1, g2, okN_congr h hi hn g3, g4⟩
theorem BRK_congr (h : ∀ j, 0 ≤ j → j < n → T j = T' j) {s pl : Int} {σ : RSt} (hi : 0 ≤ σ.1) (hn : σ.1 ≤ n) (g : BRK T n s σ pl) : BRK T' n s σ pl := by
  unfold BRK
  rw [← lnIx_congr h hi hn s, ← tK_congr h hi, ← tS_congr h hi]
  rcases g with g | ⟨g1, g2, k, g3, g4, g5⟩
  · exact Or.inl g
  · exact Or.inr ⟨g1, g2, k, okN_congr h hi hn g3, by rw [← tKP_congr h hi hn]; exact g4, by rw [← tSP_congr h hi hn]; exact g5⟩
theorem EndsX.congr (h : ∀ j, 0 ≤ j → j < n → T j = T' j) (n0 : 0 ≤ n) {s : Int} (s0 : 0 ≤ s) (s4 : s < 4) {fp : Int × Int} {D : Int → Int} (g : EndsX T n s fp D) : EndsX T' n s fp D := by
  obtain ⟨k, a, b⟩ := g
  have e : ∀ j : Nat, j ≤ k → sg T n s j = sg T' n s j := fun j hj => sg_congr h n0 s0 s4 j (fun m hm => (a m (by omega)).2)
  have eb := fun j : Nat => @sg_b T n n0 s j
  refine ⟨k, fun j hj => ?_, ?_⟩
  · rw [← e j (by omega), ← tK_congr h (eb j).1]
    exact ⟨(a j hj).1, CL1_congr h (eb j).1 (eb j).2 (a j hj).2⟩
  · rw [← e k (Nat.le_refl _), ← tK_congr h (eb k).1]
    rcases b with b | ⟨b1, b2, b3⟩
    · exact Or.inl b
    · exact Or.inr ⟨b1, b2, BRK_congr h (eb k).1 (eb k).2 b3⟩
end Agree
