/-! the class: what is told stands as a Told's block at 1; again -/
section Again
variable {M N O : Mem}
theorem TownS_8 (h : WT M) : TownS M 8 := by
  refine ⟨wk8 h, fun j a b => ?_⟩
  rcases (show j = 1 ∨ j = 2 ∨ j = 3 ∨ j = 4 ∨ j = 5 ∨ j = 6 ∨ j = 7 ∨ j = 8 by omega) with rfl | rfl | rfl | rfl | rfl | rfl | rfl | rfl
  · exact ⟨wp8_2 h, wk9 h, wl9 h⟩
  · exact ⟨wp8_3 h, wk10 h, wl10 h⟩
  · exact ⟨wp8_4 h, wk11 h, wl11 h⟩
  · exact ⟨wp8_5 h, wk12 h, wl12 h⟩
  · exact ⟨wp8_6 h, wk13 h, wl13 h⟩
  · exact ⟨wp8_7 h, wk14 h, wl14 h⟩
  · exact ⟨wp8_8 h, wk15 h, wl15 h⟩
  · exact ⟨wp8_9 h, wk16 h, wl16 h⟩
theorem TownS_27 (h : WT M) : TownS M 27 := by
  refine ⟨wk27 h, fun j a b => ?_⟩
  rcases (show j = 1 ∨ j = 2 ∨ j = 3 ∨ j = 4 ∨ j = 5 ∨ j = 6 ∨ j = 7 ∨ j = 8 by omega) with rfl | rfl | rfl | rfl | rfl | rfl | rfl | rfl
  · exact ⟨wp27_2 h, wk28 h, wl28 h⟩
  · exact ⟨wp27_3 h, wk29 h, wl29 h⟩
  · exact ⟨wp27_4 h, wk30 h, wl30 h⟩
  · exact ⟨wp27_5 h, wk31 h, wl31 h⟩
  · exact ⟨wp27_6 h, wk32 h, wl32 h⟩
  · exact ⟨wp27_7 h, wk33 h, wl33 h⟩
  · exact ⟨wp27_8 h, wk34 h, wl34 h⟩
  · exact ⟨wp27_9 h, wk35 h, wl35 h⟩
theorem TownS_48 (h : WT M) : TownS M 48 := by
  refine ⟨wk48 h, fun j a b => ?_⟩
  rcases (show j = 1 ∨ j = 2 ∨ j = 3 ∨ j = 4 ∨ j = 5 ∨ j = 6 ∨ j = 7 ∨ j = 8 by omega) with rfl | rfl | rfl | rfl | rfl | rfl | rfl | rfl
  · exact ⟨wp48_2 h, wk49 h, wl49 h⟩
  · exact ⟨wp48_3 h, wk50 h, wl50 h⟩
  · exact ⟨wp48_4 h, wk51 h, wl51 h⟩
  · exact ⟨wp48_5 h, wk52 h, wl52 h⟩
  · exact ⟨wp48_6 h, wk53 h, wl53 h⟩
  · exact ⟨wp48_7 h, wk54 h, wl54 h⟩
  · exact ⟨wp48_8 h, wk55 h, wl55 h⟩
  · exact ⟨wp48_9 h, wk56 h, wl56 h⟩
theorem NightS_18 (h : WT M) : NightS M 18 := by
  refine ⟨wk18 h, fun j a b => ?_⟩
  rcases (show j = 1 ∨ j = 2 ∨ j = 3 ∨ j = 4 by omega) with rfl | rfl | rfl | rfl
  · exact ⟨wp18_1 h, wk19 h, wl19 h⟩
  · exact ⟨wp18_2 h, wk20 h, wl20 h⟩
  · exact ⟨wp18_3 h, wk21 h, wl21 h⟩
  · exact ⟨wp18_4 h, wk22 h, wl22 h⟩
theorem NightS_37 (h : WT M) : NightS M 37 := by
  refine ⟨wk37 h, fun j a b => ?_⟩
  rcases (show j = 1 ∨ j = 2 ∨ j = 3 ∨ j = 4 by omega) with rfl | rfl | rfl | rfl
  · exact ⟨wp37_1 h, wk38 h, wl38 h⟩
  · exact ⟨wp37_2 h, wk39 h, wl39 h⟩
  · exact ⟨wp37_3 h, wk40 h, wl40 h⟩
  · exact ⟨wp37_4 h, wk41 h, wl41 h⟩
theorem NightS_58 (h : WT M) : NightS M 58 := by
  refine ⟨wk58 h, fun j a b => ?_⟩
  rcases (show j = 1 ∨ j = 2 ∨ j = 3 ∨ j = 4 by omega) with rfl | rfl | rfl | rfl
  · exact ⟨wp58_1 h, wk59 h, wl59 h⟩
  · exact ⟨wp58_2 h, wk60 h, wl60 h⟩
  · exact ⟨wp58_3 h, wk61 h, wl61 h⟩
  · exact ⟨wp58_4 h, wk62 h, wl62 h⟩
theorem SightS_23 (h : WT M) : SightS M 23 := by
  refine ⟨wk23 h, fun j a b => ?_⟩
  rcases (show j = 1 ∨ j = 2 ∨ j = 3 by omega) with rfl | rfl | rfl
  · exact ⟨wp23_1 h, wk24 h, wl24 h⟩
  · exact ⟨wp23_2 h, wk25 h, wl25 h⟩
  · exact ⟨wp23_3 h, wk26 h, wl26 h⟩
theorem SightS_42 (h : WT M) : SightS M 42 := by
  refine ⟨wk42 h, fun j a b => ?_⟩
  rcases (show j = 1 ∨ j = 2 ∨ j = 3 by omega) with rfl | rfl | rfl
  · exact ⟨wp42_1 h, wk43 h, wl43 h⟩
  · exact ⟨wp42_2 h, wk44 h, wl44 h⟩
  · exact ⟨wp42_3 h, wk45 h, wl45 h⟩
theorem SightS_63 (h : WT M) : SightS M 63 := by
  refine ⟨wk63 h, fun j a b => ?_⟩
  rcases (show j = 1 ∨ j = 2 ∨ j = 3 by omega) with rfl | rfl | rfl
  · exact ⟨wp63_1 h, wk64 h, wl64 h⟩
  · exact ⟨wp63_2 h, wk65 h, wl65 h⟩
  · exact ⟨wp63_3 h, wk66 h, wl66 h⟩
theorem ToldS_1 (h : WT M) : ToldS M 1 := by
  refine ⟨⟨wk1 h, ⟨wp1_0 h, wk2 h, wl2 h⟩, ⟨wp1_4 h, wk3 h, wl3 h⟩, ⟨wp1_5 h, wk4 h, wl4 h⟩, ⟨wp1_6 h, wk5 h, wl5 h⟩, ⟨wp1_7 h, wk6 h, wl6 h⟩, wp1_8 h, wk7 h, wl7 h⟩, fun j a b => ?_⟩
  rcases (show j = 0 ∨ j = 1 by omega) with rfl | rfl
  · exact ⟨⟨wp4_0 h, TownS_8 h⟩, ⟨wp5_0 h, wk17 h⟩, ⟨wp6_0 h, NightS_18 h⟩, wp7_0 h, SightS_23 h⟩
  · exact ⟨⟨wp4_1 h, TownS_27 h⟩, ⟨wp5_1 h, wk36 h⟩, ⟨wp6_1 h, NightS_37 h⟩, wp7_1 h, SightS_42 h⟩
def ToldR (M : Mem) (c : Int) : Prop := ∀ p ∈ RGL, 1 ≤ p.1 → p.1 ≤ 45 → ∀ i, p.2.1 ≤ i → i ≤ p.2.2.1 → p.2.2.2.1 ≤ M.1 (p.1 - 1 + c) i ∧ M.1 (p.1 - 1 + c) i ≤ p.2.2.2.2
theorem ToldR_1 (h : WT M) : ToldR M 1 := fun p hp _ _ i a b => by rw [show p.1 - 1 + 1 = p.1 by omega]; exact h.2.1 p hp i a b
/-- the images: each a block of its own, well-formed -/
def IMk (M : Mem) (b : Int) : Prop := b = -1 ∨ ((112 ≤ b ∧ b + 45 ≤ M.2.2.2) ∧ ToldS M b ∧ ToldR M b)
def IM (M : Mem) : Prop := (∀ k, 0 ≤ k → k < 3 → IMk M (M.1 46 k)) ∧ ∀ k l, 0 ≤ k → k < 3 → 0 ≤ l → l < 3 → k ≠ l → M.1 46 k ≠ -1 → M.1 46 l ≠ -1 → M.1 46 k + 45 ≤ M.1 46 l ∨ M.1 46 l + 45 ≤ M.1 46 k
theorem againX_T (hT : WT M) (hI : IM M) (k : Int) : TT (fX10_again M 0 k) (fun r => (¬((0 ≤ k ∧ k ≤ 2) ∧ M.1 46 k ≠ -1) ∧ r = (0, M)) ∨ (((0 ≤ k ∧ k ≤ 2) ∧ M.1 46 k ≠ -1) ∧ r.1 = 1 ∧ CPS M r.2 1 (M.1 46 k) datT)) := by
  unfold fX10_again
  rw [wp0_0 hT, wp0_1 hT]
  refine TT.ite (fun c => TT.ok (Or.inl ⟨fun q => by omega, rfl⟩)) (fun c0 => TT.ite (fun c3 => ?_) (fun c => TT.ok (Or.inl ⟨fun q => by omega, rfl⟩)))
  have g : 14 ≤ M.2.1 46 ∧ (0 : Int) ≤ k ∧ k < M.2.2.1 46 := ⟨by rw [wk46 hT]; decide, by omega, by rw [wl46 hT]; exact c3⟩
  refine TT.guard (wk0 hT) (TT.guard g (TT.ite (fun e => TT.ok (Or.inl ⟨fun q => q.2 e, rfl⟩)) (fun e => TT.guard g (TT.guard (wk1 hT) ?_))))
  obtain ⟨h1, h2, h3⟩ := (hI.1 k (by omega) c3).resolve_left e
  exact TT.bind (toldCopy_T (by omega) (ToldS_1 hT) h2) (fun r q => TT.ok (Or.inr ⟨⟨by omega, e⟩, rfl, q⟩))
theorem PL_dat : (PL.all fun p => decide (p.1 < 1) || decide (46 ≤ p.1) || !datT (p.1 - 1) p.2.1) = true := by decide +kernel
theorem CPS.wt {c : Int} (h : WT M) (hc : 112 ≤ c) (hR : ToldR M c) (q : CPS M N 1 c datT) : WT N := by
  have fr : ∀ x y, (x < 1 ∨ 46 ≤ x) → N.1 x y = M.1 x y := fun x y z => by rw [q.2, if_neg (by omega)]
  refine ⟨⟨?_, ?_⟩, fun p hp i a b => ?_, ⟨fun l k l0 l4 k0 k2 => ?_, fun u j u0 u8 j0 j4 => ?_⟩⟩
  · have := h.1.1
    unfold kinds at *; rw [q.1]; exact this
  · have g0 := h.1.2
    unfold hold at *
    rw [List.all_eq_true] at *
    intro p hp
    have g1 := g0 p hp
    have g2 := List.all_eq_true.mp PL_dat p hp
    simp only [Bool.or_eq_true, decide_eq_true_eq, Bool.not_eq_true'] at g1 g2 ⊢
    rw [q.2, if_neg, g1]
    rintro ⟨z1, z2⟩
    rcases g2 with (g2 | g2) | g2
    · omega
    · omega
    · rw [g2] at z2; cases z2
  · by_cases z : 1 ≤ p.1 ∧ p.1 ≤ 45
    · rw [q.2]
      by_cases t : (1 ≤ p.1 ∧ p.1 < 1 + 45) ∧ datT (p.1 - 1) i = true
      · rw [if_pos t]; exact hR p hp z.1 z.2 i a b
      · rw [if_neg t]; exact h.2.1 p hp i a b
    · rw [fr _ _ (by omega)]; exact h.2.1 p hp i a b
  · rw [fr 90 _ (by decide), fr 90 _ (by decide), fr 91 _ (by decide), fr 92 _ (by decide)]; exact h.2.2.1 l k l0 l4 k0 k2
  · rw [fr 93 _ (by decide), fr 93 _ (by decide)]; exact h.2.2.2 u j u0 u8 j0 j4
/-- frames: what lies below n stays, but for cells of P -/
def FZ (M N : Mem) (n : Int) (P : Int → Int → Prop) : Prop := ∀ x, x < n → N.2.1 x = M.2.1 x ∧ N.2.2.1 x = M.2.2.1 x ∧ ∀ y, ¬P x y → N.1 x y = M.1 x y
theorem FZ.trans {n m : Int} {P : Int → Int → Prop} (h : FZ M N n P) (g : FZ N O m P) (hnm : n ≤ m) : FZ M O n P := fun x hx => ⟨((g x (by omega)).1).trans (h x hx).1, ((g x (by omega)).2.1).trans (h x hx).2.1, fun y hy => ((g x (by omega)).2.2 y hy).trans ((h x hx).2.2 y hy)⟩
theorem FZ.to {n m : Int} {P Q : Int → Int → Prop} (h : FZ M N n P) (hm : m ≤ n) (hQ : ∀ x y, x < m → P x y → Q x y) : FZ M N m Q := fun x hx => ⟨(h x (by omega)).1, (h x (by omega)).2.1, fun y hy => (h x (by omega)).2.2 y (fun z => hy (hQ x y hx z))⟩
theorem ObjS.fz {kd f n a m : Int} {L : Int → Int} {P : Int → Int → Prop} (h : ObjS kd f n L M a) (hn : 0 ≤ n) (g : FZ M N m P) (hm : a + n < m) (hP : ∀ y, f ≤ y → ¬P a y) : ObjS kd f n L N a := by
  refine ⟨by rw [(g a (by omega)).1]; exact h.1, fun j u v => ?_⟩
  obtain ⟨h1, h2, h3⟩ := h.2 j u v
  refine ⟨?_, ?_, ?_⟩
  · rw [(g a (by omega)).2.2 _ (hP _ (by omega))]; exact h1
  · rw [(g (a + j) (by omega)).1]; exact h2
  · rw [(g (a + j) (by omega)).2.1]; exact h3
/-- rows made one behind another for the object a -/
def TI (M0 M : Mem) (a : Int) (F K L : Int → Int) (j : Int) : Prop := (M.2.2.2 : Int) = M0.2.2.2 + j ∧ FZ M0 M M0.2.2.2 (fun x _ => x = a) ∧ ∀ i, 1 ≤ i → i ≤ j → M.1 a (F i) = a + i ∧ M.2.1 (a + i) = K i ∧ M.2.2.1 (a + i) = L i
theorem TI.zero (a : Int) (F K L : Int → Int) : TI M M a F K L 0 := ⟨by omega, fun _ _ => ⟨rfl, rfl, fun _ _ => rfl⟩, fun i h1 h2 => by omega⟩
theorem TI.st {M0 : Mem} {a : Int} {F K L : Int → Int} {j fd v : Int} (h : TI M0 M a F K L j) (hF : ∀ i, 1 ≤ i → i ≤ j → F i ≠ fd) : TI M0 (mst M a fd v) a F K L j := by
  refine ⟨h.1, fun x hx => ⟨(h.2.1 x hx).1, (h.2.1 x hx).2.1, fun y hy => ?_⟩, fun i h1 h2 => ?_⟩
  · rw [mst_ne _ _ _ _ _ _ hy]; exact (h.2.1 x hx).2.2 y hy
  · rw [mst_nf _ _ _ _ _ _ (hF i h1 h2)]; exact h.2.2 i h1 h2
theorem mnw_c (M : Mem) (k n x y : Int) : (mnew M k n).1 x y = if x = (M.2.2.2 : Int) then ini k y else M.1 x y := rfl
theorem mnw_k (M : Mem) (k n x : Int) : (mnew M k n).2.1 x = if x = (M.2.2.2 : Int) then k else M.2.1 x := rfl
theorem mnw_l (M : Mem) (k n x : Int) : (mnew M k n).2.2.1 x = if x = (M.2.2.2 : Int) then n else M.2.2.1 x := rfl
theorem mnw_n (M : Mem) (k n : Int) : ((mnew M k n).2.2.2 : Int) = M.2.2.2 + 1 := by
  show ((M.2.2.2 + 1 : Nat) : Int) = _
  omega
theorem TI.new {M0 : Mem} {a : Int} {F K L : Int → Int} {j k n fd : Int} (ha : a + 1 = M0.2.2.2) (j0 : 0 ≤ j) (h : TI M0 M a F K L j) (hk : k = K (j + 1)) (hn : n = L (j + 1)) (hf : fd = F (j + 1)) (hF : ∀ i, 1 ≤ i → i ≤ j → F i ≠ fd) : TI M0 (mst (mnew M k n) a fd (M.2.2.2 : Int)) a F K L (j + 1) := by
  have e := h.1
  refine ⟨?_, fun x hx => ⟨?_, ?_, fun y hy => ?_⟩, fun i h1 h2 => ?_⟩
  · show ((mnew M k n).2.2.2 : Int) = _
    rw [mnw_n]; omega
  · show (mnew M k n).2.1 x = _
    rw [mnw_k, if_neg (by omega)]; exact (h.2.1 x hx).1
  · show (mnew M k n).2.2.1 x = _
    rw [mnw_l, if_neg (by omega)]; exact (h.2.1 x hx).2.1
  · rw [mst_ne _ _ _ _ _ _ hy, mnw_c, if_neg (by omega)]; exact (h.2.1 x hx).2.2 y hy
  · show (mst (mnew M k n) a fd (M.2.2.2 : Int)).1 a (F i) = a + i ∧ (mnew M k n).2.1 (a + i) = K i ∧ (mnew M k n).2.2.1 (a + i) = L i
    rw [mnw_k, mnw_l]
    by_cases c : i = j + 1
    · subst c
      rw [← hf, mst_at, if_pos (by omega), if_pos (by omega)]; exact ⟨by omega, hk, hn⟩
    · rw [mst_nf _ _ _ _ _ _ (hF i h1 (by omega)), mnw_c, if_neg (by omega), if_neg (by omega), if_neg (by omega)]; exact h.2.2 i h1 (by omega)
theorem TT.al {ρ : Type} {Q : ρ → Prop} {g : Mem → Option ρ} {M0 : Mem} {a : Int} {F K L : Int → Int} {j k n fd kd : Int} (ha : a + 1 = M0.2.2.2) (hkd : M0.2.1 a = kd) (j0 : 0 ≤ j) (h : TI M0 M a F K L j) (hk : k = K (j + 1)) (hn : n = L (j + 1)) (hf : fd = F (j + 1)) (hF : ∀ i, 1 ≤ i → i ≤ j → F i ≠ fd)
    (rest : ∀ N, TI M0 N a F K L (j + 1) → TT (g N) Q) : TT (bM (mnew M k n) fun M2 => if M2.2.1 a = kd then if (-1 : Int) ≤ (M.2.2.2 : Int) then bM (mst M2 a fd (M.2.2.2 : Int)) g else none else none) Q := by
  have e := h.1
  refine TT.sM (TT.guard ?_ (TT.guard (by omega) (TT.sM (rest _ (h.new ha j0 hk hn hf hF)))))
  rw [mnw_k, if_neg (by omega), (h.2.1 a (by omega)).1]; exact hkd
end Again
