/-! the reference: no computing call ends in none -/
/-- a town, a law, nights, a sight are handed: what the fields say -/
def RH (M : Mem) : Prop := (M.1 85 24 = 0 ∨ M.1 85 24 = 1) ∧ (1 ≤ M.1 85 25 ∧ M.1 85 25 ≤ 6) ∧ (0 ≤ M.1 85 26 ∧ M.1 85 26 ≤ 4)
def RLw (M : Mem) : Prop := (M.1 85 27 = 0 ∨ M.1 85 27 = 1) ∧ 2 ≤ M.1 92 (3 * M.1 85 27) ∧ M.1 92 (3 * M.1 85 27) ≤ 5
def RK (M N : Mem) : Prop := Keep M N ∧ ∀ y, (24 ≤ y ∧ y ≤ 28) ∨ y = 48 → N.1 85 y = M.1 85 y
theorem RK.self (M : Mem) : RK M M := ⟨Keep.self, fun _ _ => rfl⟩
theorem RK.trans {M N O : Mem} (h : RK M N) (g : RK N O) : RK M O := ⟨h.1.trans g.1, fun y q => (g.2 y q).trans (h.2 y q)⟩
theorem RK.st {M N : Mem} (h : RK M N) {a i v : Int} (hs : scr a i = true) (h6 : a ≠ 85 ∨ ¬((24 ≤ i ∧ i ≤ 28) ∨ i = 48)) : RK M (mst N a i v) := by
  refine ⟨h.1.st hs, fun y q => ?_⟩
  rw [mst_r, if_neg (by rintro ⟨e1, e2⟩; subst e2; exact h6.elim (fun g => g e1.symm) (fun g => g q))]; exact h.2 y q
theorem RH.rk {M N : Mem} (h : RH M) (k : RK M N) : RH N := by
  unfold RH at *
  rw [k.2 24 (by decide), k.2 25 (by decide), k.2 26 (by decide)]; exact h
theorem RLw.rk {M N : Mem} (h : RLw M) (k : RK M N) : RLw N := by
  unfold RLw at *
  rw [k.2 27 (by decide), k.1.2 92 _ (scr_lo _ (by decide) (by decide) (by decide))]; exact h
/-- the same, and the bags too -/
def RB (M N : Mem) : Prop := RK M N ∧ ∀ j, N.1 98 j = M.1 98 j
theorem RB.self (M : Mem) : RB M M := ⟨RK.self M, fun _ => rfl⟩
theorem RB.trans {M N O : Mem} (h : RB M N) (g : RB N O) : RB M O := ⟨h.1.trans g.1, fun j => (g.2 j).trans (h.2 j)⟩
theorem RB.st {M N : Mem} (h : RB M N) {a i v : Int} (hs : scr a i = true) (h6 : a ≠ 85 ∨ ¬((24 ≤ i ∧ i ≤ 28) ∨ i = 48)) (h9 : a ≠ 98) : RB M (mst N a i v) := ⟨h.1.st hs h6, fun j => by rw [mst_ne _ _ _ _ _ _ (fun e => h9 e.symm), h.2 j]⟩
section Ref
variable {ρ : Type} {M M0 : Mem} {Q : ρ → Prop}
/-- a store into the reference's own scratch cells, a town being handed -/
theorem TT.sr {a i v : Int} {f : Mem → Option ρ} (hW : RB M0 M) (hT : WT M) (hR : RH M) (hs : scr a i = true ∧ (a ≠ 85 ∨ ¬((24 ≤ i ∧ i ≤ 28) ∨ i = 48)) ∧ a ≠ 98)
    (k : ∀ N, N = mst M a i v → RB M0 N → WT N → RH N → TT (f N) Q) : TT (bM (mst M a i v) f) Q :=
  k _ rfl (hW.st hs.1 hs.2.1 hs.2.2) (hT.keep ((RK.self M).st (v := v) hs.1 hs.2.1).1) (hR.rk ((RK.self M).st (v := v) hs.1 hs.2.1))
/-- the same, a law too -/
theorem TT.sq {a i v : Int} {f : Mem → Option ρ} (hW : RB M0 M) (hT : WT M) (hR : RH M) (hQ : RLw M) (hs : scr a i = true ∧ (a ≠ 85 ∨ ¬((24 ≤ i ∧ i ≤ 28) ∨ i = 48)) ∧ a ≠ 98)
    (k : ∀ N, N = mst M a i v → RB M0 N → WT N → RH N → RLw N → TT (f N) Q) : TT (bM (mst M a i v) f) Q :=
  k _ rfl (hW.st hs.1 hs.2.1 hs.2.2) (hT.keep ((RK.self M).st (v := v) hs.1 hs.2.1).1) (hR.rk ((RK.self M).st (v := v) hs.1 hs.2.1)) (hQ.rk ((RK.self M).st (v := v) hs.1 hs.2.1))
theorem TT.br {X : Option (Int × Mem)} {f : Int × Mem → Option ρ} {P : Int → Prop} (hW : RB M0 M) (hT : WT M) (hR : RH M) (h : TT X (fun r => P r.1 ∧ RB M r.2)) (k : ∀ r, P r.1 → RB M0 r.2 → WT r.2 → RH r.2 → TT (f r) Q) : TT (X.bind f) Q :=
  TT.bind h (fun r h1 => k r h1.1 (hW.trans h1.2) (hT.keep h1.2.1.1) (hR.rk h1.2.1))
theorem TT.bu {X : Option Mem} {f : Mem → Option ρ} (hW : RB M0 M) (hT : WT M) (hR : RH M) (h : TT X (fun r => RB M r)) (k : ∀ r, RB M0 r → WT r → RH r → TT (f r) Q) : TT (X.bind f) Q :=
  TT.bind h (fun r h1 => k r (hW.trans h1) (hT.keep h1.1.1) (hR.rk h1.1))
theorem TT.brq {X : Option (Int × Mem)} {f : Int × Mem → Option ρ} {P : Int → Prop} (hW : RB M0 M) (hT : WT M) (hR : RH M) (hQ : RLw M) (h : TT X (fun r => P r.1 ∧ RB M r.2)) (k : ∀ r, P r.1 → RB M0 r.2 → WT r.2 → RH r.2 → RLw r.2 → TT (f r) Q) : TT (X.bind f) Q :=
  TT.bind h (fun r h1 => k r h1.1 (hW.trans h1.2) (hT.keep h1.2.1.1) (hR.rk h1.2.1) (hQ.rk h1.2.1))
theorem TT.buq {X : Option Mem} {f : Mem → Option ρ} (hW : RB M0 M) (hT : WT M) (hR : RH M) (hQ : RLw M) (h : TT X (fun r => RB M r)) (k : ∀ r, RB M0 r → WT r → RH r → RLw r → TT (f r) Q) : TT (X.bind f) Q :=
  TT.bind h (fun r h1 => k r (hW.trans h1) (hT.keep h1.1.1) (hR.rk h1.1) (hQ.rk h1.1))
theorem rt0_ (h : WT M) {t i : Int} (ht : t = 0 ∨ t = 1) (h1 : 0 ≤ i) (h2 : i ≤ 0) : 0 ≤ M.1 91 (92 * t + i) ∧ M.1 91 (92 * t + i) ≤ 6 := by
  rcases ht with rfl | rfl
  · exact rows_at (p := (91, 0, 0, 0, 6)) h.2.1 38 rfl (by dsimp only; omega) (by dsimp only; omega)
  · exact rows_at (p := (91, 92, 92, 0, 6)) h.2.1 65 rfl (by dsimp only; omega) (by dsimp only; omega)
theorem rt1_ (h : WT M) {t i : Int} (ht : t = 0 ∨ t = 1) (h1 : 1 ≤ i) (h2 : i ≤ 1) : 0 ≤ M.1 91 (92 * t + i) ∧ M.1 91 (92 * t + i) ≤ 4 := by
  rcases ht with rfl | rfl
  · exact rows_at (p := (91, 1, 1, 0, 4)) h.2.1 39 rfl (by dsimp only; omega) (by dsimp only; omega)
  · exact rows_at (p := (91, 93, 93, 0, 4)) h.2.1 66 rfl (by dsimp only; omega) (by dsimp only; omega)
theorem rt2_ (h : WT M) {t i : Int} (ht : t = 0 ∨ t = 1) (h1 : 2 ≤ i) (h2 : i ≤ 61) : 0 ≤ M.1 91 (92 * t + i) ∧ M.1 91 (92 * t + i) ≤ 9 := by
  rcases ht with rfl | rfl
  · exact rows_at (p := (91, 2, 61, 0, 9)) h.2.1 40 rfl (by dsimp only; omega) (by dsimp only; omega)
  · exact rows_at (p := (91, 94, 153, 0, 9)) h.2.1 67 rfl (by dsimp only; omega) (by dsimp only; omega)
theorem rt62_ (h : WT M) {t i : Int} (ht : t = 0 ∨ t = 1) (h1 : 62 ≤ i) (h2 : i ≤ 67) : 0 ≤ M.1 91 (92 * t + i) ∧ M.1 91 (92 * t + i) ≤ 9 := by
  rcases ht with rfl | rfl
  · exact rows_at (p := (91, 62, 67, 0, 9)) h.2.1 41 rfl (by dsimp only; omega) (by dsimp only; omega)
  · exact rows_at (p := (91, 154, 159, 0, 9)) h.2.1 68 rfl (by dsimp only; omega) (by dsimp only; omega)
theorem rt68_ (h : WT M) {t i : Int} (ht : t = 0 ∨ t = 1) (h1 : 68 ≤ i) (h2 : i ≤ 73) : 0 ≤ M.1 91 (92 * t + i) ∧ M.1 91 (92 * t + i) ≤ 5 := by
  rcases ht with rfl | rfl
  · exact rows_at (p := (91, 68, 73, 0, 5)) h.2.1 42 rfl (by dsimp only; omega) (by dsimp only; omega)
  · exact rows_at (p := (91, 160, 165, 0, 5)) h.2.1 69 rfl (by dsimp only; omega) (by dsimp only; omega)
theorem rt74_ (h : WT M) {t i : Int} (ht : t = 0 ∨ t = 1) (h1 : 74 ≤ i) (h2 : i ≤ 78) : 0 ≤ M.1 91 (92 * t + i) ∧ M.1 91 (92 * t + i) ≤ 9 := by
  rcases ht with rfl | rfl
  · exact rows_at (p := (91, 74, 78, 0, 9)) h.2.1 43 rfl (by dsimp only; omega) (by dsimp only; omega)
  · exact rows_at (p := (91, 166, 170, 0, 9)) h.2.1 70 rfl (by dsimp only; omega) (by dsimp only; omega)
theorem rt79_ (h : WT M) {t i : Int} (ht : t = 0 ∨ t = 1) (h1 : 79 ≤ i) (h2 : i ≤ 83) : 0 ≤ M.1 91 (92 * t + i) ∧ M.1 91 (92 * t + i) ≤ 9 := by
  rcases ht with rfl | rfl
  · exact rows_at (p := (91, 79, 83, 0, 9)) h.2.1 44 rfl (by dsimp only; omega) (by dsimp only; omega)
  · exact rows_at (p := (91, 171, 175, 0, 9)) h.2.1 71 rfl (by dsimp only; omega) (by dsimp only; omega)
theorem rt84_ (h : WT M) {t i : Int} (ht : t = 0 ∨ t = 1) (h1 : 84 ≤ i) (h2 : i ≤ 87) : 0 ≤ M.1 91 (92 * t + i) ∧ M.1 91 (92 * t + i) ≤ 9 := by
  rcases ht with rfl | rfl
  · exact rows_at (p := (91, 84, 87, 0, 9)) h.2.1 45 rfl (by dsimp only; omega) (by dsimp only; omega)
  · exact rows_at (p := (91, 176, 179, 0, 9)) h.2.1 72 rfl (by dsimp only; omega) (by dsimp only; omega)
theorem rt88_ (h : WT M) {t i : Int} (ht : t = 0 ∨ t = 1) (h1 : 88 ≤ i) (h2 : i ≤ 91) : (-1) ≤ M.1 91 (92 * t + i) ∧ M.1 91 (92 * t + i) ≤ 3 := by
  rcases ht with rfl | rfl
  · exact rows_at (p := (91, 88, 91, (-1), 3)) h.2.1 46 rfl (by dsimp only; omega) (by dsimp only; omega)
  · exact rows_at (p := (91, 180, 183, (-1), 3)) h.2.1 73 rfl (by dsimp only; omega) (by dsimp only; omega)
theorem of_T (hT : WT M) (hR : RH M) {i : Int} (h0 : 0 ≤ i) (h1 : i ≤ 91) : TT (fX11_of M 85 i) (fun r => r = M.1 91 (92 * M.1 85 24 + i) ∧ (2 ≤ i ∧ i ≤ 67 → 0 ≤ r ∧ r ≤ 9) ∧ (68 ≤ i ∧ i ≤ 73 → 0 ≤ r ∧ r ≤ 5) ∧ (84 ≤ i ∧ i ≤ 87 → 0 ≤ r ∧ r ≤ 9)) := by
  unfold fX11_of
  have ht := hR.1
  rw [wp85_6 hT, w32_of (x := 92 * M.1 85 24) (by omega) (by omega), w32_of (x := 92 * M.1 85 24 + i) (by omega) (by omega)]
  refine TT.guard (wk85 hT) (TT.guard ⟨wk91 hT, by omega, by rw [wl91 hT]; omega⟩ (TT.ok ⟨rfl, fun q => ?_, fun q => ?_, fun q => ?_⟩))
  · by_cases e : i ≤ 61
    · exact rt2_ hT ht q.1 e
    · exact rt62_ hT ht (by omega) q.2
  · exact rt68_ hT ht q.1 q.2
  · exact rt84_ hT ht q.1 q.2
theorem in_T (a b c : Int) : TT (fX11_in M a b c) (fun r => PB r (b ≤ a ∧ a ≤ c)) := by
  unfold fX11_in
  exact TT.ite (fun _ => TT.ok PB.no) (fun _ => TT.ite (fun _ => TT.ok PB.no) (fun _ => TT.ok (PB.yes (by omega))))
theorem has_T (a b : Int) : TT (fX11_has M a b) (fun r => B01 r) := by
  unfold fX11_has
  exact TT.ite (fun _ => TT.ok (Or.inr rfl)) (fun _ => TT.ok (Or.inl rfl))
theorem isHouseR_T (hT : WT M) (hR : RH M) (h : Int) : TT (fX11_isHouse M 85 h) (fun r => PB r (0 ≤ h ∧ h < M.1 85 25 ∧ h < 6)) := by
  unfold fX11_isHouse
  have h1 := hR.2.1
  rw [w32_of (x := M.1 85 25 - 1) (by omega) (by omega)]
  exact TT.guard (wk85 hT) (TT.bind (in_T _ _ _) (fun r q => TT.guard q.1 (TT.ok ⟨q.1, fun c => by have := q.use c; omega⟩)))
theorem isThiefR_T (hT : WT M) (hR : RH M) (h : Int) : TT (fX11_isThief M 85 h) (fun r => PB r (0 ≤ h ∧ h < M.1 85 26 ∧ h < 4)) := by
  unfold fX11_isThief
  have h1 := hR.2.2
  rw [w32_of (x := M.1 85 26 - 1) (by omega) (by omega)]
  exact TT.guard (wk85 hT) (TT.bind (in_T _ _ _) (fun r q => TT.guard q.1 (TT.ok ⟨q.1, fun c => by have := q.use c; omega⟩)))
theorem isGoodR_T (h : Int) : TT (fX11_isGood M h) (fun r => PB r (0 ≤ h ∧ h < 5)) := by
  unfold fX11_isGood
  exact TT.bind (in_T _ _ _) (fun r q => TT.guard q.1 (TT.ok ⟨q.1, fun c => by have := q.use c; omega⟩))
theorem place_T {t h g : Int} (t0 : 0 ≤ t) (t1 : t < 4) (h0 : 0 ≤ h) (h1 : h < 6) (h2 : 0 ≤ g) (h3 : g < 5) : TT (fX11_place M t h g) (fun r => r = 30 * t + 5 * h + g ∧ 0 ≤ r ∧ r < 120) := by
  unfold fX11_place
  refine TT.ok ?_
  rw [w32_of (x := 6 * t) (by omega) (by omega), w32_of (x := 6 * t + h) (by omega) (by omega), w32_of (x := (6 * t + h) * 5) (by omega) (by omega), w32_of (x := (6 * t + h) * 5 + g) (by omega) (by omega)]; omega
theorem lawOf_T (hT : WT M) (hL : RLw M) {i : Int} (h0 : 0 ≤ i) (h1 : i < 3) : TT (fX11_lawOf M 85 i) (fun r => r = M.1 92 (3 * M.1 85 27 + i) ∧ (i = 0 → 2 ≤ r ∧ r ≤ 5)) := by
  unfold fX11_lawOf
  have hl := hL.1
  rw [wp85_7 hT, w32_of (x := 3 * M.1 85 27) (by omega) (by omega), w32_of (x := 3 * M.1 85 27 + i) (by omega) (by omega)]
  refine TT.guard (wk85 hT) (TT.guard ⟨wk92 hT, by omega, by rw [wl92 hT]; omega⟩ (TT.ok ⟨rfl, fun q => ?_⟩))
  rw [q, Int.add_zero]; exact hL.2
theorem greater_T (a b : Int) : TT (fX11_greater M a b) (fun r => a ≤ r ∧ b ≤ r ∧ ∀ c, a ≤ c → b ≤ c → r ≤ c) := by
  unfold fX11_greater
  exact TT.ite (fun _ => TT.ok ⟨by omega, by omega, fun c h1 h2 => h1⟩) (fun _ => TT.ok ⟨by omega, by omega, fun c h1 h2 => h2⟩)
theorem lesser_T (a b : Int) : TT (fX11_lesser M a b) (fun r => r ≤ a ∧ r ≤ b) := by
  unfold fX11_lesser
  exact TT.ite (fun _ => TT.ok (by omega)) (fun _ => TT.ok (by omega))
theorem size_T (a : Int) : TT (fX11_size M a) (fun r => True) := by
  unfold fX11_size
  exact TT.ite (fun _ => TT.ok trivial) (fun _ => TT.ok trivial)
theorem of2_T (hT : WT M) (hR : RH M) {i : Int} (h0 : 2 ≤ i) (h1 : i ≤ 67) : TT (fX11_of M 85 i) (fun r => 0 ≤ r ∧ r ≤ 9) := by
  exact (of_T hT hR (by omega) (by omega)).mono (fun r q => q.2.1 ⟨h0, h1⟩)
theorem of68_T (hT : WT M) (hR : RH M) {i : Int} (h0 : 68 ≤ i) (h1 : i ≤ 73) : TT (fX11_of M 85 i) (fun r => 0 ≤ r ∧ r ≤ 5) := by
  exact (of_T hT hR (by omega) (by omega)).mono (fun r q => q.2.2.1 ⟨h0, h1⟩)
theorem of74_T (hT : WT M) (hR : RH M) {i : Int} (h0 : 74 ≤ i) (h1 : i ≤ 83) : TT (fX11_of M 85 i) (fun r => 0 ≤ r ∧ r ≤ 9) := by
  have ht := hR.1
  refine (of_T hT hR (by omega) (by omega)).mono (fun r q => ?_)
  rw [q.1]
  by_cases e : i ≤ 78
  · exact rt74_ hT ht h0 e
  · exact rt79_ hT ht (by omega) h1
theorem of84_T (hT : WT M) (hR : RH M) {i : Int} (h0 : 84 ≤ i) (h1 : i ≤ 87) : TT (fX11_of M 85 i) (fun r => 0 ≤ r ∧ r ≤ 9) := by
  exact (of_T hT hR (by omega) (by omega)).mono (fun r q => q.2.2.2 ⟨h0, h1⟩)
theorem ofA_T (hT : WT M) (hR : RH M) {i : Int} (h0 : 0 ≤ i) (h1 : i ≤ 91) : TT (fX11_of M 85 i) (fun r => True) := (of_T hT hR h0 h1).mono (fun _ _ => trivial)
theorem spareR_T (hT_M : WT M) (hR_M : RH M) (h g : Int) (hh : 0 ≤ h ∧ h < 6) (hg : 0 ≤ g ∧ g < 5) : TT (fX11_spare M 85 h g) (fun r => 0 ≤ r ∧ r ≤ 9) := by
  unfold fX11_spare
  rw [w32_of (x := 5 * h) (by omega) (by omega), w32_of (x := 2 + 5 * h) (by omega) (by omega), w32_of (x := 32 + 5 * h) (by omega) (by omega), w32_of (x := 2 + 5 * h + g) (by omega) (by omega), w32_of (x := 32 + 5 * h + g) (by omega) (by omega)]
  refine TT.guard (wk85 hT_M) (TT.bind (of2_T hT_M hR_M (by omega) (by omega)) (fun r1 q1 => TT.bind (of2_T hT_M hR_M (by omega) (by omega)) (fun r2 q2 => ?_)))
  rw [w32_of (x := r1 - r2) (by omega) (by omega)]
  exact TT.bind (greater_T _ _) (fun r3 q3 => TT.ok ⟨q3.1, q3.2.2 9 (by omega) (by omega)⟩)
theorem lacksR_T (hT_M : WT M) (hR_M : RH M) (h g : Int) (hh : 0 ≤ h ∧ h < 6) (hg : 0 ≤ g ∧ g < 5) : TT (fX11_lacks M 85 h g) (fun r => 0 ≤ r ∧ r ≤ 9) := by
  unfold fX11_lacks
  rw [w32_of (x := 5 * h) (by omega) (by omega), w32_of (x := 2 + 5 * h) (by omega) (by omega), w32_of (x := 32 + 5 * h) (by omega) (by omega), w32_of (x := 2 + 5 * h + g) (by omega) (by omega), w32_of (x := 32 + 5 * h + g) (by omega) (by omega)]
  refine TT.guard (wk85 hT_M) (TT.bind (of2_T hT_M hR_M (by omega) (by omega)) (fun r1 q1 => TT.bind (of2_T hT_M hR_M (by omega) (by omega)) (fun r2 q2 => ?_)))
  rw [w32_of (x := r1 - r2) (by omega) (by omega)]
  exact TT.bind (greater_T _ _) (fun r3 q3 => TT.ok ⟨q3.1, q3.2.2 9 (by omega) (by omega)⟩)
set_option maxHeartbeats 1000000 in
theorem isFreeR_T (hT_M : WT M) (hR_M : RH M) (t : Int) : TT (fX11_isFree M 85 t) (fun r => PB r (0 ≤ t ∧ t < 4 ∧ t < M.1 85 26)) := by
  unfold fX11_isFree
  refine TT.guard (wk85 hT_M) ?_
  refine TT.bind (isThiefR_T hT_M hR_M _) (fun r1 h_r1 => ?_)
  refine TT.ite (fun c1 => ?_) (fun c1 => ?_)
  · exact TT.ok PB.no
  · have g_r1 := h_r1.use c1
    refine TT.bind (has_T _ _) (fun r5 h_r5 => ?_)
    refine TT.ite (fun c2 => ?_) (fun c2 => ?_)
    · exact TT.ok (PB.yes (by omega))
    · exact TT.ok PB.no
set_option maxHeartbeats 1000000 in
theorem owesR_T (hT_M : WT M) (hR_M : RH M) (hQ_M : RLw M) (t : Int) (ht : 0 ≤ t ∧ t < 4) : TT (fX11_owes M 85 t) (fun r => True) := by
  unfold fX11_owes
  refine TT.guard (wk85 hT_M) ?_
  refine TT.guard ⟨(by rw [wp85_35 hT_M]; exact wk103 hT_M), by omega, by rw [wp85_35 hT_M, wl103 hT_M]; omega⟩ ?_
  refine TT.bind (lawOf_T hT_M hQ_M (by first | decide | omega) (by first | decide | omega)) (fun r3 h_r3 => ?_)
  refine TT.guard (by first | omega | (simp only [w32]; omega)) ?_
  refine TT.guard ⟨(by rw [wp85_36 hT_M]; exact wk104 hT_M), by omega, by rw [wp85_36 hT_M, wl104 hT_M]; omega⟩ ?_
  exact TT.ok trivial
set_option maxHeartbeats 1000000 in
theorem oddR_T (hT_M : WT M) (hR_M : RH M) (hQ_M : RLw M) (t : Int) (ht : 0 ≤ t ∧ t < 4) : TT (fX11_odd M 85 t) (fun r => True) := by
  unfold fX11_odd
  refine TT.guard (wk85 hT_M) ?_
  refine TT.guard ⟨(by rw [wp85_35 hT_M]; exact wk103 hT_M), by omega, by rw [wp85_35 hT_M, wl103 hT_M]; omega⟩ ?_
  refine TT.bind (lawOf_T hT_M hQ_M (by first | decide | omega) (by first | decide | omega)) (fun r3 h_r3 => ?_)
  refine TT.guard (by first | omega | (simp only [w32]; omega)) ?_
  exact TT.ok trivial
set_option maxHeartbeats 1000000 in
theorem isDoubleR_T (hT_M : WT M) (hR_M : RH M) (hQ_M : RLw M) (n : Int) : TT (fX11_isDouble M 85 n) (fun r => B01 r) := by
  unfold fX11_isDouble
  refine TT.bind (in_T _ _ _) (fun r1 h_r1 => ?_)
  refine TT.ite (fun c1 => ?_) (fun c1 => ?_)
  · exact TT.ok (Or.inl rfl)
  · have g_r1 := h_r1.use c1
    refine TT.guard (wk85 hT_M) ?_
    refine TT.bind (lawOf_T hT_M hQ_M (by first | decide | omega) (by first | decide | omega)) (fun r4 h_r4 => ?_)
    refine TT.bind (has_T _ _) (fun r7 h_r7 => ?_)
    refine TT.ite (fun c2 => ?_) (fun c2 => ?_)
    · exact TT.ok (Or.inl rfl)
    · exact TT.ok (Or.inr rfl)
set_option maxHeartbeats 1000000 in
theorem endsR_T (hT_M : WT M) (hR_M : RH M) (hQ_M : RLw M) : TT (fX11_ends M 85) (fun r => RB M r) := by
  unfold fX11_ends
  have hW_M := RB.self M
  refine TT.iter (fun (s : Int × Mem) => (0 ≤ s.1 ∧ s.1 ≤ 4) ∧ RB M s.2 ∧ WT s.2 ∧ RH s.2 ∧ RLw s.2) (fun s => (4 - s.1).toNat) ?_ _ _ ⟨⟨by (try dsimp only [w32]); omega, by (try dsimp only [w32]); omega⟩, hW_M, hT_M, hR_M, hQ_M⟩ (by unfold BIG; (try dsimp only [w32]); omega)
  rintro rec1 s2 ⟨⟨hl_s2, hu_s2⟩, hW_s2, hT_s2, hR_s2, hQ_s2⟩ hr_rec1
  have hh_s2 := hR_s2.2.1
  have hv_s2 := hR_s2.2.2
  refine TT.guard (wk85 hT_s2) ?_
  refine TT.ite (fun c1 => ?_) (fun c1 => ?_)
  · refine TT.guard ⟨(by rw [wp85_37 hT_s2]; exact wk105 hT_s2), by omega, by rw [wp85_37 hT_s2, wl105 hT_s2]; omega⟩ ?_
    refine TT.guard ⟨(by rw [wp85_34 hT_s2]; exact wk102 hT_s2), by omega, by rw [wp85_34 hT_s2, wl102 hT_s2]; omega⟩ ?_
    refine TT.guard ⟨(by rw [wp85_37 hT_s2]; exact wk105 hT_s2), by omega, by rw [wp85_37 hT_s2, wl105 hT_s2]; omega⟩ ?_
    refine TT.sq hW_s2 hT_s2 hR_s2 hQ_s2 (by rw [wp85_37 hT_s2]; exact ⟨rfl, Or.inl (by decide), by decide⟩) (fun M8 e_M8 hW_M8 hT_M8 hR_M8 hQ_M8 => ?_)
    refine TT.guard ⟨(by rw [wp85_34 hT_M8]; exact wk102 hT_M8), by omega, by rw [wp85_34 hT_M8, wl102 hT_M8]; omega⟩ ?_
    refine TT.sq hW_M8 hT_M8 hR_M8 hQ_M8 (by rw [wp85_34 hT_M8]; exact ⟨rfl, Or.inl (by decide), by decide⟩) (fun M11 e_M11 hW_M11 hT_M11 hR_M11 hQ_M11 => ?_)
    refine TT.guard ⟨(by rw [wp85_33 hT_M11]; exact wk101 hT_M11), by omega, by rw [wp85_33 hT_M11, wl101 hT_M11]; omega⟩ ?_
    refine TT.sq hW_M11 hT_M11 hR_M11 hQ_M11 (by rw [wp85_33 hT_M11]; exact ⟨rfl, Or.inl (by decide), by decide⟩) (fun M14 e_M14 hW_M14 hT_M14 hR_M14 hQ_M14 => ?_)
    refine TT.guard ⟨(by rw [wp85_37 hT_M14]; exact wk105 hT_M14), by omega, by rw [wp85_37 hT_M14, wl105 hT_M14]; omega⟩ ?_
    refine TT.bind (lawOf_T hT_M14 hQ_M14 (by first | decide | omega) (by first | decide | omega)) (fun r17 h_r17 => ?_)
    refine TT.jI ?_
    refine TT.ite (fun c2 => ?_) (fun c2 => ?_)
    · refine TT.sq hW_M14 hT_M14 hR_M14 hQ_M14 (⟨rfl, Or.inr (by decide), by decide⟩) (fun M21 e_M21 hW_M21 hT_M21 hR_M21 hQ_M21 => ?_)
      exact hr_rec1 _ ⟨⟨by (try dsimp only [w32]); omega, by (try dsimp only [w32]); omega⟩, hW_M21, hT_M21, hR_M21, hQ_M21⟩ (by (try dsimp only [w32]); omega)
    · refine TT.sq hW_M14 hT_M14 hR_M14 hQ_M14 (⟨rfl, Or.inr (by decide), by decide⟩) (fun M21 e_M21 hW_M21 hT_M21 hR_M21 hQ_M21 => ?_)
      exact hr_rec1 _ ⟨⟨by (try dsimp only [w32]); omega, by (try dsimp only [w32]); omega⟩, hW_M21, hT_M21, hR_M21, hQ_M21⟩ (by (try dsimp only [w32]); omega)
  · refine TT.sq hW_s2 hT_s2 hR_s2 hQ_s2 (⟨rfl, Or.inr (by decide), by decide⟩) (fun M24 e_M24 hW_M24 hT_M24 hR_M24 hQ_M24 => ?_)
    exact TT.ok hW_M24
set_option maxHeartbeats 1000000 in
theorem wantR_T (hT_M : WT M) (hR_M : RH M) : TT (fX11_want M 85) (fun r => True) := by
  unfold fX11_want
  have hh := hR_M.2.1
  have hv := hR_M.2.2
  refine TT.iter (fun (s : Int × Int) => 0 ≤ s.2 ∧ s.2 ≤ 30) (fun s => (30 - s.2).toNat) ?_ _ _ ⟨by (try dsimp only [w32]); omega, by (try dsimp only [w32]); omega⟩ (by unfold BIG; (try dsimp only [w32]); omega)
  rintro rec1 s2 ⟨hl_s2, hu_s2⟩ hr_rec1
  have hx : w32 (M.1 85 25 * 5) = M.1 85 25 * 5 := w32_of (by omega) (by omega)
  refine TT.guard (wk85 hT_M) ?_
  refine TT.ite (fun c1 => ?_) (fun c1 => ?_)
  · try rw [w32_of (x := (M.1 85 25) * 5) (by omega) (by omega)] at c1
    refine TT.bind (of2_T hT_M hR_M (by rw [w32_of (x := 32 + s2.2) (by omega) (by omega)]; omega) (by rw [w32_of (x := 32 + s2.2) (by omega) (by omega)]; omega)) (fun r5 h_r5 => ?_)
    refine TT.guard ⟨(by rw [wp85_29 hT_M]; exact wk97 hT_M), by omega, by rw [wp85_29 hT_M, wl97 hT_M]; omega⟩ ?_
    refine TT.bind (greater_T _ _) (fun r8 h_r8 => ?_)
    exact hr_rec1 _ ⟨by (try dsimp only [w32]); omega, by (try dsimp only [w32]); omega⟩ (by (try dsimp only [w32]); omega)
  · try rw [w32_of (x := (M.1 85 25) * 5) (by omega) (by omega)] at c1
    exact TT.ok trivial
set_option maxHeartbeats 1000000 in
theorem piousR_T (hT_M : WT M) (hR_M : RH M) (hQ_M : RLw M) : TT (fX11_pious M 85) (fun r => True) := by
  unfold fX11_pious
  have hh := hR_M.2.1
  have hv := hR_M.2.2
  refine TT.iter (fun (s : Int × Int) => (0 ≤ s.2 ∧ s.2 ≤ 4) ∧ -1 ≤ s.1 ∧ s.1 < 4) (fun s => (4 - s.2).toNat) ?_ _ _ (by (try dsimp only [w32]); omega) (by unfold BIG; (try dsimp only [w32]); omega)
  rintro rec1 s2 ⟨⟨hl1, hu1⟩, hl2, hu2⟩ hr_rec1
  refine TT.guard (wk85 hT_M) ?_
  refine TT.ite (fun c1 => ?_) (fun c1 => ?_)
  · refine TT.ite (fun c2 => ?_) (fun c2 => ?_)
    · exact hr_rec1 _ (by (try dsimp only [w32]); omega) (by (try dsimp only [w32]); omega)
    · refine TT.bind (owesR_T hT_M hR_M hQ_M _ (by omega)) (fun r6 h_r6 => ?_)
      refine TT.bind (owesR_T hT_M hR_M hQ_M _ (by omega)) (fun r8 h_r8 => ?_)
      refine TT.ite (fun c3 => ?_) (fun c3 => ?_)
      · exact hr_rec1 _ (by (try dsimp only [w32]); omega) (by (try dsimp only [w32]); omega)
      · exact hr_rec1 _ (by (try dsimp only [w32]); omega) (by (try dsimp only [w32]); omega)
  · exact TT.ok trivial
set_option maxHeartbeats 1000000 in
theorem queuedR_T (hT_M : WT M) (hR_M : RH M) (hQ_M : RLw M) (k : Int) : TT (fX11_queued M 85 k) (fun r => True) := by
  unfold fX11_queued
  have hh := hR_M.2.1
  have hv := hR_M.2.2
  refine TT.iter (fun (s : Int) => 0 ≤ s ∧ s ≤ 4) (fun s => (4 - s).toNat) ?_ _ _ ⟨by (try dsimp only [w32]); omega, by (try dsimp only [w32]); omega⟩ (by unfold BIG; (try dsimp only [w32]); omega)
  rintro rec1 s2 ⟨hl_s2, hu_s2⟩ hr_rec1
  refine TT.guard (wk85 hT_M) ?_
  refine TT.ite (fun c1 => ?_) (fun c1 => ?_)
  · refine TT.iter (fun (s : Int × Int) => 0 ≤ s.2 ∧ s.2 ≤ 4) (fun s => (4 - s.2).toNat) ?_ _ _ ⟨by (try dsimp only [w32]); omega, by (try dsimp only [w32]); omega⟩ (by unfold BIG; (try dsimp only [w32]); omega)
    rintro rec5 s6 ⟨hl_s6, hu_s6⟩ hr_rec5
    refine TT.ite (fun c2 => ?_) (fun c2 => ?_)
    · refine TT.bind (oddR_T hT_M hR_M hQ_M _ (by omega)) (fun r8 h_r8 => ?_)
      refine TT.ite (fun c3 => ?_) (fun c3 => ?_)
      · refine TT.guard ⟨(by rw [wp85_38 hT_M]; exact wk106 hT_M), by omega, by rw [wp85_38 hT_M, wl106 hT_M]; omega⟩ ?_
        refine TT.guard ⟨(by rw [wp85_38 hT_M]; exact wk106 hT_M), by omega, by rw [wp85_38 hT_M, wl106 hT_M]; omega⟩ ?_
        refine TT.ite (fun c4 => ?_) (fun c4 => ?_)
        · exact hr_rec5 _ ⟨by (try dsimp only [w32]); omega, by (try dsimp only [w32]); omega⟩ (by (try dsimp only [w32]); omega)
        · exact hr_rec5 _ ⟨by (try dsimp only [w32]); omega, by (try dsimp only [w32]); omega⟩ (by (try dsimp only [w32]); omega)
      · exact hr_rec5 _ ⟨by (try dsimp only [w32]); omega, by (try dsimp only [w32]); omega⟩ (by (try dsimp only [w32]); omega)
    · refine TT.bind (oddR_T hT_M hR_M hQ_M _ (by omega)) (fun r14 h_r14 => ?_)
      refine TT.ite (fun c5 => ?_) (fun c5 => ?_)
      · refine TT.ite (fun c6 => ?_) (fun c6 => ?_)
        · exact TT.ok trivial
        · exact hr_rec1 _ ⟨by (try dsimp only [w32]); omega, by (try dsimp only [w32]); omega⟩ (by (try dsimp only [w32]); omega)
      · exact hr_rec1 _ ⟨by (try dsimp only [w32]); omega, by (try dsimp only [w32]); omega⟩ (by (try dsimp only [w32]); omega)
  · exact TT.ok trivial
set_option maxHeartbeats 1000000 in
theorem ofEachR_T (hT_M : WT M) (hR_M : RH M) (hQ_M : RLw M) (x : Int) : TT (fX11_ofEach M 85 x) (fun r => True) := by
  unfold fX11_ofEach
  have hh := hR_M.2.1
  have hv := hR_M.2.2
  refine TT.ite (fun c1 => ?_) (fun c1 => ?_)
  · try rw [w32_of (x := x.tdiv 10) (by omega) (by omega)] at c1
    refine TT.guard (wk85 hT_M) ?_
    refine TT.bind (isHouseR_T hT_M hR_M _) (fun r2 h_r2 => ?_)
    refine TT.ite (fun c2 => ?_) (fun c2 => ?_)
    · exact TT.ok trivial
    · have g_r2 := h_r2.use c2
      refine TT.guard ⟨(by rw [wp85_39 hT_M]; exact wk107 hT_M), by omega, by rw [wp85_39 hT_M, wl107 hT_M]; omega⟩ ?_
      exact TT.ok trivial
  · try rw [w32_of (x := x.tdiv 10) (by omega) (by omega)] at c1
    refine TT.guard (wk85 hT_M) ?_
    refine TT.bind (isThiefR_T hT_M hR_M _) (fun r7 h_r7 => ?_)
    refine TT.ite (fun c3 => ?_) (fun c3 => ?_)
    · exact TT.ok trivial
    · have g_r7 := h_r7.use c3
      refine TT.ite (fun c4 => ?_) (fun c4 => ?_)
      · try rw [w32_of (x := x.tdiv 10) (by omega) (by omega)] at c4
        refine TT.guard ⟨(by rw [wp85_35 hT_M]; exact wk103 hT_M), by omega, by rw [wp85_35 hT_M, wl103 hT_M]; omega⟩ ?_
        exact TT.ok trivial
      · try rw [w32_of (x := x.tdiv 10) (by omega) (by omega)] at c4
        refine TT.ite (fun c5 => ?_) (fun c5 => ?_)
        · try rw [w32_of (x := x.tdiv 10) (by omega) (by omega)] at c5
          refine TT.guard ⟨(by rw [wp85_36 hT_M]; exact wk104 hT_M), by omega, by rw [wp85_36 hT_M, wl104 hT_M]; omega⟩ ?_
          exact TT.ok trivial
        · try rw [w32_of (x := x.tdiv 10) (by omega) (by omega)] at c5
          refine TT.ite (fun c6 => ?_) (fun c6 => ?_)
          · try rw [w32_of (x := x.tdiv 10) (by omega) (by omega)] at c6
            refine TT.bind (owesR_T hT_M hR_M hQ_M _ (by omega)) (fun r16 h_r16 => ?_)
            exact TT.ok trivial
          · try rw [w32_of (x := x.tdiv 10) (by omega) (by omega)] at c6
            refine TT.ite (fun c7 => ?_) (fun c7 => ?_)
            · try rw [w32_of (x := x.tdiv 10) (by omega) (by omega)] at c7
              refine TT.guard ⟨(by rw [wp85_37 hT_M]; exact wk105 hT_M), by omega, by rw [wp85_37 hT_M, wl105 hT_M]; omega⟩ ?_
              exact TT.ok trivial
            · try rw [w32_of (x := x.tdiv 10) (by omega) (by omega)] at c7
              exact TT.ok trivial
set_option maxHeartbeats 1000000 in
theorem ofStateR_T (hT_M : WT M) (hR_M : RH M) (hQ_M : RLw M) (x : Int) : TT (fX11_ofState M 85 x) (fun r => True) := by
  unfold fX11_ofState
  refine TT.ite (fun c1 => ?_) (fun c1 => ?_)
  · refine TT.guard (wk85 hT_M) ?_
    refine TT.bind (wantR_T hT_M hR_M  ) (fun r2 h_r2 => ?_)
    exact TT.ok trivial
  · refine TT.ite (fun c2 => ?_) (fun c2 => ?_)
    · refine TT.guard (wk85 hT_M) ?_
      exact TT.ok trivial
    · refine TT.ite (fun c3 => ?_) (fun c3 => ?_)
      · refine TT.guard (wk85 hT_M) ?_
        refine TT.bind (piousR_T hT_M hR_M hQ_M  ) (fun r8 h_r8 => ?_)
        exact TT.ok trivial
      · refine TT.ite (fun c4 => ?_) (fun c4 => ?_)
        · exact TT.ok trivial
        · refine TT.guard (wk85 hT_M) ?_
          refine TT.bind (ofEachR_T hT_M hR_M hQ_M _ ) (fun r12 h_r12 => ?_)
          exact TT.ok trivial
theorem common_fuel (M : Mem) : ∀ (n : Nat) (x y : Int), y.natAbs < 2 ^ n → ∀ fu : Nat, 2 * n + 1 ≤ fu → TT (iterC (fun (rec1 : (Int × Int) → Option Int) (s2 : Int × Int) => if s2.2 = 0 then (some s2.1) else (if s2.2 ≠ 0 then rec1 (s2.2, s2.1.tmod s2.2) else none)) fu (x, y)) (fun r => x ≠ 0 ∨ y ≠ 0 → r ≠ 0)
  | 0, x, y, hy, fu + 1, _ => by
    have : y = 0 := by have : y.natAbs < 1 := hy; omega
    exact TT.pos this (TT.ok (fun h => by dsimp only; omega))
  | n + 1, x, y, hy, fu + 2, hf => by
    refine TT.ite (fun h0 => TT.ok (fun h => by dsimp only at h0 ⊢; omega)) (fun h0 => TT.guard h0 ?_)
    dsimp only at h0 ⊢
    have hz : (x.tmod y).natAbs = x.natAbs % y.natAbs := Int.natAbs_tmod x y
    refine TT.mono (Q := fun r => r ≠ 0) ?_ (fun r h _ => h)
    refine TT.ite (fun h1 => TT.ok h0) (fun h1 => TT.guard h1 ?_)
    dsimp only at h1 ⊢
    have hw : (y.tmod (x.tmod y)).natAbs = y.natAbs % (x.tmod y).natAbs := Int.natAbs_tmod _ _
    refine (common_fuel M n _ _ ?_ fu (by omega)).mono (fun r h => h (Or.inl h1))
    have hlt : (x.tmod y).natAbs < y.natAbs := by rw [hz]; exact Nat.mod_lt _ (by omega)
    have hpos : 0 < (x.tmod y).natAbs := by omega
    generalize (x.tmod y).natAbs = b at *
    generalize y.natAbs = a at *
    have h3 := Nat.mod_lt a hpos
    have h4 := Nat.div_add_mod a b
    have h5 : 1 ≤ a / b := (Nat.le_div_iff_mul_le hpos).mpr (by omega)
    have h6 : b ≤ b * (a / b) := Nat.le_mul_of_pos_right b (by omega)
    rw [hw]
    have : 2 ^ (n + 1) = 2 * 2 ^ n := by rw [Nat.pow_succ]; omega
    omega
theorem common_T {x y : Int} (hy : r32 y) : TT (fX11_common M x y) (fun r => x ≠ 0 ∨ y ≠ 0 → r ≠ 0) := by
  unfold fX11_common
  refine common_fuel M 32 x y ?_ BIG (by unfold BIG; omega)
  unfold r32 at hy
  have : (2 : Nat) ^ 32 = 4294967296 := by decide
  omega
theorem leastR_T {x y z : Int} (hx : r32 x) : TT (fX11_least M x y z) (fun r => True) := by
  unfold fX11_least
  have key : ∀ t : Int, y ≠ 0 → TT ((fX11_common M y x).bind fun r5 => if r5 ≠ 0 then some (w32 (t.tdiv r5)) else none) (fun r => True) := fun t h0 => TT.bind (common_T hx) (fun r h => TT.guard (h (Or.inl h0)) (TT.ok trivial))
  refine TT.ite (fun _ => TT.ite (fun _ => TT.ok trivial) (fun _ => TT.ok trivial)) (fun h0 => TT.jI (TT.ite (fun _ => key _ h0) (fun _ => key _ h0)))
theorem mn_ (h : WT M) {i : Int} (h1 : 0 ≤ i) (h2 : i ≤ 15) : 0 ≤ M.1 90 i ∧ M.1 90 i ≤ 2 := rows_at (p := (90, 0, 15, 0, 2)) h.2.1 37 rfl h1 h2
theorem is_T (hT : WT M) {s : Int} (k : Int) (h0 : 0 ≤ s) (h1 : s < 4) : TT (fX11_is M 85 s k) (fun r => PB r (0 ≤ k ∧ k < M.1 90 s ∧ k < 2)) := by
  unfold fX11_is
  have hm := mn_ hT (i := s) h0 (by omega)
  rw [wp85_5 hT, w32_of (x := M.1 90 s - 1) (by omega) (by omega)]
  exact TT.guard (wk85 hT) (TT.guard ⟨wk90 hT, h0, by rw [wl90 hT]; omega⟩ (TT.bind (in_T _ _ _) (fun r q => TT.guard q.1 (TT.ok ⟨q.1, fun c => by have := q.use c; omega⟩))))
/-- a field of the reference is set -/
def KF (i : Int) (M N : Mem) : Prop := Keep M N ∧ ∀ y, y ≠ i → N.1 85 y = M.1 85 y
theorem hasLaw_T (hT : WT M) (k : Int) : TT (fX11_hasLaw M 85 k) (fun r => B01 r.1 ∧ KF 27 M r.2 ∧ (r.1 ≠ 0 → RLw r.2)) := by
  unfold fX11_hasLaw
  have hK : Keep M (mst M 85 27 k) := Keep.self.st rfl
  have hT2 := hT.keep hK
  refine TT.guard (wk85 hT) (TT.sM (TT.bind (is_T hT2 k (by decide) (by decide)) (fun r q => TT.guard q.1 (TT.ok ⟨q.1, ⟨hK, fun y hy => mst_nf _ _ _ _ _ _ hy⟩, fun h => ?_⟩))))
  have q2 := q.2 h
  have hc := (hT2.2.2.1 0 k (by decide) (by decide) q2.1 q2.2.2).2 (by simpa using q2.2.1)
  refine ⟨?_, ?_⟩
  · show (mst M 85 27 k).1 85 27 = 0 ∨ (mst M 85 27 k).1 85 27 = 1
    rw [mst_at]; omega
  · show 2 ≤ (mst M 85 27 k).1 92 (3 * (mst M 85 27 k).1 85 27) ∧ _
    rw [mst_at]; simpa using hc
theorem hasNights_T (hT : WT M) (k : Int) : TT (fX11_hasNights M 85 k) (fun r => B01 r.1 ∧ KF 28 M r.2 ∧ (r.1 ≠ 0 → r.2.1 85 28 = 0 ∨ r.2.1 85 28 = 1)) := by
  unfold fX11_hasNights
  have hK : Keep M (mst M 85 28 k) := Keep.self.st rfl
  have hT2 := hT.keep hK
  refine TT.guard (wk85 hT) (TT.sM (TT.bind (is_T hT2 k (by decide) (by decide)) (fun r q => TT.guard q.1 (TT.ok ⟨q.1, ⟨hK, fun y hy => mst_nf _ _ _ _ _ _ hy⟩, fun h => ?_⟩))))
  show (mst M 85 28 k).1 85 28 = 0 ∨ (mst M 85 28 k).1 85 28 = 1
  have q2 := q.2 h
  rw [mst_at]; omega
theorem hasSight_T (hT : WT M) (k : Int) : TT (fX11_hasSight M 85 k) (fun r => B01 r.1 ∧ KF 48 M r.2 ∧ (r.1 ≠ 0 → r.2.1 85 48 = 0 ∨ r.2.1 85 48 = 1)) := by
  unfold fX11_hasSight
  have hK : Keep M (mst M 85 48 k) := Keep.self.st rfl
  have hT2 := hT.keep hK
  refine TT.guard (wk85 hT) (TT.sM (TT.bind (is_T hT2 k (by decide) (by decide)) (fun r q => TT.guard q.1 (TT.ok ⟨q.1, ⟨hK, fun y hy => mst_nf _ _ _ _ _ _ hy⟩, fun h => ?_⟩))))
  show (mst M 85 48 k).1 85 48 = 0 ∨ (mst M 85 48 k).1 85 48 = 1
  have q2 := q.2 h
  rw [mst_at]; omega
def KH (M N : Mem) : Prop := Keep M N ∧ ∀ y, (y < 24 ∨ 27 ≤ y) → N.1 85 y = M.1 85 y
theorem ofC_T (hT : WT M) {t i : Int} (ht : t = 0 ∨ t = 1) (e : M.1 85 24 = t) (h0 : 0 ≤ i) (h1 : i ≤ 91) : TT (fX11_of M 85 i) (fun r => r = M.1 91 (92 * t + i)) := by
  unfold fX11_of
  rw [wp85_6 hT, e, w32_of (x := 92 * t) (by omega) (by omega), w32_of (x := 92 * t + i) (by omega) (by omega)]
  exact TT.guard (wk85 hT) (TT.guard ⟨wk91 hT, by omega, by rw [wl91 hT]; omega⟩ (TT.ok rfl))
theorem hand_T (hT : WT M) (k : Int) : TT (fX11_hand M 85 k) (fun r => B01 r.1 ∧ KH M r.2 ∧ (r.1 ≠ 0 → RH r.2)) := by
  unfold fX11_hand
  refine TT.guard (wk85 hT) (TT.bind (is_T hT k (by decide) (by decide)) (fun r q => TT.ite (fun _ => TT.ok ⟨Or.inl rfl, ⟨Keep.self, fun _ _ => rfl⟩, fun h => absurd rfl h⟩) (fun h => TT.sM ?_)))
  have q2 := q.2 h
  have ht : k = 0 ∨ k = 1 := by omega
  have hK5 : Keep M (mst M 85 24 k) := Keep.self.st rfl
  have hT5 := hT.keep hK5
  refine TT.bind (ofC_T hT5 ht (mst_at _ _ _ _) (by decide) (by decide)) (fun r7 e7 => TT.sM ?_)
  have hK9 : Keep M (mst (mst M 85 24 k) 85 25 r7) := hK5.st rfl
  have hT9 := hT.keep hK9
  refine TT.bind (ofC_T (t := k) hT9 ht (by rw [mst_nf _ _ _ _ _ _ (by decide), mst_at]) (by decide) (by decide)) (fun r11 e11 => TT.sM (TT.ok ⟨Or.inr rfl, ⟨hK9.st rfl, fun y hy => ?_⟩, fun _ => ?_⟩))
  · show (mst _ 85 26 r11).1 85 y = _
    rw [mst_nf _ _ _ _ _ _ (by omega), mst_nf _ _ _ _ _ _ (by omega), mst_nf _ _ _ _ _ _ (by omega)]
  · have s7 := rt0_ hT5 ht (i := 0) (by decide) (by decide)
    have s11 := rt1_ hT9 ht (i := 1) (by decide) (by decide)
    have hc := (hT5.2.2.1 0 k (by decide) (by decide) q2.1 q2.2.2).1 (by rw [mst_ne _ _ _ _ _ _ (by decide)]; simpa using q2.2.1)
    have e92 : 184 * 0 + 92 * k = 92 * k + 0 := by omega
    rw [e92] at hc
    refine ⟨?_, ?_, ?_⟩
    · show (mst _ 85 26 r11).1 85 24 = 0 ∨ (mst _ 85 26 r11).1 85 24 = 1
      rw [mst_nf _ _ _ _ _ _ (by decide), mst_nf _ _ _ _ _ _ (by decide), mst_at]; exact ht
    · show 1 ≤ (mst _ 85 26 r11).1 85 25 ∧ (mst _ 85 26 r11).1 85 25 ≤ 6
      rw [mst_nf _ _ _ _ _ _ (by decide), mst_at, e7]; exact ⟨hc, s7.2⟩
    · show 0 ≤ (mst _ 85 26 r11).1 85 26 ∧ (mst _ 85 26 r11).1 85 26 ≤ 4
      rw [mst_at, e11]; exact s11
set_option maxHeartbeats 1000000 in
theorem aidNightsR_T (hT_M : WT M) (hR_M : RH M) : TT (fX11_aidNights M 85) (fun r => True) := by
  unfold fX11_aidNights
  have hh := hR_M.2.1
  have hv := hR_M.2.2
  refine TT.iter (fun (s : Int × Int) => 0 ≤ s.2 ∧ s.2 ≤ 4) (fun s => (4 - s.2).toNat) ?_ _ _ ⟨by (try dsimp only [w32]); omega, by (try dsimp only [w32]); omega⟩ (by unfold BIG; (try dsimp only [w32]); omega)
  rintro rec1 s2 ⟨hl_s2, hu_s2⟩ hr_rec1
  refine TT.guard (wk85 hT_M) ?_
  refine TT.ite (fun c1 => ?_) (fun c1 => ?_)
  · refine TT.bind (of84_T hT_M hR_M (by rw [w32_of (x := 84 + s2.2) (by omega) (by omega)]; omega) (by rw [w32_of (x := 84 + s2.2) (by omega) (by omega)]; omega)) (fun r5 h_r5 => ?_)
    exact hr_rec1 _ ⟨by (try dsimp only [w32]); omega, by (try dsimp only [w32]); omega⟩ (by (try dsimp only [w32]); omega)
  · refine TT.ite (fun c2 => ?_) (fun c2 => ?_)
    · exact TT.ok trivial
    · refine TT.ite (fun c3 => ?_) (fun c3 => ?_)
      · exact TT.ok trivial
      · refine TT.guard (by first | omega | (simp only [w32]; omega)) ?_
        exact TT.ok trivial
set_option maxHeartbeats 1000000 in
theorem aidGoodR_T (hT_M : WT M) (hR_M : RH M) (g : Int) (hg : 0 ≤ g ∧ g < 5) : TT (fX11_aidGood M 85 g) (fun r => B01 r.1 ∧ RB M r.2) := by
  unfold fX11_aidGood
  have hW_M := RB.self M
  refine TT.iter (fun (s : Int × Int × Mem) => (0 ≤ s.2.1 ∧ s.2.1 ≤ 6) ∧ RB M s.2.2 ∧ WT s.2.2 ∧ RH s.2.2) (fun s => (6 - s.2.1).toNat) ?_ _ _ ⟨⟨by (try dsimp only [w32]); omega, by (try dsimp only [w32]); omega⟩, hW_M, hT_M, hR_M⟩ (by unfold BIG; (try dsimp only [w32]); omega)
  rintro rec1 s2 ⟨⟨hl_s2, hu_s2⟩, hW_s2, hT_s2, hR_s2⟩ hr_rec1
  have hh_s2 := hR_s2.2.1
  have hv_s2 := hR_s2.2.2
  refine TT.guard (wk85 hT_s2) ?_
  refine TT.ite (fun c1 => ?_) (fun c1 => ?_)
  · refine TT.guard ⟨(by rw [wp85_43 hT_s2]; exact wk108 hT_s2), by rw [w32_of (x := 5 * s2.2.1) (by omega) (by omega), w32_of (x := ((5 * s2.2.1)) + g) (by omega) (by omega)]; omega, by rw [wp85_43 hT_s2, wl108 hT_s2, w32_of (x := 5 * s2.2.1) (by omega) (by omega), w32_of (x := ((5 * s2.2.1)) + g) (by omega) (by omega)]; omega⟩ ?_
    refine TT.sr hW_s2 hT_s2 hR_s2 (by rw [wp85_43 hT_s2]; exact ⟨rfl, Or.inl (by decide), by decide⟩) (fun M6 e_M6 hW_M6 hT_M6 hR_M6 => ?_)
    refine TT.bind (lacksR_T hT_M6 hR_M6 _ _ (by omega) (by omega)) (fun r8 h_r8 => ?_)
    exact hr_rec1 _ ⟨⟨by (try dsimp only [w32]); omega, by (try dsimp only [w32]); omega⟩, hW_M6, hT_M6, hR_M6⟩ (by (try dsimp only [w32]); omega)
  · refine TT.iter (fun (s : Int × Int × Mem) => (0 ≤ s.2.1 ∧ s.2.1 ≤ 10) ∧ RB M s.2.2 ∧ WT s.2.2 ∧ RH s.2.2) (fun s => (10 - s.2.1).toNat) ?_ _ _ ⟨⟨by (try dsimp only [w32]); omega, by (try dsimp only [w32]); omega⟩, hW_s2, hT_s2, hR_s2⟩ (by unfold BIG; (try dsimp only [w32]); omega)
    rintro rec10 s11 ⟨⟨hl_s11, hu_s11⟩, hW_s11, hT_s11, hR_s11⟩ hr_rec10
    have hh_s11 := hR_s11.2.1
    have hv_s11 := hR_s11.2.2
    refine TT.ite (fun c2 => ?_) (fun c2 => ?_)
    · refine TT.iter (fun (s : Int × Int × Mem) => (0 ≤ s.2.1 ∧ s.2.1 ≤ 6) ∧ RB M s.2.2 ∧ WT s.2.2 ∧ RH s.2.2) (fun s => (6 - s.2.1).toNat) ?_ _ _ ⟨⟨by (try dsimp only [w32]); omega, by (try dsimp only [w32]); omega⟩, hW_s11, hT_s11, hR_s11⟩ (by unfold BIG; (try dsimp only [w32]); omega)
      rintro rec13 s14 ⟨⟨hl_s14, hu_s14⟩, hW_s14, hT_s14, hR_s14⟩ hr_rec13
      have hh_s14 := hR_s14.2.1
      have hv_s14 := hR_s14.2.2
      refine TT.guard (wk85 hT_s14) ?_
      refine TT.ite (fun c3 => ?_) (fun c3 => ?_)
      · refine TT.bind (of2_T hT_s14 hR_s14 (by rw [w32_of (x := 62 + s14.2.1) (by omega) (by omega)]; omega) (by rw [w32_of (x := 62 + s14.2.1) (by omega) (by omega)]; omega)) (fun r17 h_r17 => ?_)
        refine TT.jI ?_
        refine TT.ite (fun c4 => ?_) (fun c4 => ?_)
        · refine TT.bind (spareR_T hT_s14 hR_s14 _ _ (by omega) (by omega)) (fun r30 h_r30 => ?_)
          refine TT.bind (lesser_T _ _) (fun r32 h_r32 => ?_)
          refine TT.guard ⟨(by rw [wp85_43 hT_s14]; exact wk108 hT_s14), by rw [w32_of (x := 5 * s14.2.1) (by omega) (by omega), w32_of (x := ((5 * s14.2.1)) + g) (by omega) (by omega)]; omega, by rw [wp85_43 hT_s14, wl108 hT_s14, w32_of (x := 5 * s14.2.1) (by omega) (by omega), w32_of (x := ((5 * s14.2.1)) + g) (by omega) (by omega)]; omega⟩ ?_
          refine TT.guard ⟨(by rw [wp85_43 hT_s14]; exact wk108 hT_s14), by rw [w32_of (x := 5 * s14.2.1) (by omega) (by omega), w32_of (x := ((5 * s14.2.1)) + g) (by omega) (by omega)]; omega, by rw [wp85_43 hT_s14, wl108 hT_s14, w32_of (x := 5 * s14.2.1) (by omega) (by omega), w32_of (x := ((5 * s14.2.1)) + g) (by omega) (by omega)]; omega⟩ ?_
          refine TT.sr hW_s14 hT_s14 hR_s14 (by rw [wp85_43 hT_s14]; exact ⟨rfl, Or.inl (by decide), by decide⟩) (fun M23 e_M23 hW_M23 hT_M23 hR_M23 => ?_)
          refine TT.sr hW_M23 hT_M23 hR_M23 (⟨rfl, Or.inr (by decide), by decide⟩) (fun M25 e_M25 hW_M25 hT_M25 hR_M25 => ?_)
          refine TT.sr hW_M25 hT_M25 hR_M25 (⟨rfl, Or.inr (by decide), by decide⟩) (fun M27 e_M27 hW_M27 hT_M27 hR_M27 => ?_)
          exact hr_rec13 _ ⟨⟨by (try dsimp only [w32]); omega, by (try dsimp only [w32]); omega⟩, hW_M27, hT_M27, hR_M27⟩ (by (try dsimp only [w32]); omega)
        · refine TT.guard ⟨(by rw [wp85_43 hT_s14]; exact wk108 hT_s14), by rw [w32_of (x := 5 * s14.2.1) (by omega) (by omega), w32_of (x := ((5 * s14.2.1)) + g) (by omega) (by omega)]; omega, by rw [wp85_43 hT_s14, wl108 hT_s14, w32_of (x := 5 * s14.2.1) (by omega) (by omega), w32_of (x := ((5 * s14.2.1)) + g) (by omega) (by omega)]; omega⟩ ?_
          refine TT.guard ⟨(by rw [wp85_43 hT_s14]; exact wk108 hT_s14), by rw [w32_of (x := 5 * s14.2.1) (by omega) (by omega), w32_of (x := ((5 * s14.2.1)) + g) (by omega) (by omega)]; omega, by rw [wp85_43 hT_s14, wl108 hT_s14, w32_of (x := 5 * s14.2.1) (by omega) (by omega), w32_of (x := ((5 * s14.2.1)) + g) (by omega) (by omega)]; omega⟩ ?_
          refine TT.sr hW_s14 hT_s14 hR_s14 (by rw [wp85_43 hT_s14]; exact ⟨rfl, Or.inl (by decide), by decide⟩) (fun M23 e_M23 hW_M23 hT_M23 hR_M23 => ?_)
          refine TT.sr hW_M23 hT_M23 hR_M23 (⟨rfl, Or.inr (by decide), by decide⟩) (fun M25 e_M25 hW_M25 hT_M25 hR_M25 => ?_)
          refine TT.sr hW_M25 hT_M25 hR_M25 (⟨rfl, Or.inr (by decide), by decide⟩) (fun M27 e_M27 hW_M27 hT_M27 hR_M27 => ?_)
          exact hr_rec13 _ ⟨⟨by (try dsimp only [w32]); omega, by (try dsimp only [w32]); omega⟩, hW_M27, hT_M27, hR_M27⟩ (by (try dsimp only [w32]); omega)
      · exact hr_rec10 _ ⟨⟨by (try dsimp only [w32]); omega, by (try dsimp only [w32]); omega⟩, hW_s14, hT_s14, hR_s14⟩ (by (try dsimp only [w32]); omega)
    · refine TT.ite (fun c5 => ?_) (fun c5 => ?_)
      · exact TT.ok ⟨Or.inr rfl, hW_s11⟩
      · exact TT.ok ⟨Or.inl rfl, hW_s11⟩
set_option maxHeartbeats 1000000 in
theorem roundOfR_T (hT_M : WT M) (hR_M : RH M) (h : Int) (h6 : 0 ≤ h ∧ h < 6) : TT (fX11_roundOf M 85 h) (fun r => r = -1 ∨ (1 ≤ r ∧ r ≤ 6)) := by
  unfold fX11_roundOf
  have hh := hR_M.2.1
  have hv := hR_M.2.2
  refine TT.iter (fun (s : Int × Int) => (1 ≤ s.2 ∧ s.2 ≤ 7) ∧ 0 ≤ s.1 ∧ s.1 < 6) (fun s => (7 - s.2).toNat) ?_ _ _ (by (try dsimp only [w32]); omega) (by unfold BIG; (try dsimp only [w32]); omega)
  rintro rec1 s2 ⟨⟨hl1, hu1⟩, hl2, hu2⟩ hr_rec1
  refine TT.guard (wk85 hT_M) ?_
  refine TT.ite (fun c1 => ?_) (fun c1 => ?_)
  · exact TT.ok (by omega)
  · refine TT.bind (of68_T hT_M hR_M (by rw [w32_of (x := 68 + s2.1) (by omega) (by omega)]; omega) (by rw [w32_of (x := 68 + s2.1) (by omega) (by omega)]; omega)) (fun r5 h_r5 => ?_)
    refine TT.ite (fun c2 => ?_) (fun c2 => ?_)
    · exact TT.ok (by omega)
    · exact hr_rec1 _ (by (try dsimp only [w32]); omega) (by (try dsimp only [w32]); omega)
set_option maxHeartbeats 1000000 in
theorem worthOfR_T (hT_M : WT M) (hR_M : RH M) (h : Int) (h6 : 0 ≤ h ∧ h < 6) : TT (fX11_worthOf M 85 h) (fun r => r32 r) := by
  unfold fX11_worthOf
  have hh := hR_M.2.1
  have hv := hR_M.2.2
  refine TT.iter (fun (s : Int × Int) => (0 ≤ s.2 ∧ s.2 ≤ 5) ∧ r32 s.1) (fun s => (5 - s.2).toNat) ?_ _ _ ⟨by (try dsimp only [w32]); omega, r32_0⟩ (by unfold BIG; (try dsimp only [w32]); omega)
  rintro rec1 s2 ⟨⟨hl1, hu1⟩, hl2⟩ hr_rec1
  refine TT.ite (fun c1 => ?_) (fun c1 => ?_)
  · refine TT.guard (wk85 hT_M) ?_
    refine TT.bind (of2_T hT_M hR_M (by rw [w32_of (x := 5 * h) (by omega) (by omega), w32_of (x := 2 + ((5 * h))) (by omega) (by omega), w32_of (x := ((2 + ((5 * h)))) + s2.2) (by omega) (by omega)]; omega) (by rw [w32_of (x := 5 * h) (by omega) (by omega), w32_of (x := 2 + ((5 * h))) (by omega) (by omega), w32_of (x := ((2 + ((5 * h)))) + s2.2) (by omega) (by omega)]; omega)) (fun r4 h_r4 => ?_)
    refine TT.bind (of74_T hT_M hR_M (by rw [w32_of (x := 79 + s2.2) (by omega) (by omega)]; omega) (by rw [w32_of (x := 79 + s2.2) (by omega) (by omega)]; omega)) (fun r7 h_r7 => ?_)
    exact hr_rec1 _ ⟨by (try dsimp only [w32]); omega, w32_r _⟩ (by (try dsimp only [w32]); omega)
  · exact TT.ok hl2
set_option maxHeartbeats 1000000 in
theorem prizeOfR_T (hT_M : WT M) (hR_M : RH M) (x y : Int) (hx : 0 ≤ x ∧ x < 6) : TT (fX11_prizeOf M 85 x y) (fun r => True) := by
  unfold fX11_prizeOf
  refine TT.ite (fun c1 => ?_) (fun c1 => ?_)
  · refine TT.guard (wk85 hT_M) ?_
    refine TT.bind (worthOfR_T hT_M hR_M _ (by omega)) (fun r2 h_r2 => ?_)
    refine TT.bind (of2_T hT_M hR_M (by rw [w32_of (x := 62 + x) (by omega) (by omega)]; omega) (by rw [w32_of (x := 62 + x) (by omega) (by omega)]; omega)) (fun r5 h_r5 => ?_)
    exact TT.ok trivial
  · refine TT.guard (wk85 hT_M) ?_
    refine TT.bind (worthOfR_T hT_M hR_M _ (by omega)) (fun r7 h_r7 => ?_)
    refine TT.bind (of2_T hT_M hR_M (by rw [w32_of (x := 62 + x) (by omega) (by omega)]; omega) (by rw [w32_of (x := 62 + x) (by omega) (by omega)]; omega)) (fun r10 h_r10 => ?_)
    exact TT.ok trivial
set_option maxHeartbeats 1000000 in
theorem isRestR_T (hT_M : WT M) (hR_M : RH M) (x y : Int) (hx : 0 ≤ x ∧ x < 6) (hy : 0 ≤ y ∧ y < 6) : TT (fX11_isRest M 85 x y) (fun r => True) := by
  unfold fX11_isRest
  have hh := hR_M.2.1
  have hv := hR_M.2.2
  refine TT.iter (fun (s : Int) => 0 ≤ s ∧ s ≤ 6) (fun s => (6 - s).toNat) ?_ _ _ ⟨by (try dsimp only [w32]); omega, by (try dsimp only [w32]); omega⟩ (by unfold BIG; (try dsimp only [w32]); omega)
  rintro rec1 s2 ⟨hl_s2, hu_s2⟩ hr_rec1
  refine TT.guard (wk85 hT_M) ?_
  refine TT.ite (fun c1 => ?_) (fun c1 => ?_)
  · refine TT.bind (prizeOfR_T hT_M hR_M _ _ (by omega)) (fun r5 h_r5 => ?_)
    refine TT.bind (prizeOfR_T hT_M hR_M _ _ (by omega)) (fun r7 h_r7 => ?_)
    refine TT.ite (fun c2 => ?_) (fun c2 => ?_)
    · exact TT.ok trivial
    · refine TT.bind (prizeOfR_T hT_M hR_M _ _ (by omega)) (fun r10 h_r10 => ?_)
      refine TT.bind (prizeOfR_T hT_M hR_M _ _ (by omega)) (fun r12 h_r12 => ?_)
      refine TT.ite (fun c3 => ?_) (fun c3 => ?_)
      · exact TT.ok trivial
      · exact hr_rec1 _ ⟨by (try dsimp only [w32]); omega, by (try dsimp only [w32]); omega⟩ (by (try dsimp only [w32]); omega)
  · exact TT.ok trivial
set_option maxHeartbeats 1000000 in
theorem limitsR_T (hT_M : WT M) (hR_M : RH M) (x : Int) : TT (fX11_limits M 85 x) (fun r => True) := by
  unfold fX11_limits
  have hh := hR_M.2.1
  have hv := hR_M.2.2
  refine TT.iter (fun (s : Int × Int) => 0 ≤ s.2 ∧ s.2 ≤ 4) (fun s => (4 - s.2).toNat) ?_ _ _ ⟨by (try dsimp only [w32]); omega, by (try dsimp only [w32]); omega⟩ (by unfold BIG; (try dsimp only [w32]); omega)
  rintro rec1 s2 ⟨hl_s2, hu_s2⟩ hr_rec1
  refine TT.guard (wk85 hT_M) ?_
  refine TT.ite (fun c1 => ?_) (fun c1 => ?_)
  · refine TT.bind (has_T _ _) (fun r5 h_r5 => ?_)
    refine TT.ite (fun c2 => ?_) (fun c2 => ?_)
    · exact hr_rec1 _ ⟨by (try dsimp only [w32]); omega, by (try dsimp only [w32]); omega⟩ (by (try dsimp only [w32]); omega)
    · refine TT.bind (of84_T hT_M hR_M (by rw [w32_of (x := 84 + s2.2) (by omega) (by omega)]; omega) (by rw [w32_of (x := 84 + s2.2) (by omega) (by omega)]; omega)) (fun r8 h_r8 => ?_)
      exact hr_rec1 _ ⟨by (try dsimp only [w32]); omega, by (try dsimp only [w32]); omega⟩ (by (try dsimp only [w32]); omega)
  · exact TT.ok trivial
set_option maxHeartbeats 1000000 in
theorem headsR_T (hT_M : WT M) (hR_M : RH M) (x : Int) : TT (fX11_heads M 85 x) (fun r => True) := by
  unfold fX11_heads
  have hh := hR_M.2.1
  have hv := hR_M.2.2
  refine TT.iter (fun (s : Int × Int) => 0 ≤ s.2 ∧ s.2 ≤ 4) (fun s => (4 - s.2).toNat) ?_ _ _ ⟨by (try dsimp only [w32]); omega, by (try dsimp only [w32]); omega⟩ (by unfold BIG; (try dsimp only [w32]); omega)
  rintro rec1 s2 ⟨hl_s2, hu_s2⟩ hr_rec1
  refine TT.guard (wk85 hT_M) ?_
  refine TT.ite (fun c1 => ?_) (fun c1 => ?_)
  · refine TT.bind (has_T _ _) (fun r5 h_r5 => ?_)
    refine TT.ite (fun c2 => ?_) (fun c2 => ?_)
    · exact hr_rec1 _ ⟨by (try dsimp only [w32]); omega, by (try dsimp only [w32]); omega⟩ (by (try dsimp only [w32]); omega)
    · exact hr_rec1 _ ⟨by (try dsimp only [w32]); omega, by (try dsimp only [w32]); omega⟩ (by (try dsimp only [w32]); omega)
  · exact TT.ok trivial
set_option maxHeartbeats 1000000 in
theorem helpsR_T (hT_M : WT M) (hR_M : RH M) (x y : Int) (hx : 0 ≤ x ∧ x < 6) (hy : 0 ≤ y ∧ y < 6) : TT (fX11_helps M 85 x y) (fun r => True) := by
  unfold fX11_helps
  refine TT.iter (fun (s : Int) => 0 ≤ s ∧ s ≤ 5) (fun s => (5 - s).toNat) ?_ _ _ ⟨by (try dsimp only [w32]); omega, by (try dsimp only [w32]); omega⟩ (by unfold BIG; (try dsimp only [w32]); omega)
  rintro rec1 s2 ⟨hl_s2, hu_s2⟩ hr_rec1
  refine TT.ite (fun c1 => ?_) (fun c1 => ?_)
  · refine TT.guard (wk85 hT_M) ?_
    refine TT.bind (spareR_T hT_M hR_M _ _ (by omega) (by omega)) (fun r4 h_r4 => ?_)
    refine TT.ite (fun c2 => ?_) (fun c2 => ?_)
    · refine TT.bind (lacksR_T hT_M hR_M _ _ (by omega) (by omega)) (fun r8 h_r8 => ?_)
      refine TT.ite (fun c3 => ?_) (fun c3 => ?_)
      · exact TT.ok trivial
      · exact hr_rec1 _ ⟨by (try dsimp only [w32]); omega, by (try dsimp only [w32]); omega⟩ (by (try dsimp only [w32]); omega)
    · exact hr_rec1 _ ⟨by (try dsimp only [w32]); omega, by (try dsimp only [w32]); omega⟩ (by (try dsimp only [w32]); omega)
  · exact TT.ok trivial
set_option maxHeartbeats 1000000 in
theorem figureR_T (x g : Int) (hg : 0 ≤ g ∧ g < 5) : TT (fX11_figure M x g) (fun r => True) := by
  unfold fX11_figure
  refine TT.iter (fun (s : Int × Int) => -1 ≤ s.2 ∧ s.2 ≤ 4) (fun s => (s.2 + 1).toNat) ?_ _ _ ⟨by (try dsimp only [w32]); omega, by (try dsimp only [w32]); omega⟩ (by unfold BIG; (try dsimp only [w32]); omega)
  rintro rec1 s2 ⟨hl_s2, hu_s2⟩ hr_rec1
  refine TT.ite (fun c1 => ?_) (fun c1 => ?_)
  · exact hr_rec1 _ ⟨by (try dsimp only [w32]); omega, by (try dsimp only [w32]); omega⟩ (by (try dsimp only [w32]); omega)
  · exact TT.ok trivial
set_option maxHeartbeats 1000000 in
theorem haulWorthR_T (hT_M : WT M) (hR_M : RH M) (x h n v : Int) (h6 : 0 ≤ h ∧ h < 6) : TT (fX11_haulWorth M 85 x h n v) (fun r => True) := by
  unfold fX11_haulWorth
  refine TT.iter (fun (s : Int × Int × Int × Int × Int) => -1 ≤ s.2.2.2.2 ∧ s.2.2.2.2 ≤ 4) (fun s => (s.2.2.2.2 + 1).toNat) ?_ _ _ ⟨by (try dsimp only [w32]); omega, by (try dsimp only [w32]); omega⟩ (by unfold BIG; (try dsimp only [w32]); omega)
  rintro rec1 s2 ⟨hl_s2, hu_s2⟩ hr_rec1
  refine TT.ite (fun c1 => ?_) (fun c1 => ?_)
  · refine TT.ite (fun c2 => ?_) (fun c2 => ?_)
    · exact TT.ok trivial
    · refine TT.ite (fun c3 => ?_) (fun c3 => ?_)
      · exact TT.ok trivial
      · exact TT.ok trivial
  · refine TT.guard (wk85 hT_M) ?_
    refine TT.bind (of2_T hT_M hR_M (by rw [w32_of (x := 5 * h) (by omega) (by omega), w32_of (x := 2 + ((5 * h))) (by omega) (by omega), w32_of (x := ((2 + ((5 * h)))) + s2.2.2.2.2) (by omega) (by omega)]; omega) (by rw [w32_of (x := 5 * h) (by omega) (by omega), w32_of (x := 2 + ((5 * h))) (by omega) (by omega), w32_of (x := ((2 + ((5 * h)))) + s2.2.2.2.2) (by omega) (by omega)]; omega)) (fun r6 h_r6 => ?_)
    refine TT.ite (fun c4 => ?_) (fun c4 => ?_)
    · exact TT.ok trivial
    · refine TT.bind (of74_T hT_M hR_M (by rw [w32_of (x := 74 + s2.2.2.2.2) (by omega) (by omega)]; omega) (by rw [w32_of (x := 74 + s2.2.2.2.2) (by omega) (by omega)]; omega)) (fun r10 h_r10 => ?_)
      refine TT.bind (of74_T hT_M hR_M (by rw [w32_of (x := 79 + s2.2.2.2.2) (by omega) (by omega)]; omega) (by rw [w32_of (x := 79 + s2.2.2.2.2) (by omega) (by omega)]; omega)) (fun r12 h_r12 => ?_)
      exact hr_rec1 _ ⟨by (try dsimp only [w32]); omega, by (try dsimp only [w32]); omega⟩ (by (try dsimp only [w32]); omega)
set_option maxHeartbeats 1000000 in
theorem areKinR_T (hT_M : WT M) (hR_M : RH M) (x y : Int) (hx : 0 ≤ x ∧ x < 4) (hy : 0 ≤ y ∧ y < 4) : TT (fX11_areKin M 85 x y) (fun r => B01 r) := by
  unfold fX11_areKin
  refine TT.guard (wk85 hT_M) ?_
  refine TT.bind (ofA_T hT_M hR_M (by rw [w32_of (x := 88 + x) (by omega) (by omega)]; omega) (by rw [w32_of (x := 88 + x) (by omega) (by omega)]; omega)) (fun r1 h_r1 => ?_)
  refine TT.ite (fun c1 => ?_) (fun c1 => ?_)
  · exact TT.ok (Or.inr rfl)
  · refine TT.bind (ofA_T hT_M hR_M (by rw [w32_of (x := 88 + y) (by omega) (by omega)]; omega) (by rw [w32_of (x := 88 + y) (by omega) (by omega)]; omega)) (fun r5 h_r5 => ?_)
    refine TT.ite (fun c2 => ?_) (fun c2 => ?_)
    · exact TT.ok (Or.inr rfl)
    · exact TT.ok (Or.inl rfl)
set_option maxHeartbeats 1000000 in
theorem wealthOfR_T (hT_M : WT M) (hR_M : RH M) (h : Int) (h6 : 0 ≤ h ∧ h < 6) : TT (fX11_wealthOf M 85 h) (fun r => r32 r) := by
  unfold fX11_wealthOf
  refine TT.iter (fun (s : Int × Int) => (0 ≤ s.2 ∧ s.2 ≤ 5) ∧ r32 s.1) (fun s => (5 - s.2).toNat) ?_ _ _ ⟨by (try dsimp only [w32]); omega, r32_0⟩ (by unfold BIG; (try dsimp only [w32]); omega)
  rintro rec1 s2 ⟨⟨hl1, hu1⟩, hl2⟩ hr_rec1
  refine TT.ite (fun c1 => ?_) (fun c1 => ?_)
  · refine TT.guard (wk85 hT_M) ?_
    refine TT.guard ⟨(by rw [wp85_29 hT_M]; exact wk97 hT_M), by rw [w32_of (x := 5 * h) (by omega) (by omega), w32_of (x := ((5 * h)) + s2.2) (by omega) (by omega)]; omega, by rw [wp85_29 hT_M, wl97 hT_M, w32_of (x := 5 * h) (by omega) (by omega), w32_of (x := ((5 * h)) + s2.2) (by omega) (by omega)]; omega⟩ ?_
    refine TT.bind (of74_T hT_M hR_M (by rw [w32_of (x := 79 + s2.2) (by omega) (by omega)]; omega) (by rw [w32_of (x := 79 + s2.2) (by omega) (by omega)]; omega)) (fun r6 h_r6 => ?_)
    exact hr_rec1 _ ⟨by (try dsimp only [w32]); omega, w32_r _⟩ (by (try dsimp only [w32]); omega)
  · exact TT.ok hl2
set_option maxHeartbeats 1000000 in
theorem canR_T (hT_M : WT M) (hR_M : RH M) (t : Int) (ht : 0 ≤ t ∧ t < 4) : TT (fX11_can M 85 t) (fun r => True) := by
  unfold fX11_can
  have hh := hR_M.2.1
  have hv := hR_M.2.2
  refine TT.iter (fun (s : Int × Int) => 0 ≤ s.2 ∧ s.2 ≤ 5) (fun s => (5 - s.2).toNat) ?_ _ _ ⟨by (try dsimp only [w32]); omega, by (try dsimp only [w32]); omega⟩ (by unfold BIG; (try dsimp only [w32]); omega)
  rintro rec1 s2 ⟨hl_s2, hu_s2⟩ hr_rec1
  refine TT.ite (fun c1 => ?_) (fun c1 => ?_)
  · refine TT.iter (fun (s : Int × Int) => 0 ≤ s.2 ∧ s.2 ≤ 6) (fun s => (6 - s.2).toNat) ?_ _ _ ⟨by (try dsimp only [w32]); omega, by (try dsimp only [w32]); omega⟩ (by unfold BIG; (try dsimp only [w32]); omega)
    rintro rec4 s5 ⟨hl_s5, hu_s5⟩ hr_rec4
    refine TT.guard (wk85 hT_M) ?_
    refine TT.ite (fun c2 => ?_) (fun c2 => ?_)
    · refine TT.bind (place_T (by omega) (by omega) (by omega) (by omega) (by omega) (by omega)) (fun r8 h_r8 => ?_)
      refine TT.guard ⟨(by rw [wp85_31 hT_M]; exact wk99 hT_M), by omega, by rw [wp85_31 hT_M, wl99 hT_M]; omega⟩ ?_
      refine TT.ite (fun c3 => ?_) (fun c3 => ?_)
      · refine TT.bind (of2_T hT_M hR_M (by rw [w32_of (x := 5 * s5.2) (by omega) (by omega), w32_of (x := 32 + ((5 * s5.2))) (by omega) (by omega), w32_of (x := ((32 + ((5 * s5.2)))) + s2.2) (by omega) (by omega)]; omega) (by rw [w32_of (x := 5 * s5.2) (by omega) (by omega), w32_of (x := 32 + ((5 * s5.2))) (by omega) (by omega), w32_of (x := ((32 + ((5 * s5.2)))) + s2.2) (by omega) (by omega)]; omega)) (fun r12 h_r12 => ?_)
        refine TT.guard ⟨(by rw [wp85_29 hT_M]; exact wk97 hT_M), by rw [w32_of (x := 5 * s5.2) (by omega) (by omega), w32_of (x := ((5 * s5.2)) + s2.2) (by omega) (by omega)]; omega, by rw [wp85_29 hT_M, wl97 hT_M, w32_of (x := 5 * s5.2) (by omega) (by omega), w32_of (x := ((5 * s5.2)) + s2.2) (by omega) (by omega)]; omega⟩ ?_
        refine TT.bind (greater_T _ _) (fun r15 h_r15 => ?_)
        exact hr_rec4 _ ⟨by (try dsimp only [w32]); omega, by (try dsimp only [w32]); omega⟩ (by (try dsimp only [w32]); omega)
      · exact hr_rec4 _ ⟨by (try dsimp only [w32]); omega, by (try dsimp only [w32]); omega⟩ (by (try dsimp only [w32]); omega)
    · refine TT.bind (isFreeR_T hT_M hR_M _ ) (fun r17 h_r17 => ?_)
      refine TT.ite (fun c4 => ?_) (fun c4 => ?_)
      · exact hr_rec1 _ ⟨by (try dsimp only [w32]); omega, by (try dsimp only [w32]); omega⟩ (by (try dsimp only [w32]); omega)
      · have g_r17 := h_r17.use c4
        refine TT.guard ⟨(by rw [wp85_30 hT_M]; exact wk98 hT_M), by rw [w32_of (x := 5 * t) (by omega) (by omega), w32_of (x := ((5 * t)) + s2.2) (by omega) (by omega)]; omega, by rw [wp85_30 hT_M, wl98 hT_M, w32_of (x := 5 * t) (by omega) (by omega), w32_of (x := ((5 * t)) + s2.2) (by omega) (by omega)]; omega⟩ ?_
        refine TT.bind (lesser_T _ _) (fun r21 h_r21 => ?_)
        exact hr_rec1 _ ⟨by (try dsimp only [w32]); omega, by (try dsimp only [w32]); omega⟩ (by (try dsimp only [w32]); omega)
  · exact TT.ok trivial
set_option maxHeartbeats 1000000 in
theorem robbedR_T (hT_M : WT M) (hR_M : RH M) : TT (fX11_robbed M 85) (fun r => True) := by
  unfold fX11_robbed
  have hh := hR_M.2.1
  have hv := hR_M.2.2
  refine TT.iter (fun (s : Int × Int) => 0 ≤ s.2 ∧ s.2 ≤ 6) (fun s => (6 - s.2).toNat) ?_ _ _ ⟨by (try dsimp only [w32]); omega, by (try dsimp only [w32]); omega⟩ (by unfold BIG; (try dsimp only [w32]); omega)
  rintro rec1 s2 ⟨hl_s2, hu_s2⟩ hr_rec1
  refine TT.guard (wk85 hT_M) ?_
  refine TT.ite (fun c1 => ?_) (fun c1 => ?_)
  · refine TT.iter (fun (s : Int × Int) => 0 ≤ s.2 ∧ s.2 ≤ 4) (fun s => (4 - s.2).toNat) ?_ _ _ ⟨by (try dsimp only [w32]); omega, by (try dsimp only [w32]); omega⟩ (by unfold BIG; (try dsimp only [w32]); omega)
    rintro rec5 s6 ⟨hl_s6, hu_s6⟩ hr_rec5
    refine TT.ite (fun c2 => ?_) (fun c2 => ?_)
    · refine TT.iter (fun (s : Int × Int) => 0 ≤ s.2 ∧ s.2 ≤ 5) (fun s => (5 - s.2).toNat) ?_ _ _ ⟨by (try dsimp only [w32]); omega, by (try dsimp only [w32]); omega⟩ (by unfold BIG; (try dsimp only [w32]); omega)
      rintro rec8 s9 ⟨hl_s9, hu_s9⟩ hr_rec8
      refine TT.ite (fun c3 => ?_) (fun c3 => ?_)
      · refine TT.bind (place_T (by omega) (by omega) (by omega) (by omega) (by omega) (by omega)) (fun r11 h_r11 => ?_)
        refine TT.guard ⟨(by rw [wp85_31 hT_M]; exact wk99 hT_M), by omega, by rw [wp85_31 hT_M, wl99 hT_M]; omega⟩ ?_
        exact hr_rec8 _ ⟨by (try dsimp only [w32]); omega, by (try dsimp only [w32]); omega⟩ (by (try dsimp only [w32]); omega)
      · refine TT.ite (fun c4 => ?_) (fun c4 => ?_)
        · exact hr_rec5 _ ⟨by (try dsimp only [w32]); omega, by (try dsimp only [w32]); omega⟩ (by (try dsimp only [w32]); omega)
        · exact hr_rec5 _ ⟨by (try dsimp only [w32]); omega, by (try dsimp only [w32]); omega⟩ (by (try dsimp only [w32]); omega)
    · refine TT.ite (fun c5 => ?_) (fun c5 => ?_)
      · exact hr_rec1 _ ⟨by (try dsimp only [w32]); omega, by (try dsimp only [w32]); omega⟩ (by (try dsimp only [w32]); omega)
      · exact hr_rec1 _ ⟨by (try dsimp only [w32]); omega, by (try dsimp only [w32]); omega⟩ (by (try dsimp only [w32]); omega)
  · exact TT.ok trivial
set_option maxHeartbeats 1000000 in
theorem settleR_T (hT_M : WT M) (hR_M : RH M) (hQ_M : RLw M) : TT (fX11_settle M 85) (fun r => True) := by
  unfold fX11_settle
  have hh := hR_M.2.1
  have hv := hR_M.2.2
  have hb := shl1 hv.1 hv.2
  refine TT.iter (fun (s : Int × Int) => 0 ≤ s.2 ∧ s.2 ≤ 16) (fun s => (16 - s.2).toNat) ?_ _ _ ⟨by (try dsimp only [w32]); omega, by (try dsimp only [w32]); omega⟩ (by unfold BIG; (try dsimp only [w32]); omega)
  rintro rec1 s2 ⟨hl_s2, hu_s2⟩ hr_rec1
  refine TT.guard (wk85 hT_M) ?_
  refine TT.ite (fun c1 => ?_) (fun c1 => ?_)
  · refine TT.iter (fun (s : Int × Int) => 0 ≤ s.2 ∧ s.2 ≤ 4) (fun s => (4 - s.2).toNat) ?_ _ _ ⟨by (try dsimp only [w32]); omega, by (try dsimp only [w32]); omega⟩ (by unfold BIG; (try dsimp only [w32]); omega)
    rintro rec5 s6 ⟨hl_s6, hu_s6⟩ hr_rec5
    refine TT.ite (fun c2 => ?_) (fun c2 => ?_)
    · refine TT.bind (isFreeR_T hT_M hR_M _ ) (fun r8 h_r8 => ?_)
      refine TT.jI ?_
      refine TT.jI ?_
      refine TT.ite (fun c3 => ?_) (fun c3 => ?_)
      · refine TT.iter (fun (s : Int × Int) => 0 ≤ s.2 ∧ s.2 ≤ 4) (fun s => (4 - s.2).toNat) ?_ _ _ ⟨by (try dsimp only [w32]); omega, by (try dsimp only [w32]); omega⟩ (by unfold BIG; (try dsimp only [w32]); omega)
        rintro rec12 s13 ⟨hl_s13, hu_s13⟩ hr_rec12
        refine TT.ite (fun c4 => ?_) (fun c4 => ?_)
        · refine TT.ite (fun c5 => ?_) (fun c5 => ?_)
          · refine TT.bind (has_T _ _) (fun r16 h_r16 => ?_)
            refine TT.ite (fun c6 => ?_) (fun c6 => ?_)
            · exact hr_rec12 _ ⟨by (try dsimp only [w32]); omega, by (try dsimp only [w32]); omega⟩ (by (try dsimp only [w32]); omega)
            · refine TT.bind (isFreeR_T hT_M hR_M _ ) (fun r19 h_r19 => ?_)
              refine TT.ite (fun c7 => ?_) (fun c7 => ?_)
              · exact hr_rec12 _ ⟨by (try dsimp only [w32]); omega, by (try dsimp only [w32]); omega⟩ (by (try dsimp only [w32]); omega)
              · have g_r19 := h_r19.use c7
                refine TT.bind (owesR_T hT_M hR_M hQ_M _ (by omega)) (fun r22 h_r22 => ?_)
                refine TT.ite (fun c8 => ?_) (fun c8 => ?_)
                · refine TT.bind (areKinR_T hT_M hR_M _ _ (by omega) (by omega)) (fun r25 h_r25 => ?_)
                  refine TT.ite (fun c9 => ?_) (fun c9 => ?_)
                  · exact hr_rec12 _ ⟨by (try dsimp only [w32]); omega, by (try dsimp only [w32]); omega⟩ (by (try dsimp only [w32]); omega)
                  · exact hr_rec12 _ ⟨by (try dsimp only [w32]); omega, by (try dsimp only [w32]); omega⟩ (by (try dsimp only [w32]); omega)
                · exact hr_rec12 _ ⟨by (try dsimp only [w32]); omega, by (try dsimp only [w32]); omega⟩ (by (try dsimp only [w32]); omega)
          · exact hr_rec12 _ ⟨by (try dsimp only [w32]); omega, by (try dsimp only [w32]); omega⟩ (by (try dsimp only [w32]); omega)
        · refine TT.bind (isFreeR_T hT_M hR_M _ ) (fun r28 h_r28 => ?_)
          refine TT.ite (fun c10 => ?_) (fun c10 => ?_)
          · exact hr_rec5 _ ⟨by (try dsimp only [w32]); omega, by (try dsimp only [w32]); omega⟩ (by (try dsimp only [w32]); omega)
          · have g_r28 := h_r28.use c10
            refine TT.bind (owesR_T hT_M hR_M hQ_M _ (by omega)) (fun r31 h_r31 => ?_)
            refine TT.ite (fun c11 => ?_) (fun c11 => ?_)
            · refine TT.ite (fun c12 => ?_) (fun c12 => ?_)
              · exact hr_rec5 _ ⟨by (try dsimp only [w32]); omega, by (try dsimp only [w32]); omega⟩ (by (try dsimp only [w32]); omega)
              · refine TT.bind (owesR_T hT_M hR_M hQ_M _ (by omega)) (fun r35 h_r35 => ?_)
                exact hr_rec5 _ ⟨by (try dsimp only [w32]); omega, by (try dsimp only [w32]); omega⟩ (by (try dsimp only [w32]); omega)
            · exact hr_rec5 _ ⟨by (try dsimp only [w32]); omega, by (try dsimp only [w32]); omega⟩ (by (try dsimp only [w32]); omega)
      · have g_r8 := h_r8.use c3
        refine TT.bind (owesR_T hT_M hR_M hQ_M _ (by omega)) (fun r40 h_r40 => ?_)
        refine TT.ite (fun c13 => ?_) (fun c13 => ?_)
        · refine TT.bind (has_T _ _) (fun r43 h_r43 => ?_)
          refine TT.ite (fun c14 => ?_) (fun c14 => ?_)
          · refine TT.bind (owesR_T hT_M hR_M hQ_M _ (by omega)) (fun r46 h_r46 => ?_)
            refine TT.iter (fun (s : Int × Int) => 0 ≤ s.2 ∧ s.2 ≤ 4) (fun s => (4 - s.2).toNat) ?_ _ _ ⟨by (try dsimp only [w32]); omega, by (try dsimp only [w32]); omega⟩ (by unfold BIG; (try dsimp only [w32]); omega)
            rintro rec12 s13 ⟨hl_s13, hu_s13⟩ hr_rec12
            refine TT.ite (fun c15 => ?_) (fun c15 => ?_)
            · refine TT.ite (fun c16 => ?_) (fun c16 => ?_)
              · refine TT.bind (has_T _ _) (fun r16 h_r16 => ?_)
                refine TT.ite (fun c17 => ?_) (fun c17 => ?_)
                · exact hr_rec12 _ ⟨by (try dsimp only [w32]); omega, by (try dsimp only [w32]); omega⟩ (by (try dsimp only [w32]); omega)
                · refine TT.bind (isFreeR_T hT_M hR_M _ ) (fun r19 h_r19 => ?_)
                  refine TT.ite (fun c18 => ?_) (fun c18 => ?_)
                  · exact hr_rec12 _ ⟨by (try dsimp only [w32]); omega, by (try dsimp only [w32]); omega⟩ (by (try dsimp only [w32]); omega)
                  · have g_r19 := h_r19.use c18
                    refine TT.bind (owesR_T hT_M hR_M hQ_M _ (by omega)) (fun r22 h_r22 => ?_)
                    refine TT.ite (fun c19 => ?_) (fun c19 => ?_)
                    · refine TT.bind (areKinR_T hT_M hR_M _ _ (by omega) (by omega)) (fun r25 h_r25 => ?_)
                      refine TT.ite (fun c20 => ?_) (fun c20 => ?_)
                      · exact hr_rec12 _ ⟨by (try dsimp only [w32]); omega, by (try dsimp only [w32]); omega⟩ (by (try dsimp only [w32]); omega)
                      · exact hr_rec12 _ ⟨by (try dsimp only [w32]); omega, by (try dsimp only [w32]); omega⟩ (by (try dsimp only [w32]); omega)
                    · exact hr_rec12 _ ⟨by (try dsimp only [w32]); omega, by (try dsimp only [w32]); omega⟩ (by (try dsimp only [w32]); omega)
              · exact hr_rec12 _ ⟨by (try dsimp only [w32]); omega, by (try dsimp only [w32]); omega⟩ (by (try dsimp only [w32]); omega)
            · refine TT.bind (isFreeR_T hT_M hR_M _ ) (fun r28 h_r28 => ?_)
              refine TT.ite (fun c21 => ?_) (fun c21 => ?_)
              · exact hr_rec5 _ ⟨by (try dsimp only [w32]); omega, by (try dsimp only [w32]); omega⟩ (by (try dsimp only [w32]); omega)
              · have g_r28 := h_r28.use c21
                refine TT.bind (owesR_T hT_M hR_M hQ_M _ (by omega)) (fun r31 h_r31 => ?_)
                refine TT.ite (fun c22 => ?_) (fun c22 => ?_)
                · refine TT.ite (fun c23 => ?_) (fun c23 => ?_)
                  · exact hr_rec5 _ ⟨by (try dsimp only [w32]); omega, by (try dsimp only [w32]); omega⟩ (by (try dsimp only [w32]); omega)
                  · refine TT.bind (owesR_T hT_M hR_M hQ_M _ (by omega)) (fun r35 h_r35 => ?_)
                    exact hr_rec5 _ ⟨by (try dsimp only [w32]); omega, by (try dsimp only [w32]); omega⟩ (by (try dsimp only [w32]); omega)
                · exact hr_rec5 _ ⟨by (try dsimp only [w32]); omega, by (try dsimp only [w32]); omega⟩ (by (try dsimp only [w32]); omega)
          · refine TT.iter (fun (s : Int × Int) => 0 ≤ s.2 ∧ s.2 ≤ 4) (fun s => (4 - s.2).toNat) ?_ _ _ ⟨by (try dsimp only [w32]); omega, by (try dsimp only [w32]); omega⟩ (by unfold BIG; (try dsimp only [w32]); omega)
            rintro rec12 s13 ⟨hl_s13, hu_s13⟩ hr_rec12
            refine TT.ite (fun c24 => ?_) (fun c24 => ?_)
            · refine TT.ite (fun c25 => ?_) (fun c25 => ?_)
              · refine TT.bind (has_T _ _) (fun r16 h_r16 => ?_)
                refine TT.ite (fun c26 => ?_) (fun c26 => ?_)
                · exact hr_rec12 _ ⟨by (try dsimp only [w32]); omega, by (try dsimp only [w32]); omega⟩ (by (try dsimp only [w32]); omega)
                · refine TT.bind (isFreeR_T hT_M hR_M _ ) (fun r19 h_r19 => ?_)
                  refine TT.ite (fun c27 => ?_) (fun c27 => ?_)
                  · exact hr_rec12 _ ⟨by (try dsimp only [w32]); omega, by (try dsimp only [w32]); omega⟩ (by (try dsimp only [w32]); omega)
                  · have g_r19 := h_r19.use c27
                    refine TT.bind (owesR_T hT_M hR_M hQ_M _ (by omega)) (fun r22 h_r22 => ?_)
                    refine TT.ite (fun c28 => ?_) (fun c28 => ?_)
                    · refine TT.bind (areKinR_T hT_M hR_M _ _ (by omega) (by omega)) (fun r25 h_r25 => ?_)
                      refine TT.ite (fun c29 => ?_) (fun c29 => ?_)
                      · exact hr_rec12 _ ⟨by (try dsimp only [w32]); omega, by (try dsimp only [w32]); omega⟩ (by (try dsimp only [w32]); omega)
                      · exact hr_rec12 _ ⟨by (try dsimp only [w32]); omega, by (try dsimp only [w32]); omega⟩ (by (try dsimp only [w32]); omega)
                    · exact hr_rec12 _ ⟨by (try dsimp only [w32]); omega, by (try dsimp only [w32]); omega⟩ (by (try dsimp only [w32]); omega)
              · exact hr_rec12 _ ⟨by (try dsimp only [w32]); omega, by (try dsimp only [w32]); omega⟩ (by (try dsimp only [w32]); omega)
            · refine TT.bind (isFreeR_T hT_M hR_M _ ) (fun r28 h_r28 => ?_)
              refine TT.ite (fun c30 => ?_) (fun c30 => ?_)
              · exact hr_rec5 _ ⟨by (try dsimp only [w32]); omega, by (try dsimp only [w32]); omega⟩ (by (try dsimp only [w32]); omega)
              · have g_r28 := h_r28.use c30
                refine TT.bind (owesR_T hT_M hR_M hQ_M _ (by omega)) (fun r31 h_r31 => ?_)
                refine TT.ite (fun c31 => ?_) (fun c31 => ?_)
                · refine TT.ite (fun c32 => ?_) (fun c32 => ?_)
                  · exact hr_rec5 _ ⟨by (try dsimp only [w32]); omega, by (try dsimp only [w32]); omega⟩ (by (try dsimp only [w32]); omega)
                  · refine TT.bind (owesR_T hT_M hR_M hQ_M _ (by omega)) (fun r35 h_r35 => ?_)
                    exact hr_rec5 _ ⟨by (try dsimp only [w32]); omega, by (try dsimp only [w32]); omega⟩ (by (try dsimp only [w32]); omega)
                · exact hr_rec5 _ ⟨by (try dsimp only [w32]); omega, by (try dsimp only [w32]); omega⟩ (by (try dsimp only [w32]); omega)
        · refine TT.iter (fun (s : Int × Int) => 0 ≤ s.2 ∧ s.2 ≤ 4) (fun s => (4 - s.2).toNat) ?_ _ _ ⟨by (try dsimp only [w32]); omega, by (try dsimp only [w32]); omega⟩ (by unfold BIG; (try dsimp only [w32]); omega)
          rintro rec12 s13 ⟨hl_s13, hu_s13⟩ hr_rec12
          refine TT.ite (fun c33 => ?_) (fun c33 => ?_)
          · refine TT.ite (fun c34 => ?_) (fun c34 => ?_)
            · refine TT.bind (has_T _ _) (fun r16 h_r16 => ?_)
              refine TT.ite (fun c35 => ?_) (fun c35 => ?_)
              · exact hr_rec12 _ ⟨by (try dsimp only [w32]); omega, by (try dsimp only [w32]); omega⟩ (by (try dsimp only [w32]); omega)
              · refine TT.bind (isFreeR_T hT_M hR_M _ ) (fun r19 h_r19 => ?_)
                refine TT.ite (fun c36 => ?_) (fun c36 => ?_)
                · exact hr_rec12 _ ⟨by (try dsimp only [w32]); omega, by (try dsimp only [w32]); omega⟩ (by (try dsimp only [w32]); omega)
                · have g_r19 := h_r19.use c36
                  refine TT.bind (owesR_T hT_M hR_M hQ_M _ (by omega)) (fun r22 h_r22 => ?_)
                  refine TT.ite (fun c37 => ?_) (fun c37 => ?_)
                  · refine TT.bind (areKinR_T hT_M hR_M _ _ (by omega) (by omega)) (fun r25 h_r25 => ?_)
                    refine TT.ite (fun c38 => ?_) (fun c38 => ?_)
                    · exact hr_rec12 _ ⟨by (try dsimp only [w32]); omega, by (try dsimp only [w32]); omega⟩ (by (try dsimp only [w32]); omega)
                    · exact hr_rec12 _ ⟨by (try dsimp only [w32]); omega, by (try dsimp only [w32]); omega⟩ (by (try dsimp only [w32]); omega)
                  · exact hr_rec12 _ ⟨by (try dsimp only [w32]); omega, by (try dsimp only [w32]); omega⟩ (by (try dsimp only [w32]); omega)
            · exact hr_rec12 _ ⟨by (try dsimp only [w32]); omega, by (try dsimp only [w32]); omega⟩ (by (try dsimp only [w32]); omega)
          · refine TT.bind (isFreeR_T hT_M hR_M _ ) (fun r28 h_r28 => ?_)
            refine TT.ite (fun c39 => ?_) (fun c39 => ?_)
            · exact hr_rec5 _ ⟨by (try dsimp only [w32]); omega, by (try dsimp only [w32]); omega⟩ (by (try dsimp only [w32]); omega)
            · have g_r28 := h_r28.use c39
              refine TT.bind (owesR_T hT_M hR_M hQ_M _ (by omega)) (fun r31 h_r31 => ?_)
              refine TT.ite (fun c40 => ?_) (fun c40 => ?_)
              · refine TT.ite (fun c41 => ?_) (fun c41 => ?_)
                · exact hr_rec5 _ ⟨by (try dsimp only [w32]); omega, by (try dsimp only [w32]); omega⟩ (by (try dsimp only [w32]); omega)
                · refine TT.bind (owesR_T hT_M hR_M hQ_M _ (by omega)) (fun r35 h_r35 => ?_)
                  exact hr_rec5 _ ⟨by (try dsimp only [w32]); omega, by (try dsimp only [w32]); omega⟩ (by (try dsimp only [w32]); omega)
              · exact hr_rec5 _ ⟨by (try dsimp only [w32]); omega, by (try dsimp only [w32]); omega⟩ (by (try dsimp only [w32]); omega)
    · refine TT.bind (lesser_T _ _) (fun r48 h_r48 => ?_)
      exact hr_rec1 _ ⟨by (try dsimp only [w32]); omega, by (try dsimp only [w32]); omega⟩ (by (try dsimp only [w32]); omega)
  · exact TT.ok trivial
set_option maxHeartbeats 1000000 in
theorem rankedR_T (hT_M : WT M) (hR_M : RH M) (k : Int) : TT (fX11_ranked M 85 k) (fun r => True) := by
  unfold fX11_ranked
  have hh := hR_M.2.1
  have hv := hR_M.2.2
  refine TT.iter (fun (s : Int) => 0 ≤ s ∧ s ≤ 6) (fun s => (6 - s).toNat) ?_ _ _ ⟨by (try dsimp only [w32]); omega, by (try dsimp only [w32]); omega⟩ (by unfold BIG; (try dsimp only [w32]); omega)
  rintro rec1 s2 ⟨hl_s2, hu_s2⟩ hr_rec1
  refine TT.guard (wk85 hT_M) ?_
  refine TT.ite (fun c1 => ?_) (fun c1 => ?_)
  · refine TT.iter (fun (s : Int × Int) => 0 ≤ s.2 ∧ s.2 ≤ 6) (fun s => (6 - s.2).toNat) ?_ _ _ ⟨by (try dsimp only [w32]); omega, by (try dsimp only [w32]); omega⟩ (by unfold BIG; (try dsimp only [w32]); omega)
    rintro rec5 s6 ⟨hl_s6, hu_s6⟩ hr_rec5
    refine TT.ite (fun c2 => ?_) (fun c2 => ?_)
    · refine TT.bind (wealthOfR_T hT_M hR_M _ (by omega)) (fun r8 h_r8 => ?_)
      refine TT.bind (wealthOfR_T hT_M hR_M _ (by omega)) (fun r10 h_r10 => ?_)
      refine TT.ite (fun c3 => ?_) (fun c3 => ?_)
      · exact hr_rec5 _ ⟨by (try dsimp only [w32]); omega, by (try dsimp only [w32]); omega⟩ (by (try dsimp only [w32]); omega)
      · refine TT.bind (wealthOfR_T hT_M hR_M _ (by omega)) (fun r13 h_r13 => ?_)
        refine TT.bind (wealthOfR_T hT_M hR_M _ (by omega)) (fun r15 h_r15 => ?_)
        refine TT.ite (fun c4 => ?_) (fun c4 => ?_)
        · refine TT.ite (fun c5 => ?_) (fun c5 => ?_)
          · exact hr_rec5 _ ⟨by (try dsimp only [w32]); omega, by (try dsimp only [w32]); omega⟩ (by (try dsimp only [w32]); omega)
          · exact hr_rec5 _ ⟨by (try dsimp only [w32]); omega, by (try dsimp only [w32]); omega⟩ (by (try dsimp only [w32]); omega)
        · exact hr_rec5 _ ⟨by (try dsimp only [w32]); omega, by (try dsimp only [w32]); omega⟩ (by (try dsimp only [w32]); omega)
    · refine TT.ite (fun c6 => ?_) (fun c6 => ?_)
      · exact TT.ok trivial
      · exact hr_rec1 _ ⟨by (try dsimp only [w32]); omega, by (try dsimp only [w32]); omega⟩ (by (try dsimp only [w32]); omega)
  · exact TT.ok trivial
end Ref
