/-! the first call on a fresh object: alms, and what is evaluated -/
def ansW (n : Int) : Int := if n ≤ 1 then 0 else if n ≤ 3 then 1 else if n ≤ 9 then 2 else if n ≤ 27 then 3 else if n ≤ 81 then 4 else 5
def ansA (n hv : Int) : Int := if n < 1 ∨ 60 < n then -1 else if hv = 0 ∨ n = 1 then ansW n else if n = 2 then -1 else ansW (2 * n + 1)
theorem weigh_v (M : Mem) {n : Int} (hn : n ≤ 243) : fX10_weighings M n = some (ansW n) := by
  have : TT (fX10_weighings M n) (fun r => r = ansW n) := by
    unfold fX10_weighings
    refine TT.iter (fun s : Int × Int => s = (0, 1) ∨ (s = (1, 3) ∧ 1 < n) ∨ (s = (2, 9) ∧ 3 < n) ∨ (s = (3, 27) ∧ 9 < n) ∨ (s = (4, 81) ∧ 27 < n) ∨ (s = (5, 243) ∧ 81 < n)) (fun s => (10 - s.1).toNat) ?_ BIG (0, 1) (Or.inl rfl) (by decide)
    intro rec s hs hrec
    unfold ansW
    rcases hs with rfl | ⟨rfl, h⟩ | ⟨rfl, h⟩ | ⟨rfl, h⟩ | ⟨rfl, h⟩ | ⟨rfl, h⟩
    · exact TT.ite (fun hc => TT.pos (by decide) (hrec _ (Or.inr (Or.inl ⟨by decide, hc⟩)) (by decide))) (fun hc => TT.ok (by simp only at hc ⊢; rw [if_pos (by omega)]))
    · exact TT.ite (fun hc => TT.pos (by decide) (hrec _ (Or.inr (Or.inr (Or.inl ⟨by decide, hc⟩))) (by decide))) (fun hc => TT.ok (by simp only at hc ⊢; rw [if_neg (by omega), if_pos (by omega)]))
    · exact TT.ite (fun hc => TT.pos (by decide) (hrec _ (Or.inr (Or.inr (Or.inr (Or.inl ⟨by decide, hc⟩)))) (by decide))) (fun hc => TT.ok (by simp only at hc ⊢; rw [if_neg (by omega), if_neg (by omega), if_pos (by omega)]))
    · exact TT.ite (fun hc => TT.pos (by decide) (hrec _ (Or.inr (Or.inr (Or.inr (Or.inr (Or.inl ⟨by decide, hc⟩))))) (by decide))) (fun hc => TT.ok (by simp only at hc ⊢; rw [if_neg (by omega), if_neg (by omega), if_neg (by omega), if_pos (by omega)]))
    · exact TT.ite (fun hc => TT.pos (by decide) (hrec _ (Or.inr (Or.inr (Or.inr (Or.inr (Or.inr ⟨by decide, hc⟩))))) (by decide))) (fun hc => TT.ok (by simp only at hc ⊢; rw [if_neg (by omega), if_neg (by omega), if_neg (by omega), if_neg (by omega), if_pos (by omega)]))
    · exact TT.ite (fun hc => absurd hc (by simp only; omega)) (fun hc => TT.ok (by simp only at hc ⊢; rw [if_neg (by omega), if_neg (by omega), if_neg (by omega), if_neg (by omega), if_neg (by omega)]))
  obtain ⟨r, h1, h2⟩ := this
  rw [h1, h2]
theorem x_alms (M : Mem) (a n hv : Int) : fX10_alms M a n hv = some (ansA n hv) := by
  have : TT (fX10_alms M a n hv) (fun r => r = ansA n hv) := by
    unfold fX10_alms
    refine TT.ite (fun h1 => TT.ok (by unfold ansA; rw [if_pos (Or.inl h1)])) (fun h1 => TT.ite (fun h2 => TT.ok (by unfold ansA; rw [if_pos (Or.inr h2)])) (fun h2 => TT.jI ?_))
    have hn : ¬ (n < 1 ∨ 60 < n) := by omega
    refine TT.ite (fun h3 => TT.bindE (weigh_v M (by omega)) (TT.ok (by unfold ansA; rw [if_neg hn, if_pos (Or.inl h3)]))) (fun h3 => TT.ite (fun h4 => TT.bindE (weigh_v M (by omega)) (TT.ok (by unfold ansA; rw [if_neg hn, if_pos (Or.inr h4)]))) (fun h4 => TT.ite (fun h5 => TT.ok (by unfold ansA; rw [if_neg hn, if_neg (fun q => q.elim h3 h4), if_pos h5])) (fun h5 => ?_)))
    rw [w32_of (x := 2 * n) (by omega) (by omega), w32_of (x := 2 * n + 1) (by omega) (by omega)]
    exact TT.bindE (weigh_v M (by omega)) (TT.ok (by unfold ansA; rw [if_neg hn, if_neg (fun q => q.elim h3 h4), if_neg h5]))
  obtain ⟨r, h1, h2⟩ := this
  rw [h1, h2]
theorem y_alms {M : Mem} {m : Int} (hk : M.2.1 m = 10) (n hv : Int) : TT (fX11_alms M m n hv) (fun q => q.1 = ansA n hv ∧ q.2 = mst M m 0 0) := by
  unfold fX11_alms ansA
  refine TT.guard hk (TT.sM (TT.bindE (r := if 1 ≤ n ∧ n ≤ 60 then 1 else 0) (by
    unfold fX11_in
    by_cases h1 : n < 1
    · rw [if_pos h1, if_neg (by omega)]
    · by_cases h2 : 60 < n
      · rw [if_neg h1, if_pos h2, if_neg (by omega)]
      · rw [if_neg h1, if_neg h2, if_pos (by omega)]) ?_))
  by_cases h1 : 1 ≤ n ∧ n ≤ 60
  · simp only [if_pos h1]
    refine TT.neg (by decide) ?_
    rw [if_neg (by omega)]
    unfold jn
    simp only
    by_cases h3 : hv = 0
    · rw [if_pos h3, if_pos (Or.inl h3)]
      refine TT.iter (fun s : Int × Int => s = (0, 1) ∨ (s = (1, 3) ∧ 1 < n) ∨ (s = (2, 9) ∧ 3 < n) ∨ (s = (3, 27) ∧ 9 < n) ∨ (s = (4, 81) ∧ 27 < n)) (fun s => (10 - s.1).toNat) ?_ BIG (0, 1) (Or.inl rfl) (by decide)
      intro rec s hs hrec
      unfold ansW
      simp only [if_pos h3]
      rcases hs with rfl | ⟨rfl, h⟩ | ⟨rfl, h⟩ | ⟨rfl, h⟩ | ⟨rfl, h⟩
      · exact TT.ite (fun hq => TT.ite (fun hc => hrec _ (Or.inr (Or.inl ⟨by decide, hc⟩)) (by decide)) (fun hc => TT.ok ⟨by simp only at hc ⊢; rw [if_pos (by omega)], rfl⟩)) (fun hq => TT.ok ⟨by simp only; rw [if_pos (by omega)], rfl⟩)
      · exact TT.pos h (TT.ite (fun hc => hrec _ (Or.inr (Or.inr (Or.inl ⟨by decide, hc⟩))) (by decide)) (fun hc => TT.ok ⟨by simp only at hc ⊢; rw [if_neg (by omega), if_pos (by omega)], rfl⟩))
      · exact TT.pos (by omega) (TT.ite (fun hc => hrec _ (Or.inr (Or.inr (Or.inr (Or.inl ⟨by decide, hc⟩)))) (by decide)) (fun hc => TT.ok ⟨by simp only at hc ⊢; rw [if_neg (by omega), if_neg (by omega), if_pos (by omega)], rfl⟩))
      · exact TT.pos (by omega) (TT.ite (fun hc => hrec _ (Or.inr (Or.inr (Or.inr (Or.inr ⟨by decide, hc⟩)))) (by decide)) (fun hc => TT.ok ⟨by simp only at hc ⊢; rw [if_neg (by omega), if_neg (by omega), if_neg (by omega), if_pos (by omega)], rfl⟩))
      · exact TT.pos (by omega) (TT.ite (fun hc => absurd hc (by simp only; omega)) (fun hc => TT.ok ⟨by simp only at hc ⊢; rw [if_neg (by omega), if_neg (by omega), if_neg (by omega), if_neg (by omega), if_pos (by omega)], rfl⟩))
    · rw [if_neg h3]
      by_cases h5 : n = 2
      · rw [if_pos h5, if_neg (by omega), if_pos h5]
        exact TT.ok ⟨rfl, rfl⟩
      · rw [if_neg h5]
        refine TT.iter (fun s : Int × Int => s = (0, 1) ∨ (s = (1, 3) ∧ 1 < n) ∨ (s = (2, 9) ∧ 1 < n) ∨ (s = (3, 27) ∧ 4 < n) ∨ (s = (4, 81) ∧ 13 < n) ∨ (s = (5, 243) ∧ 40 < n)) (fun s => (10 - s.1).toNat) ?_ BIG (0, 1) (Or.inl rfl) (by decide)
        intro rec s hs hrec
        unfold ansW
        simp only [if_neg h3]
        rcases hs with rfl | ⟨rfl, h⟩ | ⟨rfl, h⟩ | ⟨rfl, h⟩ | ⟨rfl, h⟩ | ⟨rfl, h⟩
        · refine TT.ite (fun hq => TT.pos (by show w32 ((w32 (1 - 1)).tdiv 2) < n; rw [show w32 ((w32 (1 - 1)).tdiv 2) = 0 by decide]; omega) (hrec _ (Or.inr (Or.inl ⟨by decide, hq⟩)) (by decide))) (fun hq => TT.ok ⟨?_, rfl⟩)
          simp only
          rw [if_pos (Or.inr (by omega)), if_pos (by omega)]
        · exact TT.pos h (TT.pos (by show w32 ((w32 (3 - 1)).tdiv 2) < n; rw [show w32 ((w32 (3 - 1)).tdiv 2) = 1 by decide]; omega) (hrec _ (Or.inr (Or.inr (Or.inl ⟨by decide, h⟩))) (by decide)))
        · refine TT.pos h ?_
          rw [show w32 ((w32 (9 - 1)).tdiv 2) = 4 by decide]
          exact TT.ite (fun hc => hrec _ (Or.inr (Or.inr (Or.inr (Or.inl ⟨by decide, hc⟩)))) (by decide)) (fun hc => TT.ok ⟨by simp only; rw [if_neg (by omega), if_neg h5, if_neg (by omega), if_neg (by omega), if_pos (by omega)], rfl⟩)
        · refine TT.pos (by omega) ?_
          rw [show w32 ((w32 (27 - 1)).tdiv 2) = 13 by decide]
          exact TT.ite (fun hc => hrec _ (Or.inr (Or.inr (Or.inr (Or.inr (Or.inl ⟨by decide, hc⟩))))) (by decide)) (fun hc => TT.ok ⟨by simp only; rw [if_neg (by omega), if_neg h5, if_neg (by omega), if_neg (by omega), if_neg (by omega), if_pos (by omega)], rfl⟩)
        · refine TT.pos (by omega) ?_
          rw [show w32 ((w32 (81 - 1)).tdiv 2) = 40 by decide]
          exact TT.ite (fun hc => hrec _ (Or.inr (Or.inr (Or.inr (Or.inr (Or.inr ⟨by decide, hc⟩))))) (by decide)) (fun hc => TT.ok ⟨by simp only; rw [if_neg (by omega), if_neg h5, if_neg (by omega), if_neg (by omega), if_neg (by omega), if_neg (by omega), if_pos (by omega)], rfl⟩)
        · refine TT.pos (by omega) ?_
          rw [show w32 ((w32 (243 - 1)).tdiv 2) = 121 by decide]
          exact TT.neg (by omega) (TT.ok ⟨by simp only; rw [if_neg (by omega), if_neg h5, if_neg (by omega), if_neg (by omega), if_neg (by omega), if_neg (by omega), if_neg (by omega)], rfl⟩)
  · simp only [if_neg h1]
    exact TT.pos trivial (TT.ok ⟨by rw [if_pos (by omega)], rfl⟩)
