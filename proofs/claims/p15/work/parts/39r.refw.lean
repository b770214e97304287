/-! the reference's walk; the bags -/
section RefW
variable {ρ : Type} {M M0 : Mem} {Q : ρ → Prop}
def BagB (c : Int) (M : Mem) : Prop := ∀ j, 0 ≤ j → j < 20 → 0 ≤ M.1 98 j ∧ M.1 98 j ≤ c
theorem BagB.rb {c : Int} {M N : Mem} (h : BagB c M) (k : RB M N) : BagB c N := fun j h0 h1 => by rw [k.2 j]; exact h j h0 h1
theorem BagB.up {c d : Int} {M : Mem} (h : BagB c M) (k : c ≤ d) : BagB d M := fun j h0 h1 => by have := h j h0 h1; omega
set_option maxHeartbeats 1000000 in
theorem mayGiveR_T (hT_M : WT M) (hR_M : RH M) (t h g : Int) (hg : 0 ≤ g ∧ g < 5) : TT (fX11_mayGive M 85 t h g) (fun r => PB r (0 ≤ t ∧ t < 4 ∧ 0 ≤ h ∧ h < 6 ∧ 0 < M.1 98 (5 * t + g))) := by
  unfold fX11_mayGive
  refine TT.guard (wk85 hT_M) ?_
  refine TT.bind (isFreeR_T hT_M hR_M _ ) (fun r1 h_r1 => ?_)
  refine TT.ite (fun c1 => ?_) (fun c1 => ?_)
  · exact TT.ok PB.no
  · have g_r1 := h_r1.use c1
    refine TT.bind (isHouseR_T hT_M hR_M _) (fun r5 h_r5 => ?_)
    refine TT.ite (fun c2 => ?_) (fun c2 => ?_)
    · exact TT.ok PB.no
    · have g_r5 := h_r5.use c2
      refine TT.guard ⟨(by rw [wp85_30 hT_M]; exact wk98 hT_M), by rw [w32_of (x := 5 * t) (by omega) (by omega), w32_of (x := ((5 * t)) + g) (by omega) (by omega)]; omega, by rw [wp85_30 hT_M, wl98 hT_M, w32_of (x := 5 * t) (by omega) (by omega), w32_of (x := ((5 * t)) + g) (by omega) (by omega)]; omega⟩ ?_
      refine TT.ite (fun c3 => ?_) (fun c3 => ?_)
      · try rw [w32_of (x := 5 * t) (by omega) (by omega)] at c3
        try rw [w32_of (x := ((5 * t)) + g) (by omega) (by omega)] at c3
        refine TT.bind (of2_T hT_M hR_M (by rw [w32_of (x := 5 * h) (by omega) (by omega), w32_of (x := 32 + ((5 * h))) (by omega) (by omega), w32_of (x := ((32 + ((5 * h)))) + g) (by omega) (by omega)]; omega) (by rw [w32_of (x := 5 * h) (by omega) (by omega), w32_of (x := 32 + ((5 * h))) (by omega) (by omega), w32_of (x := ((32 + ((5 * h)))) + g) (by omega) (by omega)]; omega)) (fun r10 h_r10 => ?_)
        refine TT.guard ⟨(by rw [wp85_29 hT_M]; exact wk97 hT_M), by rw [w32_of (x := 5 * h) (by omega) (by omega), w32_of (x := ((5 * h)) + g) (by omega) (by omega)]; omega, by rw [wp85_29 hT_M, wl97 hT_M, w32_of (x := 5 * h) (by omega) (by omega), w32_of (x := ((5 * h)) + g) (by omega) (by omega)]; omega⟩ ?_
        refine TT.ite (fun c4 => ?_) (fun c4 => ?_)
        · try rw [w32_of (x := 5 * h) (by omega) (by omega)] at c4
          try rw [w32_of (x := ((5 * h)) + g) (by omega) (by omega)] at c4
          refine TT.bind (place_T (by omega) (by omega) (by omega) (by omega) (by omega) (by omega)) (fun r14 h_r14 => ?_)
          refine TT.guard ⟨(by rw [wp85_31 hT_M]; exact wk99 hT_M), by omega, by rw [wp85_31 hT_M, wl99 hT_M]; omega⟩ ?_
          refine TT.ite (fun c5 => ?_) (fun c5 => ?_)
          · exact TT.ok (PB.yes ⟨by omega, by omega, by omega, by omega, by rw [wp85_30 hT_M] at c3; exact c3⟩)
          · exact TT.ok PB.no
        · try rw [w32_of (x := 5 * h) (by omega) (by omega)] at c4
          try rw [w32_of (x := ((5 * h)) + g) (by omega) (by omega)] at c4
          exact TT.ok PB.no
      · try rw [w32_of (x := 5 * t) (by omega) (by omega)] at c3
        try rw [w32_of (x := ((5 * t)) + g) (by omega) (by omega)] at c3
        exact TT.ok PB.no
set_option maxHeartbeats 1000000 in
theorem setsR_T (hT_M : WT M) (hR_M : RH M) (hQ_M : RLw M) (x y n : Int) : TT (fX11_sets M 85 x y n) (fun r => B01 r.1 ∧ RB M r.2) := by
  unfold fX11_sets
  have hW_M := RB.self M
  refine TT.guard (wk85 hT_M) ?_
  refine TT.bind (isFreeR_T hT_M hR_M _ ) (fun r1 h_r1 => ?_)
  refine TT.ite (fun c1 => ?_) (fun c1 => ?_)
  · exact TT.ok ⟨Or.inl rfl, hW_M⟩
  · have g_r1 := h_r1.use c1
    refine TT.bind (isFreeR_T hT_M hR_M _ ) (fun r5 h_r5 => ?_)
    refine TT.ite (fun c2 => ?_) (fun c2 => ?_)
    · exact TT.ok ⟨Or.inl rfl, hW_M⟩
    · have g_r5 := h_r5.use c2
      refine TT.bind (ofA_T hT_M hR_M (by rw [w32_of (x := 88 + x) (by omega) (by omega)]; omega) (by rw [w32_of (x := 88 + x) (by omega) (by omega)]; omega)) (fun r8 h_r8 => ?_)
      refine TT.ite (fun c3 => ?_) (fun c3 => ?_)
      · exact TT.ok ⟨Or.inl rfl, hW_M⟩
      · refine TT.bind (ofA_T hT_M hR_M (by rw [w32_of (x := 88 + y) (by omega) (by omega)]; omega) (by rw [w32_of (x := 88 + y) (by omega) (by omega)]; omega)) (fun r11 h_r11 => ?_)
        refine TT.ite (fun c4 => ?_) (fun c4 => ?_)
        · exact TT.ok ⟨Or.inl rfl, hW_M⟩
        · refine TT.bind (owesR_T hT_M hR_M hQ_M _ (by omega)) (fun r14 h_r14 => ?_)
          refine TT.ite (fun c5 => ?_) (fun c5 => ?_)
          · exact TT.ok ⟨Or.inl rfl, hW_M⟩
          · refine TT.bind (owesR_T hT_M hR_M hQ_M _ (by omega)) (fun r17 h_r17 => ?_)
            refine TT.ite (fun c6 => ?_) (fun c6 => ?_)
            · try rw [w32_of (x := -r17) (by omega) (by omega)] at c6
              exact TT.ok ⟨Or.inl rfl, hW_M⟩
            · try rw [w32_of (x := -r17) (by omega) (by omega)] at c6
              refine TT.guard ⟨(by rw [wp85_36 hT_M]; exact wk104 hT_M), by omega, by rw [wp85_36 hT_M, wl104 hT_M]; omega⟩ ?_
              refine TT.guard ⟨(by rw [wp85_36 hT_M]; exact wk104 hT_M), by omega, by rw [wp85_36 hT_M, wl104 hT_M]; omega⟩ ?_
              refine TT.sq hW_M hT_M hR_M hQ_M (by rw [wp85_36 hT_M]; exact ⟨rfl, Or.inl (by decide), by decide⟩) (fun M22 e_M22 hW_M22 hT_M22 hR_M22 hQ_M22 => ?_)
              refine TT.guard ⟨(by rw [wp85_36 hT_M22]; exact wk104 hT_M22), by omega, by rw [wp85_36 hT_M22, wl104 hT_M22]; omega⟩ ?_
              refine TT.guard ⟨(by rw [wp85_36 hT_M22]; exact wk104 hT_M22), by omega, by rw [wp85_36 hT_M22, wl104 hT_M22]; omega⟩ ?_
              refine TT.sq hW_M22 hT_M22 hR_M22 hQ_M22 (by rw [wp85_36 hT_M22]; exact ⟨rfl, Or.inl (by decide), by decide⟩) (fun M26 e_M26 hW_M26 hT_M26 hR_M26 hQ_M26 => ?_)
              exact TT.ok ⟨Or.inr rfl, hW_M26⟩
set_option maxHeartbeats 1000000 in
theorem takesR_T (hT_M : WT M) (hR_M : RH M) (hQ_M : RLw M) {c : Int} (hB : BagB c M) (hc : c ≤ 1000000) (t h g : Int) (hg : 0 ≤ g ∧ g < 5) : TT (fX11_takes M 85 t h g) (fun r => B01 r.1 ∧ RK M r.2 ∧ BagB (c + 1) r.2) := by
  unfold fX11_takes
  have hW_M := RB.self M
  refine TT.guard (wk85 hT_M) ?_
  refine TT.bind (isFreeR_T hT_M hR_M _ ) (fun r1 h_r1 => ?_)
  refine TT.ite (fun c1 => ?_) (fun c1 => ?_)
  · exact TT.ok ⟨Or.inl rfl, hW_M.1, hB.up (by omega)⟩
  · have g_r1 := h_r1.use c1
    refine TT.bind (isHouseR_T hT_M hR_M _) (fun r5 h_r5 => ?_)
    refine TT.ite (fun c2 => ?_) (fun c2 => ?_)
    · exact TT.ok ⟨Or.inl rfl, hW_M.1, hB.up (by omega)⟩
    · have g_r5 := h_r5.use c2
      refine TT.guard ⟨(by rw [wp85_29 hT_M]; exact wk97 hT_M), by rw [w32_of (x := 5 * h) (by omega) (by omega), w32_of (x := ((5 * h)) + g) (by omega) (by omega)]; omega, by rw [wp85_29 hT_M, wl97 hT_M, w32_of (x := 5 * h) (by omega) (by omega), w32_of (x := ((5 * h)) + g) (by omega) (by omega)]; omega⟩ ?_
      refine TT.ite (fun c3 => ?_) (fun c3 => ?_)
      · try rw [w32_of (x := 5 * h) (by omega) (by omega)] at c3
        try rw [w32_of (x := ((5 * h)) + g) (by omega) (by omega)] at c3
        exact TT.ok ⟨Or.inl rfl, hW_M.1, hB.up (by omega)⟩
      · try rw [w32_of (x := 5 * h) (by omega) (by omega)] at c3
        try rw [w32_of (x := ((5 * h)) + g) (by omega) (by omega)] at c3
        refine TT.guard ⟨(by rw [wp85_33 hT_M]; exact wk101 hT_M), by omega, by rw [wp85_33 hT_M, wl101 hT_M]; omega⟩ ?_
        refine TT.bind (of84_T hT_M hR_M (by rw [w32_of (x := 84 + t) (by omega) (by omega)]; omega) (by rw [w32_of (x := 84 + t) (by omega) (by omega)]; omega)) (fun r11 h_r11 => ?_)
        refine TT.ite (fun c4 => ?_) (fun c4 => ?_)
        · refine TT.guard ⟨(by rw [wp85_29 hT_M]; exact wk97 hT_M), by rw [w32_of (x := 5 * h) (by omega) (by omega), w32_of (x := ((5 * h)) + g) (by omega) (by omega)]; omega, by rw [wp85_29 hT_M, wl97 hT_M, w32_of (x := 5 * h) (by omega) (by omega), w32_of (x := ((5 * h)) + g) (by omega) (by omega)]; omega⟩ ?_
          refine TT.guard ⟨(by rw [wp85_29 hT_M]; exact wk97 hT_M), by rw [w32_of (x := 5 * h) (by omega) (by omega), w32_of (x := ((5 * h)) + g) (by omega) (by omega)]; omega, by rw [wp85_29 hT_M, wl97 hT_M, w32_of (x := 5 * h) (by omega) (by omega), w32_of (x := ((5 * h)) + g) (by omega) (by omega)]; omega⟩ ?_
          refine TT.sq hW_M hT_M hR_M hQ_M (by rw [wp85_29 hT_M]; exact ⟨rfl, Or.inl (by decide), by decide⟩) (fun M16 e_M16 hW_M16 hT_M16 hR_M16 hQ_M16 => ?_)
          refine TT.guard ⟨(by rw [wp85_30 hT_M16]; exact wk98 hT_M16), by rw [w32_of (x := 5 * t) (by omega) (by omega), w32_of (x := ((5 * t)) + g) (by omega) (by omega)]; omega, by rw [wp85_30 hT_M16, wl98 hT_M16, w32_of (x := 5 * t) (by omega) (by omega), w32_of (x := ((5 * t)) + g) (by omega) (by omega)]; omega⟩ ?_
          refine TT.guard ⟨(by rw [wp85_30 hT_M16]; exact wk98 hT_M16), by rw [w32_of (x := 5 * t) (by omega) (by omega), w32_of (x := ((5 * t)) + g) (by omega) (by omega)]; omega, by rw [wp85_30 hT_M16, wl98 hT_M16, w32_of (x := 5 * t) (by omega) (by omega), w32_of (x := ((5 * t)) + g) (by omega) (by omega)]; omega⟩ ?_
          have hb := (hB.rb hW_M16) (5 * t + g) (by omega) (by omega)
          rw [wp85_30 hT_M16, w32_of (x := 5 * t) (by omega) (by omega), w32_of (x := 5 * t + g) (by omega) (by omega), w32_of (x := M16.1 98 (5 * t + g) + 1) (by omega) (by omega)]
          refine TT.sM ?_
          have hK_M20 : RK M (mst M16 98 (5 * t + g) (M16.1 98 (5 * t + g) + 1)) := hW_M16.1.st rfl (Or.inl (by decide))
          have hB_M20 : BagB (c + 1) (mst M16 98 (5 * t + g) (M16.1 98 (5 * t + g) + 1)) := by
            intro j h0 h1
            have hj := (hB.rb hW_M16) j h0 h1
            rw [mst_r]; split <;> omega
          generalize mst M16 98 (5 * t + g) (M16.1 98 (5 * t + g) + 1) = M20 at *
          have hT_M20 := hT_M.keep hK_M20.1
          have hR_M20 := hR_M.rk hK_M20
          have hQ_M20 := hQ_M.rk hK_M20
          have hW_M20 := RB.self M20
          refine TT.bind (place_T (by omega) (by omega) (by omega) (by omega) (by omega) (by omega)) (fun r22 h_r22 => ?_)
          refine TT.guard ⟨(by rw [wp85_31 hT_M20]; exact wk99 hT_M20), by omega, by rw [wp85_31 hT_M20, wl99 hT_M20]; omega⟩ ?_
          refine TT.guard ⟨(by rw [wp85_31 hT_M20]; exact wk99 hT_M20), by omega, by rw [wp85_31 hT_M20, wl99 hT_M20]; omega⟩ ?_
          refine TT.sq hW_M20 hT_M20 hR_M20 hQ_M20 (by rw [wp85_31 hT_M20]; exact ⟨rfl, Or.inl (by decide), by decide⟩) (fun M26 e_M26 hW_M26 hT_M26 hR_M26 hQ_M26 => ?_)
          refine TT.guard ⟨(by rw [wp85_33 hT_M26]; exact wk101 hT_M26), by omega, by rw [wp85_33 hT_M26, wl101 hT_M26]; omega⟩ ?_
          refine TT.guard ⟨(by rw [wp85_33 hT_M26]; exact wk101 hT_M26), by omega, by rw [wp85_33 hT_M26, wl101 hT_M26]; omega⟩ ?_
          refine TT.sq hW_M26 hT_M26 hR_M26 hQ_M26 (by rw [wp85_33 hT_M26]; exact ⟨rfl, Or.inl (by decide), by decide⟩) (fun M30 e_M30 hW_M30 hT_M30 hR_M30 hQ_M30 => ?_)
          refine TT.guard ⟨(by rw [wp85_35 hT_M30]; exact wk103 hT_M30), by omega, by rw [wp85_35 hT_M30, wl103 hT_M30]; omega⟩ ?_
          refine TT.guard ⟨(by rw [wp85_35 hT_M30]; exact wk103 hT_M30), by omega, by rw [wp85_35 hT_M30, wl103 hT_M30]; omega⟩ ?_
          refine TT.sq hW_M30 hT_M30 hR_M30 hQ_M30 (by rw [wp85_35 hT_M30]; exact ⟨rfl, Or.inl (by decide), by decide⟩) (fun M34 e_M34 hW_M34 hT_M34 hR_M34 hQ_M34 => ?_)
          refine TT.guard ⟨(by rw [wp85_39 hT_M34]; exact wk107 hT_M34), by omega, by rw [wp85_39 hT_M34, wl107 hT_M34]; omega⟩ ?_
          refine TT.guard ⟨(by rw [wp85_39 hT_M34]; exact wk107 hT_M34), by omega, by rw [wp85_39 hT_M34, wl107 hT_M34]; omega⟩ ?_
          refine TT.sq hW_M34 hT_M34 hR_M34 hQ_M34 (by rw [wp85_39 hT_M34]; exact ⟨rfl, Or.inl (by decide), by decide⟩) (fun M38 e_M38 hW_M38 hT_M38 hR_M38 hQ_M38 => ?_)
          refine TT.guard ⟨(by rw [wp85_38 hT_M38]; exact wk106 hT_M38), by omega, by rw [wp85_38 hT_M38, wl106 hT_M38]; omega⟩ ?_
          refine TT.sq hW_M38 hT_M38 hR_M38 hQ_M38 (by rw [wp85_38 hT_M38]; exact ⟨rfl, Or.inl (by decide), by decide⟩) (fun M41 e_M41 hW_M41 hT_M41 hR_M41 hQ_M41 => ?_)
          exact TT.ok ⟨Or.inr rfl, hK_M20.trans hW_M41.1, hB_M20.rb hW_M41⟩
        · exact TT.ok ⟨Or.inl rfl, hW_M.1, hB.up (by omega)⟩
/-- what a thief has in his bag, of all goods together -/
def SumT (t : Int) (M : Mem) : Nat := (M.1 98 (5 * t)).toNat + (M.1 98 (5 * t + 1)).toNat + (M.1 98 (5 * t + 2)).toNat + (M.1 98 (5 * t + 3)).toNat + (M.1 98 (5 * t + 4)).toNat
theorem SumT.rb {t : Int} {M N : Mem} (k : RB M N) : SumT t N = SumT t M := by unfold SumT; rw [k.2, k.2, k.2, k.2, k.2]
theorem SumT.le {c t : Int} {M : Mem} (h : BagB c M) (h0 : 0 ≤ t) (h1 : t < 4) : SumT t M ≤ 5 * c.toNat := by
  unfold SumT
  have a := h (5 * t) (by omega) (by omega)
  have b := h (5 * t + 1) (by omega) (by omega)
  have d := h (5 * t + 2) (by omega) (by omega)
  have e := h (5 * t + 3) (by omega) (by omega)
  have f := h (5 * t + 4) (by omega) (by omega)
  omega
theorem SumT.dec {t g : Int} {M : Mem} (h0 : 0 ≤ g) (h1 : g < 5) (hp : 0 < M.1 98 (5 * t + g)) : SumT t (mst M 98 (5 * t + g) (M.1 98 (5 * t + g) - 1)) < SumT t M := by
  unfold SumT
  have z : ∀ d : Int, (mst M 98 (5 * t + g) (M.1 98 (5 * t + g) - 1)).1 98 (5 * t + d) = if d = g then M.1 98 (5 * t + g) - 1 else M.1 98 (5 * t + d) := fun d => by
    rw [mst_r]
    by_cases e : d = g
    · rw [if_pos ⟨rfl, by omega⟩, if_pos e]
    · rw [if_neg (fun q => e (by omega)), if_neg e]
  have z0 := z 0
  rw [Int.add_zero] at z0
  rw [z0, z 1, z 2, z 3, z 4]
  rcases (show g = 0 ∨ g = 1 ∨ g = 2 ∨ g = 3 ∨ g = 4 by omega) with rfl | rfl | rfl | rfl | rfl
  · rw [if_pos rfl, if_neg (by decide), if_neg (by decide), if_neg (by decide), if_neg (by decide)]
    rw [Int.add_zero] at hp ⊢
    omega
  · rw [if_neg (by decide), if_pos rfl, if_neg (by decide), if_neg (by decide), if_neg (by decide)]; omega
  · rw [if_neg (by decide), if_neg (by decide), if_pos rfl, if_neg (by decide), if_neg (by decide)]; omega
  · rw [if_neg (by decide), if_neg (by decide), if_neg (by decide), if_pos rfl, if_neg (by decide)]; omega
  · rw [if_neg (by decide), if_neg (by decide), if_neg (by decide), if_neg (by decide), if_pos rfl]; omega
set_option maxHeartbeats 1000000 in
theorem givesR_T (hT_M : WT M) (hR_M : RH M) (hQ_M : RLw M) {c : Int} (hB : BagB c M) (hc : c ≤ 1000000) (t h g : Int) (hg : 0 ≤ g ∧ g < 5) : TT (fX11_gives M 85 t h g) (fun r => B01 r.1 ∧ RK M r.2 ∧ BagB c r.2 ∧ (r.1 = 0 → r.2 = M) ∧ (r.1 ≠ 0 → 0 ≤ t ∧ t < 4 ∧ SumT t r.2 < SumT t M)) := by
  unfold fX11_gives
  have hW_M := RB.self M
  refine TT.guard (wk85 hT_M) ?_
  refine TT.bind (mayGiveR_T hT_M hR_M _ _ _ (by omega)) (fun r1 h_r1 => ?_)
  refine TT.ite (fun c1 => ?_) (fun c1 => ?_)
  · exact TT.ok ⟨Or.inl rfl, hW_M.1, hB, fun _ => rfl, fun h => absurd rfl h⟩
  · have g_r1 := h_r1.use c1
    refine TT.guard ⟨(by rw [wp85_30 hT_M]; exact wk98 hT_M), by rw [w32_of (x := 5 * t) (by omega) (by omega), w32_of (x := ((5 * t)) + g) (by omega) (by omega)]; omega, by rw [wp85_30 hT_M, wl98 hT_M, w32_of (x := 5 * t) (by omega) (by omega), w32_of (x := ((5 * t)) + g) (by omega) (by omega)]; omega⟩ ?_
    refine TT.guard ⟨(by rw [wp85_30 hT_M]; exact wk98 hT_M), by rw [w32_of (x := 5 * t) (by omega) (by omega), w32_of (x := ((5 * t)) + g) (by omega) (by omega)]; omega, by rw [wp85_30 hT_M, wl98 hT_M, w32_of (x := 5 * t) (by omega) (by omega), w32_of (x := ((5 * t)) + g) (by omega) (by omega)]; omega⟩ ?_
    have gm := h_r1.use c1
    have hb := hB (5 * t + g) (by omega) (by omega)
    rw [wp85_30 hT_M, w32_of (x := 5 * t) (by omega) (by omega), w32_of (x := 5 * t + g) (by omega) (by omega), w32_of (x := M.1 98 (5 * t + g) - 1) (by omega) (by omega)]
    refine TT.sM ?_
    have hK : RK M (mst M 98 (5 * t + g) (M.1 98 (5 * t + g) - 1)) := hW_M.1.st rfl (Or.inl (by decide))
    have hB2 : BagB c (mst M 98 (5 * t + g) (M.1 98 (5 * t + g) - 1)) := by
      intro j h0 h1
      have hj := hB j h0 h1
      rw [mst_r]; split <;> omega
    have hD := SumT.dec (M := M) (t := t) hg.1 hg.2 gm.2.2.2.2
    generalize mst M 98 (5 * t + g) (M.1 98 (5 * t + g) - 1) = M7 at *
    have hT_M7 := hT_M.keep hK.1
    have hR_M7 := hR_M.rk hK
    have hQ_M7 := hQ_M.rk hK
    have hW_M7 := RB.self M7
    refine TT.guard ⟨(by rw [wp85_29 hT_M7]; exact wk97 hT_M7), by rw [w32_of (x := 5 * h) (by omega) (by omega), w32_of (x := ((5 * h)) + g) (by omega) (by omega)]; omega, by rw [wp85_29 hT_M7, wl97 hT_M7, w32_of (x := 5 * h) (by omega) (by omega), w32_of (x := ((5 * h)) + g) (by omega) (by omega)]; omega⟩ ?_
    refine TT.guard ⟨(by rw [wp85_29 hT_M7]; exact wk97 hT_M7), by rw [w32_of (x := 5 * h) (by omega) (by omega), w32_of (x := ((5 * h)) + g) (by omega) (by omega)]; omega, by rw [wp85_29 hT_M7, wl97 hT_M7, w32_of (x := 5 * h) (by omega) (by omega), w32_of (x := ((5 * h)) + g) (by omega) (by omega)]; omega⟩ ?_
    refine TT.sq hW_M7 hT_M7 hR_M7 hQ_M7 (by rw [wp85_29 hT_M7]; exact ⟨rfl, Or.inl (by decide), by decide⟩) (fun M11 e_M11 hW_M11 hT_M11 hR_M11 hQ_M11 => ?_)
    refine TT.bind (place_T (by omega) (by omega) (by omega) (by omega) (by omega) (by omega)) (fun r13 h_r13 => ?_)
    refine TT.guard ⟨(by rw [wp85_32 hT_M11]; exact wk100 hT_M11), by omega, by rw [wp85_32 hT_M11, wl100 hT_M11]; omega⟩ ?_
    refine TT.guard ⟨(by rw [wp85_32 hT_M11]; exact wk100 hT_M11), by omega, by rw [wp85_32 hT_M11, wl100 hT_M11]; omega⟩ ?_
    refine TT.sq hW_M11 hT_M11 hR_M11 hQ_M11 (by rw [wp85_32 hT_M11]; exact ⟨rfl, Or.inl (by decide), by decide⟩) (fun M17 e_M17 hW_M17 hT_M17 hR_M17 hQ_M17 => ?_)
    refine TT.guard ⟨(by rw [wp85_36 hT_M17]; exact wk104 hT_M17), by omega, by rw [wp85_36 hT_M17, wl104 hT_M17]; omega⟩ ?_
    refine TT.bind (isDoubleR_T hT_M17 hR_M17 hQ_M17 _ ) (fun r20 h_r20 => ?_)
    refine TT.jI ?_
    refine TT.ite (fun c2 => ?_) (fun c2 => ?_)
    · refine TT.guard ⟨(by rw [wp85_36 hT_M17]; exact wk104 hT_M17), by omega, by rw [wp85_36 hT_M17, wl104 hT_M17]; omega⟩ ?_
      refine TT.sq hW_M17 hT_M17 hR_M17 hQ_M17 (by rw [wp85_36 hT_M17]; exact ⟨rfl, Or.inl (by decide), by decide⟩) (fun M25 e_M25 hW_M25 hT_M25 hR_M25 hQ_M25 => ?_)
      refine TT.guard ⟨(by rw [wp85_34 hT_M25]; exact wk102 hT_M25), by omega, by rw [wp85_34 hT_M25, wl102 hT_M25]; omega⟩ ?_
      refine TT.bind (of2_T hT_M25 hR_M25 (by rw [w32_of (x := 62 + h) (by omega) (by omega)]; omega) (by rw [w32_of (x := 62 + h) (by omega) (by omega)]; omega)) (fun r28 h_r28 => ?_)
      refine TT.guard ⟨(by rw [wp85_34 hT_M25]; exact wk102 hT_M25), by omega, by rw [wp85_34 hT_M25, wl102 hT_M25]; omega⟩ ?_
      refine TT.sq hW_M25 hT_M25 hR_M25 hQ_M25 (by rw [wp85_34 hT_M25]; exact ⟨rfl, Or.inl (by decide), by decide⟩) (fun M31 e_M31 hW_M31 hT_M31 hR_M31 hQ_M31 => ?_)
      exact TT.ok ⟨Or.inr rfl, hK.trans hW_M31.1, hB2.rb hW_M31, (fun h => absurd (show (1 : Int) = 0 from h) (by decide)), (fun _ => ⟨by omega, by omega, (by rw [SumT.rb hW_M31]; exact hD)⟩)⟩
    · refine TT.guard ⟨(by rw [wp85_36 hT_M17]; exact wk104 hT_M17), by omega, by rw [wp85_36 hT_M17, wl104 hT_M17]; omega⟩ ?_
      refine TT.sq hW_M17 hT_M17 hR_M17 hQ_M17 (by rw [wp85_36 hT_M17]; exact ⟨rfl, Or.inl (by decide), by decide⟩) (fun M25 e_M25 hW_M25 hT_M25 hR_M25 hQ_M25 => ?_)
      refine TT.guard ⟨(by rw [wp85_34 hT_M25]; exact wk102 hT_M25), by omega, by rw [wp85_34 hT_M25, wl102 hT_M25]; omega⟩ ?_
      refine TT.bind (of2_T hT_M25 hR_M25 (by rw [w32_of (x := 62 + h) (by omega) (by omega)]; omega) (by rw [w32_of (x := 62 + h) (by omega) (by omega)]; omega)) (fun r28 h_r28 => ?_)
      refine TT.guard ⟨(by rw [wp85_34 hT_M25]; exact wk102 hT_M25), by omega, by rw [wp85_34 hT_M25, wl102 hT_M25]; omega⟩ ?_
      refine TT.sq hW_M25 hT_M25 hR_M25 hQ_M25 (by rw [wp85_34 hT_M25]; exact ⟨rfl, Or.inl (by decide), by decide⟩) (fun M31 e_M31 hW_M31 hT_M31 hR_M31 hQ_M31 => ?_)
      exact TT.ok ⟨Or.inr rfl, hK.trans hW_M31.1, hB2.rb hW_M31, (fun h => absurd (show (1 : Int) = 0 from h) (by decide)), (fun _ => ⟨by omega, by omega, (by rw [SumT.rb hW_M31]; exact hD)⟩)⟩
theorem givesOneR_T (hT_M : WT M) (hR_M : RH M) (hQ_M : RLw M) {c : Int} (hB : BagB c M) (hc : c ≤ 1000000) (t : Int) : TT (fX11_givesOne M 85 t) (fun r => B01 r.1 ∧ RK M r.2 ∧ BagB c r.2 ∧ (r.1 = 0 → r.2 = M) ∧ (r.1 ≠ 0 → 0 ≤ t ∧ t < 4 ∧ SumT t r.2 < SumT t M)) := by
  unfold fX11_givesOne
  have hh := hR_M.2.1
  refine TT.iter (fun (s : Int × Mem) => (0 ≤ s.1 ∧ s.1 ≤ 5) ∧ s.2 = M) (fun s => (5 - s.1).toNat) ?_ _ _ ⟨⟨by dsimp only; omega, by dsimp only; omega⟩, rfl⟩ (by unfold BIG; dsimp only; omega)
  rintro rec ⟨i, N⟩ ⟨⟨hl, hu⟩, e⟩ hr
  dsimp only at hl hu e ⊢
  subst e
  refine TT.ite (fun c1 => ?_) (fun _ => TT.ok ⟨Or.inl rfl, RK.self _, hB, fun _ => rfl, fun h => absurd rfl h⟩)
  refine TT.iter (fun (s : Int × Mem) => (0 ≤ s.1 ∧ s.1 ≤ 6) ∧ s.2 = N) (fun s => (6 - s.1).toNat) ?_ _ _ ⟨⟨by dsimp only; omega, by dsimp only; omega⟩, rfl⟩ (by unfold BIG; dsimp only; omega)
  rintro rec2 ⟨j, N2⟩ ⟨⟨hl2, hu2⟩, e2⟩ hr2
  dsimp only at hl2 hu2 e2 ⊢
  subst e2
  refine TT.guard (wk85 hT_M) (TT.ite (fun c2 => TT.bind (givesR_T hT_M hR_M hQ_M hB hc t j i ⟨hl, c1⟩) (fun r q => TT.ite (fun c3 => ?_) (fun c3 => TT.ok ⟨Or.inr rfl, q.2.1, q.2.2.1, (fun h => absurd (show (1 : Int) = 0 from h) (by decide)), fun _ => q.2.2.2.2 c3⟩))) (fun _ => hr _ ⟨⟨by dsimp only [w32]; omega, by dsimp only [w32]; omega⟩, rfl⟩ (by dsimp only [w32]; omega)))
  exact hr2 _ ⟨⟨by dsimp only [w32]; omega, by dsimp only [w32]; omega⟩, q.2.2.2.1 c3⟩ (by dsimp only [w32]; omega)
theorem bUshr_nn (x : Int) : 0 ≤ bUshr x 16 := by
  unfold bUshr
  have e : ((Int32.ofInt 16).toUInt32 &&& Int32.toUInt32 31) = 16 := by decide
  rw [e]
  generalize (Int32.ofInt x).toUInt32 = u
  have h : (u >>> 16).toNat < 65536 := by
    rw [UInt32.toNat_shiftRight]
    have := u.toNat_lt
    show u.toNat >>> 16 < 65536
    rw [Nat.shiftRight_eq_div_pow]
    omega
  show 0 ≤ (u >>> 16).toBitVec.toInt
  rw [BitVec.toInt_eq_toNat_of_lt (by show 2 * (u >>> 16).toNat < 2 ^ 32; omega)]
  exact Int.natCast_nonneg _
theorem drawR_T (hT_M : WT M) (hR_M : RH M) (n : Int) (hn : 0 < n) : TT (fX11_draw M 85 n) (fun r => (0 ≤ r.1 ∧ r.1 < n) ∧ RB M r.2) := by
  unfold fX11_draw
  refine TT.guard (wk85 hT_M) (TT.sM (TT.guard (by omega) (TT.ok ⟨?_, (RB.self M).st rfl (Or.inr (by decide)) (by decide)⟩)))
  have h := bUshr_nn ((mst M 85 49 (w32 ((w32 ((M.1 85 49) * 1103515245)) + 12345))).1 85 49)
  exact ⟨Int.tmod_nonneg _ h, Int.tmod_lt_of_pos _ hn⟩
def RZ (M N : Mem) : Prop := RK M N ∧ BagB 0 N
theorem TT.sz {a i v : Int} {f : Mem → Option ρ} (hW : RZ M0 M) (hT : WT M) (hR : RH M) (hs : scr a i = true ∧ (a ≠ 85 ∨ ¬((24 ≤ i ∧ i ≤ 28) ∨ i = 48)) ∧ a ≠ 98)
    (k : ∀ N, N = mst M a i v → RZ M0 N → WT N → RH N → TT (f N) Q) : TT (bM (mst M a i v) f) Q :=
  have h1 := (RB.self M).st (v := v) hs.1 hs.2.1 hs.2.2
  k _ rfl ⟨hW.1.st hs.1 hs.2.1, hW.2.rb h1⟩ (hT.keep h1.1.1) (hR.rk h1.1)
set_option maxHeartbeats 1000000 in
theorem beginR_T (hT_M : WT M) (hR_M : RH M) : TT (fX11_begin M 85) (fun r => RZ M r) := by
  unfold fX11_begin
  refine TT.iter (fun (s : Int × Mem) => (0 ≤ s.1 ∧ s.1 ≤ 30) ∧ RK M s.2) (fun s => (30 - s.1).toNat) ?_ _ _ ⟨⟨by dsimp only; omega, by dsimp only; omega⟩, RK.self M⟩ (by unfold BIG; dsimp only; omega)
  rintro rec1 s1 ⟨⟨hl1, hu1⟩, hW1⟩ hr1
  have hT1 := hT_M.keep hW1.1
  have hR1 := hR_M.rk hW1
  refine TT.ite (fun c => ?_) (fun _ => ?_)
  · rw [w32_of (x := 2 + s1.1) (by omega) (by omega), wp85_29 hT1]
    refine TT.guard (wk85 hT1) (TT.bind (of2_T hT1 hR1 (by omega) (by omega)) (fun r5 _ => TT.guard ⟨wk97 hT1, hl1, by rw [wl97 hT1]; exact c⟩ (TT.sM ?_)))
    exact hr1 _ ⟨⟨by dsimp only [w32]; omega, by dsimp only [w32]; omega⟩, hW1.st rfl (Or.inl (by decide))⟩ (by dsimp only [w32]; omega)
  · refine TT.iter (fun (s : Int × Mem) => (0 ≤ s.1 ∧ s.1 ≤ 20) ∧ RK M s.2 ∧ ∀ j, 0 ≤ j → j < s.1 → s.2.1 98 j = 0) (fun s => (20 - s.1).toNat) ?_ _ _ ⟨⟨by dsimp only; omega, by dsimp only; omega⟩, hW1, fun j h0 h1 => by dsimp only at h1; omega⟩ (by unfold BIG; dsimp only; omega)
    rintro rec2 s11 ⟨⟨hl2, hu2⟩, hW2, hz⟩ hr2
    have hT_Z := hT_M.keep hW2.1
    have hR_Z := hR_M.rk hW2
    refine TT.ite (fun c => ?_) (fun c => ?_)
    · rw [wp85_30 hT_Z]
      refine TT.guard (wk85 hT_Z) (TT.guard ⟨wk98 hT_Z, hl2, by rw [wl98 hT_Z]; exact c⟩ (TT.sM ?_))
      refine hr2 _ ⟨⟨by dsimp only [w32]; omega, by dsimp only [w32]; omega⟩, hW2.st rfl (Or.inl (by decide)), fun j h0 h1 => ?_⟩ (by dsimp only [w32]; omega)
      dsimp only [w32] at h1
      show (mst _ 98 _ 0).1 98 j = 0
      rw [mst_r]
      by_cases e : j = s11.1
      · rw [if_pos ⟨rfl, e⟩]
      · rw [if_neg (fun q => e q.2)]; exact hz j h0 (by omega)
    · have hW_Z : RZ M s11.2 := ⟨hW2, fun j h0 h1 => by rw [hz j h0 (by omega)]; decide⟩
      refine TT.iter (fun (s : Int × Mem) => (0 ≤ s.1 ∧ s.1 ≤ 120) ∧ RZ M s.2 ∧ WT s.2 ∧ RH s.2) (fun s => (120 - s.1).toNat) ?_ _ _ ⟨⟨by (try dsimp only [w32]); omega, by (try dsimp only [w32]); omega⟩, hW_Z, hT_Z, hR_Z⟩ (by unfold BIG; (try dsimp only [w32]); omega)
      rintro rec17 s18 ⟨⟨hl_s18, hu_s18⟩, hW_s18, hT_s18, hR_s18⟩ hr_rec17
      refine TT.ite (fun c1 => ?_) (fun c1 => ?_)
      · refine TT.guard (wk85 hT_s18) ?_
        refine TT.guard ⟨(by rw [wp85_31 hT_s18]; exact wk99 hT_s18), by omega, by rw [wp85_31 hT_s18, wl99 hT_s18]; omega⟩ ?_
        refine TT.sz hW_s18 hT_s18 hR_s18 (by rw [wp85_31 hT_s18]; exact ⟨rfl, Or.inl (by decide), by decide⟩) (fun M22 e_M22 hW_M22 hT_M22 hR_M22 => ?_)
        refine TT.guard ⟨(by rw [wp85_32 hT_M22]; exact wk100 hT_M22), by omega, by rw [wp85_32 hT_M22, wl100 hT_M22]; omega⟩ ?_
        refine TT.sz hW_M22 hT_M22 hR_M22 (by rw [wp85_32 hT_M22]; exact ⟨rfl, Or.inl (by decide), by decide⟩) (fun M25 e_M25 hW_M25 hT_M25 hR_M25 => ?_)
        exact hr_rec17 _ ⟨⟨by (try dsimp only [w32]); omega, by (try dsimp only [w32]); omega⟩, hW_M25, hT_M25, hR_M25⟩ (by (try dsimp only [w32]); omega)
      · refine TT.iter (fun (s : Int × Mem) => (0 ≤ s.1 ∧ s.1 ≤ 4) ∧ RZ M s.2 ∧ WT s.2 ∧ RH s.2) (fun s => (4 - s.1).toNat) ?_ _ _ ⟨⟨by (try dsimp only [w32]); omega, by (try dsimp only [w32]); omega⟩, hW_s18, hT_s18, hR_s18⟩ (by unfold BIG; (try dsimp only [w32]); omega)
        rintro rec27 s28 ⟨⟨hl_s28, hu_s28⟩, hW_s28, hT_s28, hR_s28⟩ hr_rec27
        refine TT.ite (fun c2 => ?_) (fun c2 => ?_)
        · refine TT.guard (wk85 hT_s28) ?_
          refine TT.guard ⟨(by rw [wp85_33 hT_s28]; exact wk101 hT_s28), by omega, by rw [wp85_33 hT_s28, wl101 hT_s28]; omega⟩ ?_
          refine TT.sz hW_s28 hT_s28 hR_s28 (by rw [wp85_33 hT_s28]; exact ⟨rfl, Or.inl (by decide), by decide⟩) (fun M32 e_M32 hW_M32 hT_M32 hR_M32 => ?_)
          refine TT.guard ⟨(by rw [wp85_34 hT_M32]; exact wk102 hT_M32), by omega, by rw [wp85_34 hT_M32, wl102 hT_M32]; omega⟩ ?_
          refine TT.sz hW_M32 hT_M32 hR_M32 (by rw [wp85_34 hT_M32]; exact ⟨rfl, Or.inl (by decide), by decide⟩) (fun M35 e_M35 hW_M35 hT_M35 hR_M35 => ?_)
          refine TT.guard ⟨(by rw [wp85_35 hT_M35]; exact wk103 hT_M35), by omega, by rw [wp85_35 hT_M35, wl103 hT_M35]; omega⟩ ?_
          refine TT.sz hW_M35 hT_M35 hR_M35 (by rw [wp85_35 hT_M35]; exact ⟨rfl, Or.inl (by decide), by decide⟩) (fun M38 e_M38 hW_M38 hT_M38 hR_M38 => ?_)
          refine TT.guard ⟨(by rw [wp85_36 hT_M38]; exact wk104 hT_M38), by omega, by rw [wp85_36 hT_M38, wl104 hT_M38]; omega⟩ ?_
          refine TT.sz hW_M38 hT_M38 hR_M38 (by rw [wp85_36 hT_M38]; exact ⟨rfl, Or.inl (by decide), by decide⟩) (fun M41 e_M41 hW_M41 hT_M41 hR_M41 => ?_)
          refine TT.guard ⟨(by rw [wp85_37 hT_M41]; exact wk105 hT_M41), by omega, by rw [wp85_37 hT_M41, wl105 hT_M41]; omega⟩ ?_
          refine TT.sz hW_M41 hT_M41 hR_M41 (by rw [wp85_37 hT_M41]; exact ⟨rfl, Or.inl (by decide), by decide⟩) (fun M44 e_M44 hW_M44 hT_M44 hR_M44 => ?_)
          refine TT.guard ⟨(by rw [wp85_38 hT_M44]; exact wk106 hT_M44), by omega, by rw [wp85_38 hT_M44, wl106 hT_M44]; omega⟩ ?_
          refine TT.sz hW_M44 hT_M44 hR_M44 (by rw [wp85_38 hT_M44]; exact ⟨rfl, Or.inl (by decide), by decide⟩) (fun M47 e_M47 hW_M47 hT_M47 hR_M47 => ?_)
          exact hr_rec27 _ ⟨⟨by (try dsimp only [w32]); omega, by (try dsimp only [w32]); omega⟩, hW_M47, hT_M47, hR_M47⟩ (by (try dsimp only [w32]); omega)
        · refine TT.iter (fun (s : Int × Mem) => (0 ≤ s.1 ∧ s.1 ≤ 6) ∧ RZ M s.2 ∧ WT s.2 ∧ RH s.2) (fun s => (6 - s.1).toNat) ?_ _ _ ⟨⟨by (try dsimp only [w32]); omega, by (try dsimp only [w32]); omega⟩, hW_s28, hT_s28, hR_s28⟩ (by unfold BIG; (try dsimp only [w32]); omega)
          rintro rec49 s50 ⟨⟨hl_s50, hu_s50⟩, hW_s50, hT_s50, hR_s50⟩ hr_rec49
          refine TT.ite (fun c3 => ?_) (fun c3 => ?_)
          · refine TT.guard (wk85 hT_s50) ?_
            refine TT.guard ⟨(by rw [wp85_39 hT_s50]; exact wk107 hT_s50), by omega, by rw [wp85_39 hT_s50, wl107 hT_s50]; omega⟩ ?_
            refine TT.sz hW_s50 hT_s50 hR_s50 (by rw [wp85_39 hT_s50]; exact ⟨rfl, Or.inl (by decide), by decide⟩) (fun M54 e_M54 hW_M54 hT_M54 hR_M54 => ?_)
            exact hr_rec49 _ ⟨⟨by (try dsimp only [w32]); omega, by (try dsimp only [w32]); omega⟩, hW_M54, hT_M54, hR_M54⟩ (by (try dsimp only [w32]); omega)
          · refine TT.guard (wk85 hT_s50) ?_
            refine TT.sz hW_s50 hT_s50 hR_s50 (⟨rfl, Or.inr (by decide), by decide⟩) (fun M57 e_M57 hW_M57 hT_M57 hR_M57 => ?_)
            refine TT.sz hW_M57 hT_M57 hR_M57 (⟨rfl, Or.inr (by decide), by decide⟩) (fun M59 e_M59 hW_M59 hT_M59 hR_M59 => ?_)
            refine TT.sz hW_M59 hT_M59 hR_M59 (⟨rfl, Or.inr (by decide), by decide⟩) (fun M61 e_M61 hW_M61 hT_M61 hR_M61 => ?_)
            exact TT.ok hW_M61
def RN (M : Mem) : Prop := M.1 85 28 = 0 ∨ M.1 85 28 = 1
theorem RN.rk {M N : Mem} (h : RN M) (k : RK M N) : RN N := by unfold RN at *; rw [k.2 28 (by decide)]; exact h
theorem deedOf_T (hT : WT M) (hN : RN M) {k x : Int} (k0 : 0 ≤ k) (k1 : k < 40) (x0 : 0 ≤ x) (x1 : x < 4) : TT (fX11_deedOf M 85 k x) (fun r => r = M.1 93 (161 * M.1 85 28 + 1 + 4 * k + x)) := by
  unfold fX11_deedOf
  have h : 0 ≤ M.1 85 28 ∧ M.1 85 28 ≤ 1 := by rcases hN with e | e <;> omega
  rw [wp85_8 hT, w32_of (x := 161 * M.1 85 28) (by omega) (by omega), w32_of (x := 161 * M.1 85 28 + 1) (by omega) (by omega), w32_of (x := 4 * k) (by omega) (by omega), w32_of (x := 161 * M.1 85 28 + 1 + 4 * k) (by omega) (by omega), w32_of (x := 161 * M.1 85 28 + 1 + 4 * k + x) (by omega) (by omega)]
  exact TT.guard (wk85 hT) (TT.guard ⟨wk93 hT, by omega, by rw [wl93 hT]; omega⟩ (TT.ok rfl))
theorem doesR_T (hT_M : WT M) (hR_M : RH M) (hQ_M : RLw M) (hN : RN M) {c : Int} (hB : BagB c M) (c0 : 0 ≤ c) (hc : c ≤ 1000000) (k : Int) (k0 : 0 ≤ k) (k1 : k < 40) : TT (fX11_does M 85 k) (fun r => B01 r.1 ∧ RK M r.2 ∧ BagB (c + 1) r.2) := by
  unfold fX11_does
  refine TT.guard (wk85 hT_M) (TT.sM ?_)
  have hW : RB M (mst M 85 42 k) := (RB.self M).st rfl (Or.inr (by decide)) (by decide)
  generalize mst M 85 42 k = N at *
  have hT := hT_M.keep hW.1.1
  have hR := hR_M.rk hW.1
  have hQ := hQ_M.rk hW.1
  have hN2 := hN.rk hW.1
  have hB2 := hB.rb hW
  refine TT.bind (deedOf_T hT hN2 k0 k1 (by decide) (by decide)) (fun x e1 => TT.bind (deedOf_T hT hN2 k0 k1 (by decide) (by decide)) (fun y e2 => TT.bind (deedOf_T hT hN2 k0 k1 (by decide) (by decide)) (fun z e3 => TT.bind (deedOf_T hT hN2 k0 k1 (by decide) (by decide)) (fun d e0 => ?_))))
  have hz : d = 0 ∨ d = 1 → 0 ≤ z ∧ z < 5 := fun hd => by
    have h : 0 ≤ N.1 85 28 ∧ N.1 85 28 < 8 := by rcases hN2 with e | e <;> omega
    have := hT.2.2.2 (N.1 85 28) k h.1 h.2 k0 k1 (by rw [e0, Int.add_zero] at hd; exact hd)
    rw [e3, show 161 * N.1 85 28 + 1 + 4 * k + 3 = 161 * N.1 85 28 + 4 + 4 * k by omega]; omega
  refine TT.ite (fun c1 => ?_) (fun _ => TT.ite (fun c2 => ?_) (fun _ => TT.ite (fun _ => ?_) (fun _ => ?_)))
  · exact TT.bind (takesR_T hT hR hQ hB2 hc x y z (hz (Or.inl c1))) (fun r q => TT.guard q.1 (TT.ok ⟨q.1, hW.1.trans q.2.1, q.2.2⟩))
  · exact TT.bind (givesR_T hT hR hQ hB2 hc x y z (hz (Or.inr c2))) (fun r q => TT.guard q.1 (TT.ok ⟨q.1, hW.1.trans q.2.1, q.2.2.1.up (by omega)⟩))
  · exact TT.bind (setsR_T hT hR hQ x y z) (fun r q => TT.guard q.1 (TT.ok ⟨q.1, hW.1.trans q.2.1, (hB2.rb q.2).up (by omega)⟩))
  · exact TT.bind (endsR_T hT hR hQ) (fun r q => TT.ok ⟨Or.inr rfl, hW.1.trans q.1, (hB2.rb q).up (by omega)⟩)
theorem playR_T (hT_M : WT M) (hR_M : RH M) (hQ_M : RLw M) (hN : RN M) (n : Int) (hn : n ≤ 40) : TT (fX11_play M 85 n) (fun r => (0 ≤ r.1 ∧ r.1 ≤ 40) ∧ RK M r.2) := by
  unfold fX11_play
  refine TT.guard (wk85 hT_M) (TT.bind (beginR_T hT_M hR_M) (fun r1 q1 => ?_))
  refine TT.iter (fun (s : Int × Mem) => (0 ≤ s.1 ∧ s.1 ≤ 40) ∧ RK M s.2 ∧ BagB s.1 s.2) (fun s => (40 - s.1).toNat) ?_ _ _ ⟨⟨by dsimp only; omega, by dsimp only; omega⟩, q1.1, q1.2⟩ (by unfold BIG; dsimp only; omega)
  rintro rec s ⟨⟨hl, hu⟩, hK, hB⟩ hr
  have hT := hT_M.keep hK.1
  refine TT.ite (fun c => TT.guard (wk85 hT) (TT.bind (doesR_T hT (hR_M.rk hK) (hQ_M.rk hK) (hN.rk hK) hB hl (by omega) s.1 hl (by omega)) (fun r q => TT.ite (fun _ => TT.ok ⟨⟨hl, hu⟩, hK.trans q.2.1⟩) (fun _ => ?_)))) (fun _ => TT.ok ⟨⟨hl, hu⟩, hK⟩)
  refine hr _ ⟨⟨by dsimp only [w32]; omega, by dsimp only [w32]; omega⟩, hK.trans q.2.1, ?_⟩ (by dsimp only [w32]; omega)
  show BagB (w32 (s.1 + 1)) r.2
  rw [w32_of (x := s.1 + 1) (by omega) (by omega)]; exact q.2.2
theorem drawThiefR_T (hT_M : WT M) (hR_M : RH M) (hQ_M : RLw M) {c : Int} (hB : BagB c M) (c0 : 0 ≤ c) (hc : c ≤ 100000) (t : Int) (t0 : 0 ≤ t) (t1 : t < 4) : TT (fX11_drawThief M 85 t) (fun r => RK M r ∧ BagB (c + 9) r) := by
  unfold fX11_drawThief
  refine TT.iter (fun (s : Int × Mem) => (0 ≤ s.1 ∧ s.1 ≤ 9) ∧ RK M s.2 ∧ BagB (c + s.1) s.2) (fun s => (9 - s.1).toNat) ?_ _ _ ⟨⟨by dsimp only; omega, by dsimp only; omega⟩, RK.self M, by dsimp only; rw [Int.add_zero]; exact hB⟩ (by unfold BIG; dsimp only; omega)
  rintro rec s ⟨⟨hl, hu⟩, hK, hBs⟩ hr
  have hT := hT_M.keep hK.1
  have hR := hR_M.rk hK
  have hQ := hQ_M.rk hK
  have hh := hR.2.1
  rw [w32_of (x := 84 + t) (by omega) (by omega)]
  refine TT.guard (wk85 hT) (TT.bind (of84_T hT hR (by omega) (by omega)) (fun r3 q3 => TT.ite (fun c1 => ?_) (fun _ => ?_)))
  · refine TT.bind (drawR_T hT hR _ (by omega)) (fun r7 q7 => ?_)
    have hK7 := hK.trans q7.2.1
    have hT7 := hT_M.keep hK7.1
    refine TT.guard (wk85 hT7) (TT.bind (drawR_T hT7 (hR_M.rk hK7) 5 (by decide)) (fun r9 q9 => ?_))
    have hK9 := hK7.trans q9.2.1
    have hT9 := hT_M.keep hK9.1
    have hB9 := (hBs.rb q7.2).rb q9.2
    refine TT.guard (wk85 hT9) (TT.bind (takesR_T hT9 (hR_M.rk hK9) (hQ_M.rk hK9) hB9 (by omega) t r7.1 r9.1 q9.1) (fun r12 q => ?_))
    refine hr _ ⟨⟨by dsimp only [w32]; omega, by dsimp only [w32]; omega⟩, hK9.trans q.2.1, ?_⟩ (by dsimp only [w32]; omega)
    show BagB (c + w32 (s.1 + 1)) r12.2
    rw [w32_of (x := s.1 + 1) (by omega) (by omega), ← Int.add_assoc]; exact q.2.2
  · refine TT.iter (fun (u : Int × Mem) => RK M u.2 ∧ BagB (c + 9) u.2) (fun u => 2 * SumT t u.2 + if u.1 = 0 then 0 else 1) ?_ _ _ ⟨hK, hBs.up (by omega)⟩ ?_
    · rintro rec2 u ⟨hK2, hB2⟩ hr2
      have hT2 := hT_M.keep hK2.1
      refine TT.ite (fun _ => TT.ok ⟨hK2, hB2⟩) (fun c2 => TT.guard (wk85 hT2) (TT.bind (owesR_T hT2 (hR_M.rk hK2) (hQ_M.rk hK2) t ⟨t0, t1⟩) (fun r18 _ => TT.ite (fun _ => TT.bind (givesOneR_T hT2 (hR_M.rk hK2) (hQ_M.rk hK2) hB2 (by omega) t) (fun r q => hr2 _ ⟨hK2.trans q.2.1, q.2.2.1⟩ ?_)) (fun _ => TT.ok ⟨hK2, hB2⟩))))
      dsimp only
      rw [if_neg c2]
      by_cases e : r.1 = 0
      · rw [if_pos e, q.2.2.2.1 e]; omega
      · rw [if_neg e]
        have := (q.2.2.2.2 e).2.2
        omega
    · have := SumT.le (hBs.up (show c + s.1 ≤ c + 9 by omega)) t0 t1
      dsimp only
      unfold BIG
      split <;> omega
end RefW
