/-! the reference's parser: token -/
section RefP
variable {M : Mem}
theorem in_v2 (M : Mem) (a b c : Int) : fX11_in M a b c = some (if b ≤ a ∧ a ≤ c then 1 else 0) := by
  unfold fX11_in
  by_cases h1 : a < b
  · rw [if_pos h1, if_neg (by omega)]
  · by_cases h2 : c < a
    · rw [if_neg h1, if_pos h2, if_neg (by omega)]
    · rw [if_neg h1, if_neg h2, if_pos (by omega)]
def PS (M : Mem) : Prop := 0 ≤ M.1 85 10 ∧ M.1 85 10 ≤ M.1 85 11 ∧ M.1 85 11 ≤ 600
def PT (M : Mem) : Prop := PS M ∧ (0 ≤ M.1 85 12 ∧ M.1 85 12 ≤ M.1 85 10) ∧ (M.1 85 13 ≠ 0 → M.1 85 12 < M.1 85 10) ∧ (M.1 85 13 = 3 → 0 ≤ M.1 85 14 ∧ M.1 85 14 ≤ 99)
def seeV (M : Mem) : Int := if M.1 85 10 < M.1 85 11 then bAnd (M.1 86 (M.1 85 10)) 255 else -1
theorem seeV_lt {M : Mem} (h : seeV M ≠ -1) : M.1 85 10 < M.1 85 11 := by
  unfold seeV at h
  by_cases q : M.1 85 10 < M.1 85 11
  · exact q
  · rw [if_neg q] at h; exact absurd rfl h
theorem see_v (hT : WT M) (hp : PS M) : fX11_see M 85 = some (seeV M) := by
  unfold fX11_see seeV
  have hp1 := hp.1
  have hp2 := hp.2.2
  rw [if_pos (wk85 hT), wp85_1 hT]
  by_cases h : M.1 85 10 < M.1 85 11
  · rw [if_pos h, if_pos ⟨Or.inl (wk86 hT), hp1, by rw [wl86 hT]; omega⟩, if_pos h]
  · rw [if_neg h, if_neg h]
def TK (M N : Mem) : Prop := N.2 = M.2 ∧ ∀ x y, (x ≠ 85 ∨ y ≤ 9 ∨ y = 11 ∨ 16 ≤ y) → N.1 x y = M.1 x y
theorem TK.self (M : Mem) : TK M M := ⟨rfl, fun _ _ _ => rfl⟩
theorem TK.st {M N : Mem} (h : TK M N) {i : Int} (v : Int) (hi : 10 ≤ i ∧ i ≤ 15 ∧ i ≠ 11) : TK M (mst N 85 i v) := ⟨h.1, fun x y q => by
  rw [mst_r, if_neg (by rintro ⟨e1, e2⟩; omega), h.2 x y q]⟩
theorem scr85 {y : Int} (h : (10 ≤ y ∧ y ≤ 18) ∨ (21 ≤ y ∧ y ≤ 23)) : scr 85 y = true := by
  rcases (show y = 10 ∨ y = 11 ∨ y = 12 ∨ y = 13 ∨ y = 14 ∨ y = 15 ∨ y = 16 ∨ y = 17 ∨ y = 18 ∨ y = 21 ∨ y = 22 ∨ y = 23 by omega) with e | e | e | e | e | e | e | e | e | e | e | e <;> subst e <;> rfl
theorem TK.keep {M N : Mem} (h : TK M N) : Keep M N := ⟨h.1, fun x y q => h.2 x y (by
  by_cases c : x ≠ 85 ∨ y ≤ 9 ∨ y = 11 ∨ 16 ≤ y
  · exact c
  · exfalso
    have e : x = 85 := by omega
    subst e
    rw [scr85 (by omega)] at q; cases q)⟩
def TokQ (M r : Mem) : Prop := TK M r ∧ PT r ∧ M.1 85 10 ≤ r.1 85 12
set_option maxHeartbeats 1000000 in
theorem token_T (hT : WT M) (hp : PS M) : TT (fX11_token M 85) (TokQ M) := by
  unfold fX11_token
  refine TT.iter (fun s : Mem => TK M s ∧ PS s ∧ M.1 85 10 ≤ s.1 85 10) (fun s => (s.1 85 11 - s.1 85 10).toNat) ?_ BIG M ⟨TK.self M, hp, Int.le_refl _⟩ (by obtain ⟨h1, h2, h3⟩ := hp; unfold BIG; omega)
  rintro rec s ⟨hK, hp2, hm⟩ hr
  have hTs := hT.keep hK.keep
  obtain ⟨p1, p2, p3⟩ := hp2
  refine TT.guard (wk85 hTs) (TT.bindE (see_v hTs ⟨p1, p2, p3⟩) ?_)
  refine TT.join (fun _ => seeV s ≠ -1) (fun _ hs => ?_) (fun j hj => ?_)
  · have hlt := seeV_lt hs
    have e : w32 (s.1 85 10 + 1) = s.1 85 10 + 1 := w32_of (by omega) (by omega)
    refine TT.sM (hr _ ⟨hK.st _ (by decide), ⟨?_, ?_, p3⟩, ?_⟩ ?_)
    · show 0 ≤ w32 (s.1 85 10 + 1)
      rw [e]; omega
    · show w32 (s.1 85 10 + 1) ≤ s.1 85 11
      rw [e]; omega
    · show M.1 85 10 ≤ w32 (s.1 85 10 + 1)
      rw [e]; omega
    · show (s.1 85 11 - w32 (s.1 85 10 + 1)).toNat < _
      rw [e]; omega
  refine TT.ite (fun e => hj () (by rw [e]; decide)) (fun e1 => TT.bindE (see_v hTs ⟨p1, p2, p3⟩) (TT.ite (fun e => hj () (by rw [e]; decide)) (fun e2 => TT.sM ?_)))
  have hK1 : TK M (mst s 85 12 (s.1 85 10)) := hK.st _ (by decide)
  have hT1 := hT.keep hK1.keep
  refine TT.bindE (see_v hT1 ⟨p1, p2, p3⟩) (TT.sM ?_)
  have hc : seeV (mst s 85 12 (s.1 85 10)) = seeV s := rfl
  rw [hc]
  have hK2 : TK M (mst (mst s 85 12 (s.1 85 10)) 85 15 0) := hK1.st _ (by decide)
  have a10 : (mst (mst s 85 12 (s.1 85 10)) 85 15 0).1 85 10 = s.1 85 10 := rfl
  have a11 : (mst (mst s 85 12 (s.1 85 10)) 85 15 0).1 85 11 = s.1 85 11 := rfl
  have a12 : (mst (mst s 85 12 (s.1 85 10)) 85 15 0).1 85 12 = s.1 85 10 := rfl
  have hc2 : seeV (mst (mst s 85 12 (s.1 85 10)) 85 15 0) = seeV s := rfl
  generalize mst (mst s 85 12 (s.1 85 10)) 85 15 0 = N at *
  have hTN := hT.keep hK2.keep
  generalize seeV s = c at *
  generalize s.1 85 10 = b at *
  generalize s.1 85 11 = l at *
  refine TT.ite (fun h0 => TT.sM (TT.ok ⟨hK2.st _ (by decide), ⟨⟨?_, ?_, ?_⟩, ⟨?_, ?_⟩, fun h => absurd rfl h, fun h => ?_⟩, ?_⟩)) (fun h0 => ?_)
  · show 0 ≤ N.1 85 10
    omega
  · show N.1 85 10 ≤ N.1 85 11
    omega
  · show N.1 85 11 ≤ 600
    omega
  · show 0 ≤ N.1 85 12
    omega
  · show N.1 85 12 ≤ N.1 85 10
    omega
  · have h' : (0 : Int) = 3 := h
    omega
  · show M.1 85 10 ≤ N.1 85 12
    omega
  have hlt : N.1 85 10 < N.1 85 11 := seeV_lt (by rw [hc2]; omega)
  refine TT.bindE (in_v2 _ _ _ _) ?_
  by_cases hw : 97 ≤ c ∧ c ≤ 122
  · rw [if_pos hw]
    refine TT.neg (by decide) ?_
    refine TT.iter (fun u : Int × Mem => TK M u.2 ∧ PS u.2 ∧ u.2.1 85 12 = b ∧ b ≤ u.2.1 85 10 ∧ (b < u.2.1 85 10 ∨ (97 ≤ seeV u.2 ∧ seeV u.2 ≤ 122)) ∧ 0 ≤ u.1 ∧ u.1 ≤ u.2.1 85 10) (fun u => (u.2.1 85 11 - u.2.1 85 10).toNat) ?_ BIG (0, N) ⟨hK2, ⟨by dsimp only; omega, by dsimp only; omega, by dsimp only; omega⟩, a12, by dsimp only; omega, Or.inr (by dsimp only; rw [hc2]; exact hw), by dsimp only; omega, by dsimp only; omega⟩ (by unfold BIG; dsimp only; omega)
    rintro rec2 ⟨n, u⟩ ⟨hKu, ⟨q1, q2, q3⟩, q12, qb, qs, qn0, qn1⟩ hr2
    simp only at hKu q1 q2 q3 q12 qb qs qn0 qn1 ⊢
    have hTu := hT.keep hKu.keep
    refine TT.guard (wk85 hTu) (TT.bindE (see_v hTu ⟨q1, q2, q3⟩) (TT.bindE (in_v2 _ _ _ _) ?_))
    by_cases hd : 97 ≤ seeV u ∧ seeV u ≤ 122
    · rw [if_pos hd]
      refine TT.neg (by decide) (TT.bindE (see_v hTu ⟨q1, q2, q3⟩) (TT.sM (TT.sM ?_)))
      have hl2 := seeV_lt (M := u) (by omega)
      have e : w32 (u.1 85 10 + 1) = u.1 85 10 + 1 := w32_of (by omega) (by omega)
      have en : w32 (n + 1) = n + 1 := w32_of (by omega) (by omega)
      refine hr2 _ ⟨(hKu.st _ (by decide)).st _ (by decide), ⟨?_, ?_, q3⟩, q12, ?_, Or.inl ?_, ?_, ?_⟩ ?_
      · show 0 ≤ w32 (u.1 85 10 + 1)
        rw [e]; omega
      · show w32 (u.1 85 10 + 1) ≤ u.1 85 11
        rw [e]; omega
      · show b ≤ w32 (u.1 85 10 + 1)
        rw [e]; omega
      · show b < w32 (u.1 85 10 + 1)
        rw [e]; omega
      · show 0 ≤ w32 (n + 1)
        rw [en]; omega
      · show w32 (n + 1) ≤ w32 (u.1 85 10 + 1)
        rw [en, e]; omega
      · show (u.1 85 11 - w32 (u.1 85 10 + 1)).toNat < (u.1 85 11 - u.1 85 10).toNat
        rw [e]; omega
    · rw [if_neg hd]
      refine TT.pos rfl ?_
      have qb2 := qs.resolve_right hd
      refine TT.join (fun _ => True) (fun t _ => TT.sM (TT.sM (TT.ok ⟨(hKu.st _ (by decide)).st _ (by decide), ⟨⟨q1, q2, q3⟩, ⟨?_, ?_⟩, fun _ => ?_, fun h => ?_⟩, ?_⟩))) (fun j hj => TT.ite (fun _ => hj _ trivial) (fun _ => hj _ trivial))
      · show 0 ≤ u.1 85 12
        omega
      · show u.1 85 12 ≤ u.1 85 10
        omega
      · show u.1 85 12 < u.1 85 10
        omega
      · have h' : (2 : Int) = 3 := h
        omega
      · show M.1 85 10 ≤ u.1 85 12
        omega
  · rw [if_neg hw]
    refine TT.pos rfl (TT.bindE (in_v2 _ _ _ _) ?_)
    by_cases hw2 : 48 ≤ c ∧ c ≤ 57
    · rw [if_pos hw2]
      refine TT.neg (by decide) (TT.sM ?_)
      have hK3 : TK M (mst N 85 14 0) := hK2.st _ (by decide)
      refine TT.iter (fun u : Int × Mem => TK M u.2 ∧ PS u.2 ∧ u.2.1 85 12 = b ∧ b ≤ u.2.1 85 10 ∧ (b < u.2.1 85 10 ∨ (48 ≤ seeV u.2 ∧ seeV u.2 ≤ 57)) ∧ (0 ≤ u.1 ∧ u.1 ≤ u.2.1 85 10) ∧ 0 ≤ u.2.1 85 14 ∧ u.2.1 85 14 ≤ 99 ∧ (u.1 < 2 → u.2.1 85 14 ≤ 9) ∧ (u.1 < 1 → u.2.1 85 14 ≤ 0)) (fun u => (u.2.1 85 11 - u.2.1 85 10).toNat) ?_ BIG (0, mst N 85 14 0) ⟨hK3, ⟨?_, ?_, ?_⟩, a12, ?_, Or.inr ?_, ⟨by dsimp only; omega, ?_⟩, ?_, ?_, fun _ => ?_, fun _ => ?_⟩ ?_
      · rintro rec2 ⟨n, u⟩ ⟨hKu, ⟨q1, q2, q3⟩, q12, qb, qs, ⟨qn0, qn1⟩, v0, v1, v2, v3⟩ hr2
        simp only at hKu q1 q2 q3 q12 qb qs qn0 qn1 v0 v1 v2 v3 ⊢
        have hTu := hT.keep hKu.keep
        refine TT.guard (wk85 hTu) (TT.bindE (see_v hTu ⟨q1, q2, q3⟩) (TT.bindE (in_v2 _ _ _ _) ?_))
        by_cases hd : 48 ≤ seeV u ∧ seeV u ≤ 57
        · rw [if_pos hd]
          refine TT.neg (by decide) ?_
          have hl2 := seeV_lt (M := u) (by omega)
          have e : w32 (u.1 85 10 + 1) = u.1 85 10 + 1 := w32_of (by omega) (by omega)
          have en : w32 (n + 1) = n + 1 := w32_of (by omega) (by omega)
          refine TT.join (fun t : Int => 0 ≤ t ∧ t ≤ 99 ∧ (n < 1 → t ≤ 9)) (fun t ht => TT.sM (TT.sM ?_)) (fun j hj => TT.ite (fun h2 => TT.bindE (see_v hTu ⟨q1, q2, q3⟩) (hj _ ?_)) (fun h2 => hj _ ⟨v0, v1, fun h => by omega⟩))
          · refine hr2 _ ⟨(hKu.st _ (by decide)).st _ (by decide), ⟨?_, ?_, q3⟩, q12, ?_, Or.inl ?_, ⟨?_, ?_⟩, ht.1, ht.2.1, fun h => ?_, fun h => ?_⟩ ?_
            · show 0 ≤ w32 (u.1 85 10 + 1)
              rw [e]; omega
            · show w32 (u.1 85 10 + 1) ≤ u.1 85 11
              rw [e]; omega
            · show b ≤ w32 (u.1 85 10 + 1)
              rw [e]; omega
            · show b < w32 (u.1 85 10 + 1)
              rw [e]; omega
            · show 0 ≤ w32 (n + 1)
              rw [en]; omega
            · show w32 (n + 1) ≤ w32 (u.1 85 10 + 1)
              rw [en, e]; omega
            · have h' : w32 (n + 1) < 2 := h
              rw [en] at h'
              exact ht.2.2 (by omega)
            · have h' : w32 (n + 1) < 1 := h
              rw [en] at h'; omega
            · show (u.1 85 11 - w32 (u.1 85 10 + 1)).toNat < (u.1 85 11 - u.1 85 10).toNat
              rw [e]; omega
          · have v2' := v2 h2
            rw [w32_of (x := 10 * u.1 85 14) (by omega) (by omega), w32_of (x := 10 * u.1 85 14 + seeV u) (by omega) (by omega), w32_of (x := 10 * u.1 85 14 + seeV u - 48) (by omega) (by omega)]
            exact ⟨by omega, by omega, fun h => by have := v3 h; omega⟩
        · rw [if_neg hd]
          refine TT.pos rfl ?_
          have qb2 := qs.resolve_right hd
          refine TT.join (fun _ => True) (fun t _ => TT.sM (TT.ok ⟨hKu.st _ (by decide), ⟨⟨q1, q2, q3⟩, ⟨?_, ?_⟩, fun _ => ?_, fun _ => ⟨v0, v1⟩⟩, ?_⟩)) (fun j hj => TT.ite (fun _ => hj _ trivial) (fun _ => hj _ trivial))
          · show 0 ≤ u.1 85 12
            omega
          · show u.1 85 12 ≤ u.1 85 10
            omega
          · show u.1 85 12 < u.1 85 10
            omega
          · show M.1 85 10 ≤ u.1 85 12
            omega
      · show 0 ≤ N.1 85 10
        omega
      · show N.1 85 10 ≤ N.1 85 11
        omega
      · show N.1 85 11 ≤ 600
        omega
      · show b ≤ N.1 85 10
        omega
      · show 48 ≤ seeV N ∧ seeV N ≤ 57
        rw [hc2]; exact hw2
      · show 0 ≤ N.1 85 10
        omega
      · show (0 : Int) ≤ 0
        omega
      · show (0 : Int) ≤ 99
        omega
      · show (0 : Int) ≤ 9
        omega
      · show (0 : Int) ≤ 0
        omega
      · show (N.1 85 11 - N.1 85 10).toNat < BIG
        unfold BIG; omega
    · rw [if_neg hw2]
      refine TT.pos rfl (TT.sM ?_)
      have e : w32 (N.1 85 10 + 1) = N.1 85 10 + 1 := w32_of (by omega) (by omega)
      refine TT.join (fun t : Int => t ≠ 3) (fun t ht => TT.sM (TT.ok ⟨(hK2.st _ (by decide)).st _ (by decide), ⟨⟨?_, ?_, ?_⟩, ⟨?_, ?_⟩, fun _ => ?_, fun h => absurd h ht⟩, ?_⟩)) (fun j hj => TT.ite (fun _ => hj _ (by decide)) (fun _ => hj _ (by decide)))
      · show 0 ≤ w32 (N.1 85 10 + 1)
        rw [e]; omega
      · show w32 (N.1 85 10 + 1) ≤ N.1 85 11
        rw [e]; omega
      · show N.1 85 11 ≤ 600
        omega
      · show 0 ≤ N.1 85 12
        omega
      · show N.1 85 12 ≤ w32 (N.1 85 10 + 1)
        rw [e]; omega
      · show N.1 85 12 < w32 (N.1 85 10 + 1)
        rw [e]; omega
      · show M.1 85 10 ≤ N.1 85 12
        omega
/-! numbers taken -/
def VK (M N : Mem) : Prop := N.2 = M.2 ∧ ∀ x y, x ≠ 96 → (x ≠ 85 ∨ y ≤ 9 ∨ y = 11 ∨ (19 ≤ y ∧ y ≤ 20) ∨ 24 ≤ y) → N.1 x y = M.1 x y
theorem VK.self (M : Mem) : VK M M := ⟨rfl, fun _ _ _ _ => rfl⟩
theorem VK.trans {M N O : Mem} (h : VK M N) (g : VK N O) : VK M O := ⟨g.1.trans h.1, fun x y a b => (g.2 x y a b).trans (h.2 x y a b)⟩
theorem TK.vk {M N : Mem} (h : TK M N) : VK M N := ⟨h.1, fun x y _ b => h.2 x y (by omega)⟩
theorem VK.keep {M N : Mem} (h : VK M N) : Keep M N := ⟨h.1, fun x y q => h.2 x y (by intro e; subst e; cases q) (by
  by_cases c : x ≠ 85 ∨ y ≤ 9 ∨ y = 11 ∨ (19 ≤ y ∧ y ≤ 20) ∨ 24 ≤ y
  · exact c
  · exfalso
    have e : x = 85 := by omega
    subst e
    rw [scr85 (by omega)] at q; cases q)⟩
def LF (M N : Mem) : Prop := (N.1 85 17 = 0 → M.1 85 17 = 0) ∧ (N.1 85 23 ≠ 0 → M.1 85 23 ≠ 0)
theorem LF.self (M : Mem) : LF M M := ⟨id, id⟩
theorem LF.trans {M N O : Mem} (h : LF M N) (g : LF N O) : LF M O := ⟨fun a => h.1 (g.1 a), fun a => h.2 (g.2 a)⟩
theorem later_T (hT : WT M) {f : Int} (p : Int) (hf : f ≠ 0) : TT (fX11_later M 85 f p) (fun r => (r.2 = M.2 ∧ ∀ x y, (x ≠ 85 ∨ (y ≠ 17 ∧ y ≠ 18)) → r.1 x y = M.1 x y) ∧ r.1 85 17 ≠ 0) := by
  unfold fX11_later
  refine TT.guard (wk85 hT) (TT.join (fun _ => True) (fun _ _ => TT.sM (TT.sM (TT.ok ⟨⟨rfl, fun x y h => ?_⟩, hf⟩))) (fun j hj => TT.ite (fun _ => hj () trivial) (fun c => TT.ite (fun _ => hj () trivial) (fun _ => TT.ite (fun _ => TT.ite (fun _ => hj () trivial) (fun _ => TT.ok ⟨⟨rfl, fun _ _ _ => rfl⟩, c⟩)) (fun _ => TT.ok ⟨⟨rfl, fun _ _ _ => rfl⟩, c⟩)))))
  rw [mst_r, if_neg (by rintro ⟨e1, e2⟩; omega), mst_r, if_neg (by rintro ⟨e1, e2⟩; omega)]
theorem fails_T (hT : WT M) : TT (fX11_fails M 85) (fun r => r.1 = 0 ∧ r.2.2 = M.2 ∧ ∀ x y, (x ≠ 85 ∨ y ≠ 16) → r.2.1 x y = M.1 x y) := by
  unfold fX11_fails
  exact TT.guard (wk85 hT) (TT.sM (TT.ok ⟨rfl, rfl, fun x y h => by rw [mst_r, if_neg (by rintro ⟨e1, e2⟩; omega)]⟩))
def TakeQ (M : Mem) (k lo hi : Int) (r : Int × Mem) : Prop := B01 r.1 ∧ (VK M r.2 ∧ LF M r.2) ∧ (PS r.2 ∧ M.1 85 10 ≤ r.2.1 85 10) ∧ (r.1 ≠ 0 → PT r.2 ∧ (0 ≤ r.2.1 96 k ∧ r.2.1 96 k ≤ 99) ∧ (∀ j, j ≠ k → r.2.1 96 j = M.1 96 j) ∧ ((r.2.1 85 17 = 0 ∨ r.2.1 85 23 ≠ 0) → lo ≤ r.2.1 96 k ∧ r.2.1 96 k ≤ hi))
theorem PS.of {M N : Mem} (h : PS M) (e1 : N.1 85 10 = M.1 85 10) (e2 : N.1 85 11 = M.1 85 11) : PS N := by unfold PS at *; rw [e1, e2]; exact h
set_option maxHeartbeats 1000000 in
theorem takeBut_T (hT : WT M) (hp : PT M) {k lo hi bt : Int} (k0 : 0 ≤ k) (k4 : k < 4) : TT (fX11_takeBut M 85 k lo hi bt) (TakeQ M k lo hi) := by
  unfold fX11_takeBut
  rw [wp85_20 hT]
  refine TT.guard (wk85 hT) (TT.ite (fun h3 => ?_) (fun h3 => ?_))
  · obtain ⟨v0, v1⟩ := hp.2.2.2 h3
    refine TT.guard ⟨wk96 hT, k0, by rw [wl96 hT]; exact k4⟩ (TT.sM ?_)
    have hV : VK M (mst M 96 k (M.1 85 14)) := ⟨rfl, fun x y a _ => mst_ne _ _ _ _ _ _ a⟩
    have a85 : ∀ y, (mst M 96 k (M.1 85 14)).1 85 y = M.1 85 y := fun y => mst_ne _ _ _ _ _ _ (by decide)
    have ak : (mst M 96 k (M.1 85 14)).1 96 k = M.1 85 14 := mst_at _ _ _ _
    have aj : ∀ j, j ≠ k → (mst M 96 k (M.1 85 14)).1 96 j = M.1 96 j := fun j h => mst_nf _ _ _ _ _ _ h
    generalize mst M 96 k (M.1 85 14) = N at *
    have hTN := hT.keep hV.keep
    rw [a85]
    refine TT.bindE (in_v2 _ _ _ _) ?_
    refine TT.join (fun t : Mem => VK M t ∧ LF M t ∧ PS t ∧ t.1 85 10 = M.1 85 10 ∧ t.1 96 k = M.1 85 14 ∧ (∀ j, j ≠ k → t.1 96 j = M.1 96 j) ∧ ((t.1 85 17 = 0 ∨ t.1 85 23 ≠ 0) → lo ≤ M.1 85 14 ∧ M.1 85 14 ≤ hi)) (fun t ht => ?_) (fun j hj => ?_)
    · obtain ⟨g1, g2, g3, g4, g5, g6, g7⟩ := ht
      have hTt := hT.keep g1.keep
      refine TT.guard (wk85 hTt) (TT.bind (token_T hTt g3) (fun r q => TT.ok ⟨Or.inr rfl, ⟨g1.trans q.1.vk, g2.trans ?_⟩, ⟨q.2.1.1, ?_⟩, fun _ => ⟨q.2.1, ?_, ?_, ?_⟩⟩))
      · unfold LF; rw [q.1.2 85 17 (by decide), q.1.2 85 23 (by decide)]; exact ⟨id, id⟩
      · have h1 := q.2.2
        have h2 := q.2.1.2.1.2
        show M.1 85 10 ≤ r.1 85 10
        omega
      · show 0 ≤ r.1 96 k ∧ r.1 96 k ≤ 99
        rw [q.1.2 96 k (Or.inl (by decide)), g5]; exact ⟨v0, v1⟩
      · intro j h
        show r.1 96 j = _
        rw [q.1.2 96 j (Or.inl (by decide)), g6 j h]
      · intro h
        show lo ≤ r.1 96 k ∧ r.1 96 k ≤ hi
        have h' : r.1 85 17 = 0 ∨ r.1 85 23 ≠ 0 := h
        rw [q.1.2 85 17 (by decide), q.1.2 85 23 (by decide)] at h'
        rw [q.1.2 96 k (Or.inl (by decide)), g5]; exact g7 h'
    · refine TT.join (fun _ => True) (fun _ _ => ?_) (fun j2 hj2 => ?_)
      · refine TT.bind (later_T hTN _ (by decide)) (fun r q => ?_)
        have hV2 : VK M r := hV.trans ⟨q.1.1, fun x y _ b => q.1.2 x y (by omega)⟩
        have hTr := hT.keep hV2.keep
        refine TT.guard (wk85 hTr) (TT.sM (hj _ ⟨⟨hV2.1, fun x y a b => ?_⟩, ⟨fun h => absurd h q.2, fun h => absurd rfl h⟩, ?_, ?_, ?_, ?_, fun h => ?_⟩))
        · rw [mst_r, if_neg (by rintro ⟨e1, e2⟩; omega)]; exact hV2.2 x y a b
        · exact hp.1.of ((q.1.2 85 10 (by decide)).trans (a85 10)) ((q.1.2 85 11 (by decide)).trans (a85 11))
        · exact (q.1.2 85 10 (by decide)).trans (a85 10)
        · exact (q.1.2 96 k (Or.inl (by decide))).trans ak
        · exact fun j h => (q.1.2 96 j (Or.inl (by decide))).trans (aj j h)
        · exact (h.elim (fun e => q.2 e) (fun e => e rfl)).elim
      · by_cases hc : lo ≤ M.1 85 14 ∧ M.1 85 14 ≤ hi
        · rw [if_pos hc]
          refine TT.neg (by decide) (TT.ite (fun _ => hj2 () trivial) (fun _ => hj _ ⟨hV, ?_, hp.1.of (a85 10) (a85 11), a85 10, ak, aj, fun _ => hc⟩))
          unfold LF; rw [a85, a85]; exact ⟨id, id⟩
        · rw [if_neg hc]
          exact TT.pos rfl (hj2 () trivial)
  · refine TT.bind (fails_T hT) (fun r q => TT.guard (Or.inl q.1) (TT.ok ⟨Or.inl q.1, ⟨⟨q.2.1, fun x y _ b => q.2.2 x y (by omega)⟩, ?_⟩, ⟨hp.1.of (q.2.2 85 10 (by decide)) (q.2.2 85 11 (by decide)), ?_⟩, fun h => absurd q.1 h⟩))
    · unfold LF; rw [q.2.2 85 17 (by decide), q.2.2 85 23 (by decide)]; exact ⟨id, id⟩
    · show M.1 85 10 ≤ r.2.1 85 10
      rw [q.2.2 85 10 (by decide)]; exact Int.le_refl _
theorem take_T (hT : WT M) (hp : PT M) {k lo hi : Int} (k0 : 0 ≤ k) (k4 : k < 4) : TT (fX11_take M 85 k lo hi) (TakeQ M k lo hi) := by
  unfold fX11_take
  exact TT.guard (wk85 hT) (TT.bind (takeBut_T hT hp k0 k4) (fun r q => TT.guard q.1 (TT.ok q)))
theorem takeHouse_T (hT : WT M) (hp : PT M) {k : Int} (k0 : 0 ≤ k) (k4 : k < 4) : TT (fX11_takeHouse M 85 k) (TakeQ M k 0 5) := by
  unfold fX11_takeHouse
  refine TT.guard (wk85 hT) (TT.bind (take_T hT hp k0 k4) (fun r q => TT.ite (fun h0 => TT.ok ⟨Or.inl rfl, q.2.1, q.2.2.1, fun h => absurd rfl h⟩) (fun h0 => ?_)))
  have hTr := hT.keep q.2.1.1.keep
  obtain ⟨g1, g2, g3, g4⟩ := q.2.2.2 h0
  rw [wp85_20 hTr]
  refine TT.guard (wk85 hTr) (TT.guard ⟨wk96 hTr, k0, by rw [wl96 hTr]; exact k4⟩ ?_)
  refine TT.bind (P := fun _ => True) ?_ (fun v _ => TT.sM (TT.ok ⟨Or.inr rfl, ⟨⟨q.2.1.1.1, fun x y a b => ?_⟩, q.2.1.2⟩, q.2.2.1, fun _ => ⟨g1, g2, g3, g4⟩⟩))
  · unfold fX11_greater
    exact TT.ite (fun _ => TT.ok trivial) (fun _ => TT.ok trivial)
  · show (mst r.2 85 21 v).1 x y = _
    rw [mst_r, if_neg (by rintro ⟨e1, e2⟩; omega)]; exact q.2.1.1.2 x y a b
/-! lines -/
def LK (M N : Mem) : Prop := Keep M N ∧ N.1 85 11 = M.1 85 11
theorem LK.self (M : Mem) : LK M M := ⟨Keep.self, rfl⟩
theorem LK.trans {M N O : Mem} (h : LK M N) (g : LK N O) : LK M O := ⟨h.1.trans g.1, g.2.trans h.2⟩
theorem VK.lk {M N : Mem} (h : VK M N) : LK M N := ⟨h.keep, h.2 85 11 (by decide) (by decide)⟩
def Stab (D : Mem → Prop) : Prop := ∀ M N, VK M N → LF M N → D M → D N
def LQ (D : Mem → Prop) (M : Mem) (r : Int × Mem) : Prop := B01 r.1 ∧ LK M r.2 ∧ D r.2 ∧ (PS r.2 ∧ M.1 85 10 ≤ r.2.1 85 10) ∧ (r.1 ≠ 0 → PT r.2)
def TakeR (M : Mem) (k lo hi : Int) (N : Mem) : Prop := (0 ≤ N.1 96 k ∧ N.1 96 k ≤ 99) ∧ (∀ j, j ≠ k → N.1 96 j = M.1 96 j) ∧ ((N.1 85 17 = 0 ∨ N.1 85 23 ≠ 0) → lo ≤ N.1 96 k ∧ N.1 96 k ≤ hi) ∧ LF M N ∧ ∀ y, N.1 95 y = M.1 95 y
theorem TT.tk {D : Mem → Prop} {M0 M : Mem} {k lo hi : Int} {X : Option (Int × Mem)} {g : Int × Mem → Option (Int × Mem)} (hX : TT X (TakeQ M k lo hi)) (hT : WT M) (hd : D M) (hD : Stab D) (hL : LK M0 M) (hm : M0.1 85 10 ≤ M.1 85 10)
    (rest : ∀ r : Int × Mem, WT r.2 → PT r.2 → D r.2 → LK M0 r.2 → M0.1 85 10 ≤ r.2.1 85 10 → TakeR M k lo hi r.2 → TT (g r) (LQ D M0)) : TT (X.bind fun r => if r.1 = 0 then some (0, r.2) else g r) (LQ D M0) := by
  refine TT.bind hX (fun r q => ?_)
  have hL2 : LK M0 r.2 := hL.trans q.2.1.1.lk
  have hm2 : M0.1 85 10 ≤ r.2.1 85 10 := Int.le_trans hm q.2.2.1.2
  have hd2 := hD _ _ q.2.1.1 q.2.1.2 hd
  refine TT.ite (fun h0 => TT.ok ⟨Or.inl rfl, hL2, hd2, ⟨q.2.2.1.1, hm2⟩, fun h => absurd rfl h⟩) (fun h0 => ?_)
  obtain ⟨g1, g2, g3, g4⟩ := q.2.2.2 h0
  exact rest r (hT.keep q.2.1.1.keep) g1 hd2 hL2 hm2 ⟨g2, g3, g4, q.2.1.2, fun y => q.2.1.1.2 95 y (by decide) (Or.inl (by decide))⟩
theorem PT.of {M N : Mem} (h : PT M) (e : ∀ y, N.1 85 y = M.1 85 y) : PT N := by unfold PT PS at *; rw [e, e, e, e, e]; exact h
theorem lay_T {D : Mem → Prop} (hT : WT M) (hd : D M) {i v : Int} (h : M.1 85 23 ≠ 0 → (0 ≤ i ∧ i < 161) ∧ D (mst M 95 i v)) : TT (fX11_lay M 85 i v) (fun r => LK M r ∧ D r ∧ ∀ y, r.1 85 y = M.1 85 y) := by
  unfold fX11_lay
  rw [wp85_19 hT]
  refine TT.guard (wk85 hT) (TT.ite (fun _ => TT.ok ⟨LK.self M, hd, fun _ => rfl⟩) (fun c => ?_))
  obtain ⟨h1, h2⟩ := h c
  exact TT.guard ⟨wk95 hT, h1.1, by rw [wl95 hT]; exact h1.2⟩ (TT.sM (TT.ok ⟨⟨Keep.self.st rfl, mst_ne _ _ _ _ _ _ (by decide)⟩, h2, fun y => mst_ne _ _ _ _ _ _ (by decide)⟩))
theorem LQ.lay {D : Mem → Prop} {M0 M : Mem} {X : Option Mem} (hX : TT X (fun r => LK M r ∧ D r ∧ ∀ y, r.1 85 y = M.1 85 y)) (hp : PT M) (hL : LK M0 M) (hm : M0.1 85 10 ≤ M.1 85 10) : TT (X.bind fun r => some (1, r)) (LQ D M0) :=
  TT.bind hX (fun r q => TT.ok ⟨Or.inr rfl, hL.trans q.1, q.2.1, ⟨hp.1.of (q.2.2 10) (q.2.2 11), by show M0.1 85 10 ≤ r.1 85 10; rw [q.2.2]; exact hm⟩, fun _ => hp.of q.2.2⟩)
theorem full_T {c m p : Int} (hT : WT M) (hp : PT M) (c0 : 0 ≤ c) (c1 : c < 161) : TT (fX11_full M 85 c m p) (fun r => VK M r ∧ LF M r ∧ PT r ∧ r.1 85 10 = M.1 85 10) := by
  unfold fX11_full
  rw [wp85_19 hT]
  refine TT.guard (wk85 hT) (TT.guard ⟨wk95 hT, c0, by rw [wl95 hT]; exact c1⟩ (TT.ite (fun _ => TT.bind (later_T hT _ (by decide)) (fun r q => TT.ok ⟨⟨q.1.1, fun x y _ b => q.1.2 x y (by omega)⟩, ⟨fun h => absurd h q.2, fun h => ?_⟩, ?_, q.1.2 85 10 (by decide)⟩)) (fun _ => TT.ok ⟨VK.self M, LF.self M, hp, rfl⟩)))
  · rw [q.1.2 85 23 (by decide)] at h; exact h
  · unfold PT PS at *
    rw [q.1.2 85 10 (by decide), q.1.2 85 11 (by decide), q.1.2 85 12 (by decide), q.1.2 85 13 (by decide), q.1.2 85 14 (by decide)]; exact hp
theorem keep_T {c f w m : Int} (hT : WT M) (c0 : 0 ≤ c) (c1 : c < 161) (w0 : 1 ≤ w) (w4 : w ≤ 4) (hF : M.1 95 c ≠ m → 0 ≤ M.1 95 c ∧ M.1 95 c ≤ 1000 ∧ c < f + w * M.1 95 c ∧ 0 ≤ w * M.1 95 c ∧ 0 ≤ f ∧ f + w * M.1 95 c + w ≤ 161) :
    TT (fX11_keep M 85 c f w m) (fun r => (M.1 95 c = m ∧ r = M) ∨ (M.1 95 c ≠ m ∧ (r.2 = M.2 ∧ ∀ x y, x ≠ 95 → r.1 x y = M.1 x y) ∧ r.1 95 c = M.1 95 c + 1 ∧ ∀ y, y ≠ c → r.1 95 y = if f + w * M.1 95 c ≤ y ∧ y < f + w * M.1 95 c + w then M.1 96 (y - (f + w * M.1 95 c)) else M.1 95 y)) := by
  unfold fX11_keep
  rw [wp85_19 hT]
  refine TT.guard (wk85 hT) (TT.guard ⟨wk95 hT, c0, by rw [wl95 hT]; exact c1⟩ (TT.ite (fun e => TT.ok (Or.inl ⟨e, rfl⟩)) (fun e => ?_)))
  obtain ⟨k0, k1, f0, f1, f2, f3⟩ := hF e
  generalize hW : w * M.1 95 c = W at *
  rw [w32_of (x := W) (by omega) (by omega), w32_of (x := f + W) (by omega) (by omega)]
  refine TT.iter (fun s : Int × Mem => (0 ≤ s.1 ∧ s.1 ≤ w) ∧ (s.2.2 = M.2 ∧ ∀ x y, x ≠ 95 → s.2.1 x y = M.1 x y) ∧ ∀ y, s.2.1 95 y = if f + W ≤ y ∧ y < f + W + s.1 then M.1 96 (y - (f + W)) else M.1 95 y) (fun s => (w - s.1).toNat) ?_ BIG (0, M) ⟨⟨Int.le_refl _, by dsimp only; omega⟩, ⟨rfl, fun _ _ _ => rfl⟩, fun y => by rw [if_neg (by dsimp only; omega)]⟩ (by unfold BIG; dsimp only; omega)
  rintro rec ⟨i, N⟩ ⟨⟨i0, i1⟩, ⟨hN, hfr⟩, hc⟩ hr
  simp only at i0 i1 hN hfr hc ⊢
  have kN : N.2.1 = M.2.1 := by rw [hN]
  have lN : N.2.2.1 = M.2.2.1 := by rw [hN]
  have p19 : N.1 85 19 = 95 := by rw [hfr 85 19 (by decide)]; exact wp85_19 hT
  have p20 : N.1 85 20 = 96 := by rw [hfr 85 20 (by decide)]; exact wp85_20 hT
  rw [p19, p20]
  refine TT.ite (fun c2 => ?_) (fun c2 => ?_)
  · rw [w32_of (x := f + W + i) (by omega) (by omega)]
    refine TT.guard (by rw [kN]; exact wk85 hT) (TT.guard ⟨by rw [kN]; exact wk96 hT, i0, by rw [lN, wl96 hT]; omega⟩ (TT.guard ⟨by rw [kN]; exact wk95 hT, by omega, by rw [lN, wl95 hT]; omega⟩ (TT.sM (hr _ ⟨⟨?_, ?_⟩, ⟨hN, fun x y hx => ?_⟩, fun y => ?_⟩ ?_))))
    · show 0 ≤ w32 (i + 1)
      rw [w32_of (by omega) (by omega)]; omega
    · show w32 (i + 1) ≤ w
      rw [w32_of (by omega) (by omega)]; omega
    · show (mst _ 95 _ _).1 x y = _
      rw [mst_ne _ _ _ _ _ _ hx, hfr x y hx]
    · show (mst _ 95 _ _).1 95 y = if f + W ≤ y ∧ y < f + W + w32 (i + 1) then _ else _
      rw [mst_r, w32_of (x := i + 1) (by omega) (by omega)]
      by_cases hy : y = f + W + i
      · subst hy
        rw [if_pos ⟨rfl, rfl⟩, if_pos (by omega), hfr 96 _ (by decide), show f + W + i - (f + W) = i by omega]
      · rw [if_neg (fun q => hy q.2), hc y]
        by_cases hq : f + W ≤ y ∧ y < f + W + i
        · rw [if_pos hq, if_pos (by omega)]
        · rw [if_neg hq, if_neg (by omega)]
    · show (w - w32 (i + 1)).toNat < (w - i).toNat
      rw [w32_of (by omega) (by omega)]; omega
  · have e95 : N.1 95 c = M.1 95 c := by rw [hc c, if_neg (by omega)]
    have g : N.2.1 95 = 12 ∧ 0 ≤ c ∧ c < N.2.2.1 95 := ⟨by rw [kN]; exact wk95 hT, c0, by rw [lN, wl95 hT]; exact c1⟩
    refine TT.guard (by rw [kN]; exact wk85 hT) (TT.guard g (TT.guard g (TT.sM (TT.ok (Or.inr ⟨e, ⟨hN, fun x y hx => ?_⟩, ?_, fun y hy => ?_⟩)))))
    · rw [mst_ne _ _ _ _ _ _ hx, hfr x y hx]
    · rw [mst_at, e95, w32_of (by omega) (by omega)]
    · rw [mst_nf _ _ _ _ _ _ hy, hc y, show i = w by omega]
/-! what is read so far: a town, a law, nights, a sight -/
def dlo (i : Int) : Int := if 88 ≤ i then -1 else 0
def dhi (i : Int) : Int := if 88 ≤ i then 3 else if 68 ≤ i ∧ i ≤ 73 then 5 else 9
def DT (M : Mem) : Prop := (0 ≤ M.1 95 1 ∧ M.1 95 1 ≤ 4) ∧ (∀ i, 2 ≤ i → i ≤ 91 → ¬(84 ≤ i ∧ i ≤ 87) → dlo i ≤ M.1 95 i ∧ M.1 95 i ≤ dhi i) ∧ (M.1 85 17 = 0 → (1 ≤ M.1 95 0 ∧ M.1 95 0 ≤ 6) ∧ ∀ i, 84 ≤ i → i ≤ 87 → 0 ≤ M.1 95 i ∧ M.1 95 i ≤ 9)
def DL (M : Mem) : Prop := M.1 85 17 = 0 → 2 ≤ M.1 95 0 ∧ M.1 95 0 ≤ 5
def DN (M : Mem) : Prop := (0 ≤ M.1 95 0 ∧ M.1 95 0 ≤ 40) ∧ (M.1 85 17 = 0 → ∀ j, 0 ≤ j → j < 40 → (M.1 95 (1 + 4 * j) = 0 ∨ M.1 95 (1 + 4 * j) = 1) → 0 ≤ M.1 95 (4 + 4 * j) ∧ M.1 95 (4 + 4 * j) ≤ 4)
def DS (M : Mem) : Prop := (0 ≤ M.1 95 0 ∧ M.1 95 0 ≤ 8) ∧ (M.1 85 17 = 0 → ∀ j, 0 ≤ j → j < 8 → (0 ≤ M.1 95 (1 + 2 * j) ∧ M.1 95 (1 + 2 * j) ≤ 5) ∧ 0 ≤ M.1 95 (2 + 2 * j) ∧ M.1 95 (2 + 2 * j) ≤ 4)
theorem vk95 {M N : Mem} (h : VK M N) (y : Int) : N.1 95 y = M.1 95 y := h.2 95 y (by decide) (Or.inl (by decide))
theorem DT.stab : Stab DT := fun M N h f d => ⟨by rw [vk95 h]; exact d.1, fun i a b c => by rw [vk95 h]; exact d.2.1 i a b c, fun e => ⟨by rw [vk95 h]; exact (d.2.2 (f.1 e)).1, fun i a b => by rw [vk95 h]; exact (d.2.2 (f.1 e)).2 i a b⟩⟩
theorem DL.stab : Stab DL := fun M N h f d e => by rw [vk95 h]; exact d (f.1 e)
theorem DN.stab : Stab DN := fun M N h f d => ⟨by rw [vk95 h]; exact d.1, fun e j a b => by rw [vk95 h, vk95 h]; exact d.2 (f.1 e) j a b⟩
theorem DS.stab : Stab DS := fun M N h f d => ⟨by rw [vk95 h]; exact d.1, fun e j a b => by rw [vk95 h, vk95 h]; exact d.2 (f.1 e) j a b⟩
theorem DT.st {M : Mem} (d : DT M) {i v : Int} (i0 : 2 ≤ i) (i1 : i ≤ 91) (i2 : ¬(84 ≤ i ∧ i ≤ 87)) (v0 : dlo i ≤ v) (v1 : v ≤ dhi i) : DT (mst M 95 i v) := by
  refine ⟨?_, fun j a b c => ?_, fun e => ⟨?_, fun j a b => ?_⟩⟩
  · rw [mst_nf _ _ _ _ _ _ (by omega)]; exact d.1
  · rw [mst_r]
    by_cases q : j = i
    · rw [if_pos ⟨rfl, q⟩, q]; exact ⟨v0, v1⟩
    · rw [if_neg (fun z => q z.2)]; exact d.2.1 j a b c
  · rw [mst_nf _ _ _ _ _ _ (by omega)]; exact (d.2.2 e).1
  · rw [mst_nf _ _ _ _ _ _ (by omega)]; exact (d.2.2 e).2 j a b
section Lines
theorem rd_g (hT : WT M) {k : Int} (k0 : 0 ≤ k) (k4 : k < 4) : M.2.1 96 = 12 ∧ 0 ≤ k ∧ k < M.2.2.1 96 := ⟨wk96 hT, k0, by rw [wl96 hT]; exact k4⟩
theorem goodsLine_T (hT : WT M) (hp : PT M) (hd : DT M) {row : Int} (h : row = 2 ∨ row = 32) : TT (fX11_goodsLine M 85 row) (LQ DT M) := by
  unfold fX11_goodsLine
  refine TT.guard (wk85 hT) (TT.tk (takeHouse_T hT hp (by decide) (by decide)) hT hd DT.stab (LK.self M) (Int.le_refl _) (fun r1 hT1 hp1 hd1 hL1 hm1 q1 => ?_))
  refine TT.guard (wk85 hT1) (TT.tk (take_T hT1 hp1 (by decide) (by decide)) hT1 hd1 DT.stab hL1 hm1 (fun r5 hT5 hp5 hd5 hL5 hm5 q5 => ?_))
  refine TT.guard (wk85 hT5) (TT.tk (take_T hT5 hp5 (by decide) (by decide)) hT5 hd5 DT.stab hL5 hm5 (fun r9 hT9 hp9 hd9 hL9 hm9 q9 => ?_))
  rw [wp85_20 hT9]
  refine TT.guard (wk85 hT9) (TT.guard (rd_g hT9 (by decide) (by decide)) (TT.guard (rd_g hT9 (by decide) (by decide)) (TT.guard (rd_g hT9 (by decide) (by decide)) (LQ.lay (lay_T hT9 hd9 (fun hg => ?_)) hp9 hL9 hm9))))
  have g9 := q9.2.2.1 (Or.inr hg)
  have hg5 := q9.2.2.2.1.2 hg
  have g5 := q5.2.2.1 (Or.inr hg5)
  have g1 := q1.2.2.1 (Or.inr (q5.2.2.2.1.2 hg5))
  have e1 : r9.2.1 96 1 = r5.2.1 96 1 := q9.2.1 1 (by decide)
  have e0 : r9.2.1 96 0 = r1.2.1 96 0 := (q9.2.1 0 (by decide)).trans (q5.2.1 0 (by decide))
  rw [← e1] at g5
  rw [← e0] at g1
  have hr : 2 ≤ row ∧ row ≤ 32 := by omega
  rw [w32_of (x := 5 * r9.2.1 96 0) (by omega) (by omega), w32_of (x := row + 5 * r9.2.1 96 0) (by omega) (by omega), w32_of (x := row + 5 * r9.2.1 96 0 + r9.2.1 96 1) (by omega) (by omega)]
  refine ⟨by omega, hd9.st (by omega) (by omega) (by omega) ?_ ?_⟩
  · unfold dlo; rw [if_neg (by omega)]; omega
  · unfold dhi; rw [if_neg (by omega), if_neg (by omega)]; omega
theorem sonLine_T (hT : WT M) (hp : PT M) (hd : DT M) : TT (fX11_sonLine M 85) (LQ DT M) := by
  unfold fX11_sonLine
  refine TT.guard (wk85 hT) (TT.tk (take_T hT hp (by decide) (by decide)) hT hd DT.stab (LK.self M) (Int.le_refl _) (fun r1 hT1 hp1 hd1 hL1 hm1 q1 => ?_))
  rw [wp85_20 hT1]
  refine TT.guard (wk85 hT1) (TT.guard (rd_g hT1 (by decide) (by decide)) (TT.tk (takeBut_T hT1 hp1 (by decide) (by decide)) hT1 hd1 DT.stab hL1 hm1 (fun r7 hT7 hp7 hd7 hL7 hm7 q7 => ?_)))
  rw [wp85_20 hT7]
  refine TT.guard (wk85 hT7) (TT.guard (rd_g hT7 (by decide) (by decide)) (TT.guard (rd_g hT7 (by decide) (by decide)) ?_))
  have gr : ∀ (N : Mem) (a b : Int), TT (fX11_greater N a b) (fun _ => True) := fun N a b => by
    unfold fX11_greater
    exact TT.ite (fun _ => TT.ok trivial) (fun _ => TT.ok trivial)
  refine TT.bind (gr _ _ _) (fun r13 _ => TT.bind (gr _ _ _) (fun r15 _ => TT.sM ?_))
  have hV : VK r7.2 (mst r7.2 85 22 r15) := ⟨rfl, fun x y a b => by rw [mst_r, if_neg (by rintro ⟨e1, e2⟩; omega)]⟩
  have hF : LF r7.2 (mst r7.2 85 22 r15) := ⟨id, id⟩
  have hp8 : PT (mst r7.2 85 22 r15) := hp7
  have hm8 : M.1 85 10 ≤ (mst r7.2 85 22 r15).1 85 10 := hm7
  have e96 : ∀ y, (mst r7.2 85 22 r15).1 96 y = r7.2.1 96 y := fun y => mst_ne _ _ _ _ _ _ (by decide)
  have hd8 := DT.stab _ _ hV hF hd7
  generalize mst r7.2 85 22 r15 = N at *
  have hT8 := hT7.keep hV.keep
  rw [wp85_20 hT8, e96, e96]
  refine TT.guard (rd_g hT8 (by decide) (by decide)) (TT.guard (rd_g hT8 (by decide) (by decide)) (LQ.lay (lay_T hT8 hd8 (fun hg => ?_)) hp8 (hL7.trans hV.lk) hm8))
  have hg7 := hF.2 hg
  have g7 := q7.2.2.1 (Or.inr hg7)
  have g1 := q1.2.2.1 (Or.inr (q7.2.2.2.1.2 hg7))
  rw [← q7.2.1 0 (by decide)] at g1
  rw [w32_of (x := 88 + r7.2.1 96 0) (by omega) (by omega)]
  refine ⟨by omega, hd8.st (by omega) (by omega) (by omega) ?_ ?_⟩
  · unfold dlo; rw [if_pos (by omega)]; omega
  · unfold dhi; rw [if_pos (by omega)]; omega
theorem houseLine_T (hT : WT M) (hp : PT M) (hd : DT M) (w : Int) : TT (fX11_houseLine M 85 w) (LQ DT M) := by
  unfold fX11_houseLine
  refine TT.guard (wk85 hT) (TT.tk (takeHouse_T hT hp (by decide) (by decide)) hT hd DT.stab (LK.self M) (Int.le_refl _) (fun r1 hT1 hp1 hd1 hL1 hm1 q1 => ?_))
  refine TT.ite (fun _ => ?_) (fun _ => ?_)
  · refine TT.guard (wk85 hT1) (TT.tk (take_T hT1 hp1 (by decide) (by decide)) hT1 hd1 DT.stab hL1 hm1 (fun r5 hT5 hp5 hd5 hL5 hm5 q5 => ?_))
    rw [wp85_20 hT5]
    refine TT.guard (wk85 hT5) (TT.guard (rd_g hT5 (by decide) (by decide)) (TT.guard (rd_g hT5 (by decide) (by decide)) (LQ.lay (lay_T hT5 hd5 (fun hg => ?_)) hp5 hL5 hm5)))
    have g5 := q5.2.2.1 (Or.inr hg)
    have g1 := q1.2.2.1 (Or.inr (q5.2.2.2.1.2 hg))
    rw [← q5.2.1 0 (by decide)] at g1
    rw [w32_of (x := 62 + r5.2.1 96 0) (by omega) (by omega)]
    refine ⟨by omega, hd5.st (by omega) (by omega) (by omega) ?_ ?_⟩
    · unfold dlo; rw [if_neg (by omega)]; omega
    · unfold dhi; rw [if_neg (by omega), if_neg (by omega)]; omega
  · refine TT.guard (wk85 hT1) (TT.tk (takeHouse_T hT1 hp1 (by decide) (by decide)) hT1 hd1 DT.stab hL1 hm1 (fun r5 hT5 hp5 hd5 hL5 hm5 q5 => ?_))
    rw [wp85_20 hT5]
    refine TT.guard (wk85 hT5) (TT.guard (rd_g hT5 (by decide) (by decide)) (TT.guard (rd_g hT5 (by decide) (by decide)) (LQ.lay (lay_T hT5 hd5 (fun hg => ?_)) hp5 hL5 hm5)))
    have g5 := q5.2.2.1 (Or.inr hg)
    have g1 := q1.2.2.1 (Or.inr (q5.2.2.2.1.2 hg))
    rw [← q5.2.1 0 (by decide)] at g1
    rw [w32_of (x := 68 + r5.2.1 96 0) (by omega) (by omega)]
    refine ⟨by omega, hd5.st (by omega) (by omega) (by omega) ?_ ?_⟩
    · unfold dlo; rw [if_neg (by omega)]; omega
    · unfold dhi; rw [if_neg (by omega), if_pos (by omega)]; omega
theorem goodLine_T (hT : WT M) (hp : PT M) (hd : DT M) (w : Int) : TT (fX11_goodLine M 85 w) (LQ DT M) := by
  unfold fX11_goodLine
  refine TT.guard (wk85 hT) (TT.tk (take_T hT hp (by decide) (by decide)) hT hd DT.stab (LK.self M) (Int.le_refl _) (fun r1 hT1 hp1 hd1 hL1 hm1 q1 => ?_))
  refine TT.join (fun t : Int => 0 ≤ t) (fun t ht => ?_) (fun j hj => TT.ite (fun _ => hj _ (by decide)) (fun _ => hj _ (by decide)))
  refine TT.guard (wk85 hT1) (TT.tk (take_T hT1 hp1 (by decide) (by decide)) hT1 hd1 DT.stab hL1 hm1 (fun r5 hT5 hp5 hd5 hL5 hm5 q5 => ?_))
  refine TT.join (fun t : Int => t = 74 ∨ t = 79) (fun z hz => ?_) (fun j hj => TT.ite (fun _ => hj _ (by decide)) (fun _ => hj _ (by decide)))
  rw [wp85_20 hT5]
  refine TT.guard (wk85 hT5) (TT.guard (rd_g hT5 (by decide) (by decide)) (TT.guard (rd_g hT5 (by decide) (by decide)) (LQ.lay (lay_T hT5 hd5 (fun hg => ?_)) hp5 hL5 hm5)))
  have g5 := q5.2.2.1 (Or.inr hg)
  have g1 := q1.2.2.1 (Or.inr (q5.2.2.2.1.2 hg))
  rw [← q5.2.1 0 (by decide)] at g1
  rw [w32_of (x := z + r5.2.1 96 0) (by omega) (by omega)]
  refine ⟨by omega, hd5.st (by omega) (by omega) (by omega) ?_ ?_⟩
  · unfold dlo; rw [if_neg (by omega)]; omega
  · unfold dhi; rw [if_neg (by omega), if_neg (by omega)]; omega
theorem LQ.mono {D : Mem → Prop} {M0 M : Mem} {r : Int × Mem} (h : LQ D M r) (hL : LK M0 M) (hm : M0.1 85 10 ≤ M.1 85 10) : LQ D M0 r := ⟨h.1, hL.trans h.2.1, h.2.2.1, ⟨h.2.2.2.1.1, Int.le_trans hm h.2.2.2.1.2⟩, h.2.2.2.2⟩
theorem TT.lq {D : Mem → Prop} {M0 M : Mem} {X : Option (Int × Mem)} (hX : TT X (LQ D M)) (hL : LK M0 M) (hm : M0.1 85 10 ≤ M.1 85 10) : TT (X.bind fun r => if r.1 = 0 ∨ r.1 = 1 then some (r.1, r.2) else none) (LQ D M0) :=
  TT.bind hX (fun r q => TT.guard q.1 (TT.ok (q.mono hL hm)))
theorem LQ.fails {D : Mem → Prop} {M0 : Mem} (hT : WT M) (hd : D M) (hD : Stab D) (hp : PS M) (hL : LK M0 M) (hm : M0.1 85 10 ≤ M.1 85 10) : TT ((fX11_fails M 85).bind fun r => if r.1 = 0 ∨ r.1 = 1 then some (r.1, r.2) else none) (LQ D M0) := by
  refine TT.bind (fails_T hT) (fun r q => TT.guard (Or.inl q.1) (TT.ok ?_))
  have hV : VK M r.2 := ⟨q.2.1, fun x y _ b => q.2.2 x y (by omega)⟩
  refine ⟨Or.inl q.1, hL.trans hV.lk, hD _ _ hV ?_ hd, ⟨hp.of (q.2.2 85 10 (by decide)) (q.2.2 85 11 (by decide)), ?_⟩, fun h => absurd q.1 h⟩
  · unfold LF; rw [q.2.2 85 17 (by decide), q.2.2 85 23 (by decide)]; exact ⟨id, id⟩
  · show M0.1 85 10 ≤ r.2.1 85 10
    rw [q.2.2 85 10 (by decide)]; exact hm
theorem TokQ.lf {M r : Mem} (q : TokQ M r) : LF M r := by unfold LF; rw [q.1.2 85 17 (by decide), q.1.2 85 23 (by decide)]; exact ⟨id, id⟩
theorem TokQ.m {M r : Mem} (q : TokQ M r) : M.1 85 10 ≤ r.1 85 10 := Int.le_trans q.2.2 q.2.1.2.1.2
set_option maxHeartbeats 1000000 in
theorem townLine_T (hT : WT M) (hp : PT M) (hd : DT M) (w a : Int) : TT (fX11_townLine M 85 w a) (LQ DT M) := by
  unfold fX11_townLine
  refine TT.join (fun _ => True) (fun _ _ => ?_) (fun j hj => TT.ite (fun _ => hj () trivial) (fun _ => TT.ite (fun _ => hj () trivial) (fun _ => TT.ite (fun _ => hj () trivial) (fun _ => TT.ite (fun _ => hj () trivial) (fun _ => TT.ite (fun _ => hj () trivial) (fun _ => TT.ite (fun _ => hj () trivial) (fun _ => TT.ite (fun _ => hj () trivial) (fun _ => TT.ite (fun _ => hj () trivial) (fun _ => TT.ite (fun _ => hj () trivial) (fun _ => TT.guard (wk85 hT) (LQ.fails hT hd DT.stab hp.1 (LK.self M) (Int.le_refl _))))))))))))
  refine TT.join (fun t : Mem => VK M t ∧ LF M t ∧ PT t ∧ t.1 85 10 = M.1 85 10) (fun t ht => ?_) (fun j hj => TT.ite (fun _ => TT.guard (wk85 hT) (TT.bind (full_T hT hp (by decide) (by decide)) (fun r q => hj r q))) (fun _ => hj _ ⟨VK.self M, LF.self M, hp, rfl⟩))
  obtain ⟨t1, t2, t3, t4⟩ := ht
  have hTt := hT.keep t1.keep
  refine TT.guard (wk85 hTt) (TT.bind (token_T hTt t3.1) (fun r q => ?_))
  have hV : VK M r := t1.trans q.1.vk
  have hdr := DT.stab _ _ hV (t2.trans q.lf) hd
  have hTr := hT.keep hV.keep
  have hpr := q.2.1
  have hL := hV.lk
  have hm : M.1 85 10 ≤ r.1 85 10 := by have := q.m; omega
  refine TT.join (fun _ => True) (fun _ _ => TT.join (fun z : Int => z = 2 ∨ z = 32) (fun z hz => TT.guard (wk85 hTr) (TT.lq (goodsLine_T hTr hpr hdr hz) hL hm)) (fun j hj => TT.ite (fun _ => hj _ (by decide)) (fun _ => hj _ (by decide)))) (fun j hj => TT.ite (fun _ => hj () trivial) (fun _ => TT.ite (fun _ => hj () trivial) (fun _ => ?_)))
  refine TT.join (fun _ => True) (fun _ _ => TT.guard (wk85 hTr) (TT.lq (houseLine_T hTr hpr hdr w) hL hm)) (fun j hj => TT.ite (fun _ => hj () trivial) (fun _ => TT.ite (fun _ => hj () trivial) (fun _ => ?_)))
  refine TT.join (fun _ => True) (fun _ _ => TT.guard (wk85 hTr) (TT.lq (goodLine_T hTr hpr hdr w) hL hm)) (fun j hj => TT.ite (fun _ => hj () trivial) (fun _ => TT.ite (fun _ => hj () trivial) (fun _ => TT.ite (fun _ => TT.guard (wk85 hTr) (TT.lq (sonLine_T hTr hpr hdr) hL hm)) (fun _ => ?_))))
  refine TT.join (fun z : Int => (lcmp w 114827921155443 = 0 → z = 6) ∧ z ≤ 9) (fun z hz => ?_) (fun j hj => TT.ite (fun e => hj _ ⟨fun _ => rfl, by decide⟩) (fun e => hj _ ⟨fun h => absurd h e, by decide⟩))
  refine TT.guard (wk85 hTr) (TT.tk (take_T hTr hpr (by decide) (by decide)) hTr hdr DT.stab hL hm (fun r5 hT5 hp5 hd5 hL5 hm5 q5 => ?_))
  refine TT.ite (fun c => ?_) (fun c => ?_)
  · rw [wp85_20 hT5, wp85_19 hT5]
    refine TT.guard (wk85 hT5) (TT.guard (rd_g hT5 (by decide) (by decide)) (TT.guard ⟨wk95 hT5, by decide, by rw [wl95 hT5]; decide⟩ (TT.sM (TT.ok ⟨Or.inr rfl, hL5.trans ⟨Keep.self.st rfl, rfl⟩, ⟨hd5.1, ?_, fun e => ⟨?_, ?_⟩⟩, ⟨hp5.1, hm5⟩, fun _ => hp5⟩))))
    · intro i a b d
      show dlo i ≤ (mst _ 95 0 _).1 95 i ∧ (mst _ 95 0 _).1 95 i ≤ dhi i
      rw [mst_nf _ _ _ _ _ _ (by omega)]; exact hd5.2.1 i a b d
    · show 1 ≤ (mst _ 95 0 _).1 95 0 ∧ (mst _ 95 0 _).1 95 0 ≤ 6
      have e17 : r5.2.1 85 17 = 0 := e
      have g := q5.2.2.1 (Or.inl e17)
      rw [mst_at]
      have hz6 := hz.1 c
      omega
    · intro i a b
      show 0 ≤ (mst _ 95 0 _).1 95 i ∧ (mst _ 95 0 _).1 95 i ≤ 9
      rw [mst_nf _ _ _ _ _ _ (by omega)]; exact (hd5.2.2 e).2 i a b
  · refine TT.guard (wk85 hT5) (TT.bind (keep_T hT5 (by decide) (by decide) (by decide) (by decide) (fun h => by have := hd5.1; omega)) (fun r52 q => TT.ok ?_))
    rcases q with ⟨_, e⟩ | ⟨h4, ⟨e1, e2⟩, e3, e4⟩
    · rw [e]; exact ⟨Or.inr rfl, hL5, hd5, ⟨hp5.1, hm5⟩, fun _ => hp5⟩
    · have e85 : ∀ y, r52.1 85 y = r5.2.1 85 y := fun y => e2 85 y (by decide)
      refine ⟨Or.inr rfl, hL5.trans ⟨Keep.of e1 e2 (fun _ => rfl), e85 11⟩, ⟨?_, fun i a b d => ?_, fun e => ⟨?_, fun i a b => ?_⟩⟩, ⟨hp5.1.of (e85 10) (e85 11), ?_⟩, fun _ => hp5.of e85⟩
      · show 0 ≤ r52.1 95 1 ∧ r52.1 95 1 ≤ 4
        have := hd5.1
        omega
      · show dlo i ≤ r52.1 95 i ∧ r52.1 95 i ≤ dhi i
        have h1 := hd5.1
        rw [e4 i (by omega), if_neg (by omega)]; exact hd5.2.1 i a b d
      · show 1 ≤ r52.1 95 0 ∧ r52.1 95 0 ≤ 6
        have h1 := hd5.1
        have e' : r52.1 85 17 = 0 := e
        rw [e4 0 (by decide), if_neg (by omega)]; exact (hd5.2.2 (by rw [← e85]; exact e')).1
      · show 0 ≤ r52.1 95 i ∧ r52.1 95 i ≤ 9
        have h1 := hd5.1
        have e' : r52.1 85 17 = 0 := e
        have e17 : r5.2.1 85 17 = 0 := by rw [← e85]; exact e'
        rw [e4 i (by omega)]
        by_cases q : 84 + 1 * r5.2.1 95 1 ≤ i ∧ i < 84 + 1 * r5.2.1 95 1 + 1
        · rw [if_pos q, show i - (84 + 1 * r5.2.1 95 1) = 0 by omega]
          have := q5.2.2.1 (Or.inl e17)
          have hz9 := hz.2
          omega
        · rw [if_neg q]; exact (hd5.2.2 e17).2 i a b
      · show M.1 85 10 ≤ r52.1 85 10
        rw [e85]; exact hm5
set_option maxHeartbeats 1000000 in
theorem lawLine_T (hT : WT M) (hp : PT M) (hd : DL M) (w : Int) : TT (fX11_lawLine M 85 w) (LQ DL M) := by
  unfold fX11_lawLine
  refine TT.join (fun _ => True) (fun _ _ => ?_) (fun j hj => TT.ite (fun _ => hj () trivial) (fun _ => TT.ite (fun _ => hj () trivial) (fun _ => TT.ite (fun _ => hj () trivial) (fun _ => TT.guard (wk85 hT) (LQ.fails hT hd DL.stab hp.1 (LK.self M) (Int.le_refl _))))))
  refine TT.guard (wk85 hT) (TT.bind (token_T hT hp.1) (fun r q => ?_))
  have hV : VK M r := q.1.vk
  have hdr := DL.stab _ _ hV q.lf hd
  have hTr := hT.keep hV.keep
  have hpr := q.2.1
  have hL := hV.lk
  have hm : M.1 85 10 ≤ r.1 85 10 := q.m
  refine TT.join (fun z : Int => lcmp w 1918989413 = 0 → z = 2) (fun z hz => ?_) (fun j hj => TT.ite (fun e => hj _ (fun _ => rfl)) (fun e => TT.ite (fun _ => hj _ (fun h => absurd h e)) (fun _ => hj _ (fun h => absurd h e))))
  refine TT.join (fun z : Int => lcmp w 1918989413 = 0 → z = 5) (fun y hy => ?_) (fun j hj => TT.ite (fun e => hj _ (fun _ => rfl)) (fun e => TT.ite (fun _ => hj _ (fun h => absurd h e)) (fun _ => hj _ (fun h => absurd h e))))
  refine TT.guard (wk85 hTr) (TT.tk (take_T hTr hpr (by decide) (by decide)) hTr hdr DL.stab hL hm (fun r5 hT5 hp5 hd5 hL5 hm5 q5 => ?_))
  have g19 : r5.2.2.1 95 = 12 ∧ (0 : Int) ≤ 2 ∧ 2 < r5.2.2.2.1 95 := ⟨wk95 hT5, by decide, by rw [wl95 hT5]; decide⟩
  rw [wp85_20 hT5, wp85_19 hT5]
  refine TT.ite (fun c => ?_) (fun c => ?_)
  · refine TT.guard (wk85 hT5) (TT.guard g19 (TT.join (fun _ => True) (fun t _ => TT.guard g19 (TT.sM (TT.ok ⟨Or.inr rfl, hL5.trans ⟨Keep.self.st rfl, rfl⟩, hd5, ⟨hp5.1, hm5⟩, fun _ => hp5⟩))) (fun j hj => TT.ite (fun _ => hj _ trivial) (fun _ => TT.guard (rd_g hT5 (by decide) (by decide)) (hj _ trivial)))))
  · refine TT.guard (wk85 hT5) (TT.join (fun t : Int => (t = 0 ∧ lcmp w 1918989413 = 0) ∨ t = 1) (fun t ht => TT.guard (rd_g hT5 (by decide) (by decide)) (TT.guard ⟨wk95 hT5, by omega, by rw [wl95 hT5]; omega⟩ (TT.sM (TT.ok ⟨Or.inr rfl, hL5.trans ⟨Keep.self.st rfl, mst_ne _ _ _ _ _ _ (by decide)⟩, fun e => ?_, ⟨hp5.1, hm5⟩, fun _ => hp5⟩)))) (fun j hj => TT.ite (fun e => hj _ (Or.inl ⟨rfl, e⟩)) (fun _ => hj _ (Or.inr rfl))))
    have e17 : r5.2.1 85 17 = 0 := e
    show 2 ≤ (mst _ 95 t _).1 95 0 ∧ (mst _ 95 t _).1 95 0 ≤ 5
    rcases ht with ⟨rfl, h⟩ | rfl
    · rw [mst_at]
      have g := q5.2.2.1 (Or.inl e17)
      rw [hz h, hy h] at g
      exact g
    · rw [mst_nf _ _ _ _ _ _ (by decide)]; exact hd5 e17
set_option maxHeartbeats 1000000 in
theorem nightsLine_T (hT : WT M) (hp : PT M) (hd : DN M) (w a : Int) : TT (fX11_nightsLine M 85 w a) (LQ DN M) := by
  unfold fX11_nightsLine
  refine TT.join (fun t : Int => -1 ≤ t ∧ t ≤ 3) (fun dd hdd => ?_) (fun j hj => TT.ite (fun _ => hj _ (by decide)) (fun _ => TT.ite (fun _ => hj _ (by decide)) (fun _ => TT.ite (fun _ => hj _ (by decide)) (fun _ => TT.ite (fun _ => hj _ (by decide)) (fun _ => hj _ (by decide))))))
  refine TT.ite (fun _ => TT.guard (wk85 hT) (LQ.fails hT hd DN.stab hp.1 (LK.self M) (Int.le_refl _))) (fun hne => ?_)
  refine TT.guard (wk85 hT) (TT.bind (full_T hT hp (by decide) (by decide)) (fun t ht => ?_))
  obtain ⟨t1, t2, t3, t4⟩ := ht
  have hTt := hT.keep t1.keep
  refine TT.guard (wk85 hTt) (TT.bind (token_T hTt t3.1) (fun r q => ?_))
  have hV : VK M r := t1.trans q.1.vk
  have hLFr := t2.trans q.lf
  have hTr := hT.keep hV.keep
  have hpr := q.2.1
  have hm : M.1 85 10 ≤ r.1 85 10 := by have := q.m; omega
  rw [wp85_20 hTr]
  refine TT.guard (wk85 hTr) (TT.guard (rd_g hTr (by decide) (by decide)) (TT.sM ?_))
  have s96 : ∀ (N : Mem) (i v : Int), VK N (mst N 96 i v) := fun N i v => ⟨rfl, fun x y b _ => mst_ne _ _ _ _ _ _ b⟩
  have hV1 : VK r (mst r 96 1 (-1)) := s96 _ _ _
  rw [wp85_20 (hTr.keep hV1.keep)]
  refine TT.guard (rd_g (hTr.keep hV1.keep) (by decide) (by decide)) (TT.sM ?_)
  have hV2 : VK r (mst (mst r 96 1 (-1)) 96 2 (-1)) := hV1.trans (s96 _ _ _)
  rw [wp85_20 (hTr.keep hV2.keep)]
  refine TT.guard (rd_g (hTr.keep hV2.keep) (by decide) (by decide)) (TT.sM ?_)
  have hV3 : VK r (mst (mst (mst r 96 1 (-1)) 96 2 (-1)) 96 3 (-1)) := hV2.trans (s96 _ _ _)
  have hF3 : LF r (mst (mst (mst r 96 1 (-1)) 96 2 (-1)) 96 3 (-1)) := ⟨id, id⟩
  have hp3 : PT (mst (mst (mst r 96 1 (-1)) 96 2 (-1)) 96 3 (-1)) := hpr
  have hm3 : M.1 85 10 ≤ (mst (mst (mst r 96 1 (-1)) 96 2 (-1)) 96 3 (-1)).1 85 10 := hm
  generalize mst (mst (mst r 96 1 (-1)) 96 2 (-1)) 96 3 (-1) = N at *
  have hVN := hV.trans hV3
  have hTN := hT.keep hVN.keep
  have hdN := DN.stab _ _ hVN (hLFr.trans hF3) hd
  -- the deed's numbers stand: then it is kept
  have fin : ∀ t : Mem, WT t → PT t → DN t → LK M t → M.1 85 10 ≤ t.1 85 10 → (dd < 2 → t.1 85 17 = 0 → 0 ≤ t.1 96 3 ∧ t.1 96 3 ≤ 4) → TT (if t.2.1 85 = 10 then if t.2.1 (t.1 85 20) = 12 ∧ (0 : Int) ≤ 0 ∧ 0 < t.2.2.1 (t.1 85 20) then bM (mst t (t.1 85 20) 0 dd) fun M30 => (fX11_keep M30 85 0 1 4 40).bind fun r32 => some (1, r32) else none else none) (LQ DN M) := by
    intro t hTt hpt hdt hLt hmt h3
    rw [wp85_20 hTt]
    refine TT.guard (wk85 hTt) (TT.guard (rd_g hTt (by decide) (by decide)) (TT.sM ?_))
    have hVt : VK t (mst t 96 0 dd) := s96 _ _ _
    have hFt : LF t (mst t 96 0 dd) := ⟨id, id⟩
    have hpt2 : PT (mst t 96 0 dd) := hpt
    have hmt2 : M.1 85 10 ≤ (mst t 96 0 dd).1 85 10 := hmt
    have a0 : (mst t 96 0 dd).1 96 0 = dd := rfl
    have a3 : (mst t 96 0 dd).1 96 3 = t.1 96 3 := rfl
    generalize mst t 96 0 dd = O at *
    have hTO := hTt.keep hVt.keep
    have hdO := DN.stab _ _ hVt hFt hdt
    refine TT.bind (keep_T hTO (by decide) (by decide) (by decide) (by decide) (fun h => by have := hdO.1; omega)) (fun r52 q => TT.ok ?_)
    rcases q with ⟨_, e⟩ | ⟨h4, ⟨e1, e2⟩, e3, e4⟩
    · rw [e]; exact ⟨Or.inr rfl, hLt.trans hVt.lk, hdO, ⟨hpt2.1, hmt2⟩, fun _ => hpt2⟩
    · have e85 : ∀ y, r52.1 85 y = O.1 85 y := fun y => e2 85 y (by decide)
      have h1 := hdO.1
      refine ⟨Or.inr rfl, (hLt.trans hVt.lk).trans ⟨Keep.of e1 e2 (fun _ => rfl), e85 11⟩, ⟨?_, fun e i i0 i1 => ?_⟩, ⟨hpt2.1.of (e85 10) (e85 11), ?_⟩, fun _ => hpt2.of e85⟩
      · show 0 ≤ r52.1 95 0 ∧ r52.1 95 0 ≤ 40
        omega
      · show (r52.1 95 (1 + 4 * i) = 0 ∨ r52.1 95 (1 + 4 * i) = 1) → 0 ≤ r52.1 95 (4 + 4 * i) ∧ r52.1 95 (4 + 4 * i) ≤ 4
        have e' : r52.1 85 17 = 0 := e
        have e17 : O.1 85 17 = 0 := by rw [← e85]; exact e'
        rw [e4 (1 + 4 * i) (by omega), e4 (4 + 4 * i) (by omega)]
        by_cases q : i = O.1 95 0
        · rw [if_pos (by omega), if_pos (by omega), show 1 + 4 * i - (1 + 4 * O.1 95 0) = 0 by omega, show 4 + 4 * i - (1 + 4 * O.1 95 0) = 3 by omega, a0, a3]
          intro hk
          exact h3 (by omega) (hFt.1 e17)
        · rw [if_neg (by omega), if_neg (by omega)]; exact hdO.2 e17 i i0 i1
      · show M.1 85 10 ≤ r52.1 85 10
        rw [e85]; exact hmt2
  refine TT.join (fun t : Mem => WT t ∧ PT t ∧ DN t ∧ LK M t ∧ M.1 85 10 ≤ t.1 85 10) (fun t ht => ?_) (fun j hj => ?_)
  · obtain ⟨w1, w2, w3, w4, w5⟩ := ht
    refine TT.join (fun t : Mem => WT t ∧ PT t ∧ DN t ∧ LK M t ∧ M.1 85 10 ≤ t.1 85 10 ∧ (dd < 2 → t.1 85 17 = 0 → 0 ≤ t.1 96 3 ∧ t.1 96 3 ≤ 4)) (fun t ht => fin t ht.1 ht.2.1 ht.2.2.1 ht.2.2.2.1 ht.2.2.2.2.1 ht.2.2.2.2.2) (fun j hj => TT.ite (fun c => ?_) (fun c => hj _ ⟨w1, w2, w3, w4, w5, fun h => absurd h c⟩))
    refine TT.guard (wk85 w1) (TT.tk (take_T w1 w2 (by decide) (by decide)) w1 w3 DN.stab w4 w5 (fun r5 hT5 hp5 hd5 hL5 hm5 q5 => ?_))
    refine TT.guard (wk85 hT5) (TT.tk (take_T hT5 hp5 (by decide) (by decide)) hT5 hd5 DN.stab hL5 hm5 (fun r6 hT6 hp6 hd6 hL6 hm6 q6 => ?_))
    refine TT.guard (wk85 hT6) (TT.tk (take_T hT6 hp6 (by decide) (by decide)) hT6 hd6 DN.stab hL6 hm6 (fun r7 hT7 hp7 hd7 hL7 hm7 q7 => ?_))
    exact hj _ ⟨hT7, hp7, hd7, hL7, hm7, fun _ e => q7.2.2.1 (Or.inl e)⟩
  · refine TT.ite (fun c => ?_) (fun _ => hj _ ⟨hTN, hp3, hdN, hVN.lk, hm3⟩)
    refine TT.tk (take_T hTN hp3 (by decide) (by decide)) hTN hdN DN.stab hVN.lk hm3 (fun r5 hT5 hp5 hd5 hL5 hm5 q5 => ?_)
    rw [wp85_20 hT5]
    refine TT.guard (wk85 hT5) (TT.guard (rd_g hT5 (by decide) (by decide)) (TT.tk (takeBut_T hT5 hp5 (by decide) (by decide)) hT5 hd5 DN.stab hL5 hm5 (fun r6 hT6 hp6 hd6 hL6 hm6 q6 => ?_)))
    refine TT.guard (wk85 hT6) (TT.tk (take_T hT6 hp6 (by decide) (by decide)) hT6 hd6 DN.stab hL6 hm6 (fun r7 hT7 hp7 hd7 hL7 hm7 q7 => ?_))
    exact hj _ ⟨hT7, hp7, hd7, hL7, hm7⟩
set_option maxHeartbeats 1000000 in
theorem sightLine_T (hT : WT M) (hp : PT M) (hd : DS M) (w a : Int) : TT (fX11_sightLine M 85 w a) (LQ DS M) := by
  unfold fX11_sightLine
  refine TT.join (fun _ => True) (fun _ _ => ?_) (fun j hj => TT.ite (fun _ => hj () trivial) (fun _ => TT.ite (fun _ => hj () trivial) (fun _ => TT.guard (wk85 hT) (LQ.fails hT hd DS.stab hp.1 (LK.self M) (Int.le_refl _)))))
  refine TT.join (fun t : Mem => VK M t ∧ LF M t ∧ PT t ∧ t.1 85 10 = M.1 85 10) (fun t ht => ?_) (fun j hj => TT.ite (fun _ => TT.guard (wk85 hT) (TT.bind (full_T hT hp (by decide) (by decide)) (fun r q => hj r q))) (fun _ => hj _ ⟨VK.self M, LF.self M, hp, rfl⟩))
  obtain ⟨t1, t2, t3, t4⟩ := ht
  have hTt := hT.keep t1.keep
  refine TT.guard (wk85 hTt) (TT.bind (token_T hTt t3.1) (fun r q => ?_))
  have hV : VK M r := t1.trans q.1.vk
  have hdr := DS.stab _ _ hV (t2.trans q.lf) hd
  have hTr := hT.keep hV.keep
  have hpr := q.2.1
  have hL := hV.lk
  have hm : M.1 85 10 ≤ r.1 85 10 := by have := q.m; omega
  refine TT.guard (wk85 hTr) (TT.tk (take_T hTr hpr (by decide) (by decide)) hTr hdr DS.stab hL hm (fun r1 hT1 hp1 hd1 hL1 hm1 q1 => ?_))
  refine TT.guard (wk85 hT1) (TT.tk (take_T hT1 hp1 (by decide) (by decide)) hT1 hd1 DS.stab hL1 hm1 (fun r5 hT5 hp5 hd5 hL5 hm5 q5 => ?_))
  refine TT.ite (fun c => ?_) (fun c => ?_)
  · refine TT.guard (wk85 hT5) (TT.bind (keep_T hT5 (by decide) (by decide) (by decide) (by decide) (fun h => by have := hd5.1; omega)) (fun r52 q => TT.ok ?_))
    rcases q with ⟨_, e⟩ | ⟨h4, ⟨e1, e2⟩, e3, e4⟩
    · rw [e]; exact ⟨Or.inr rfl, hL5, hd5, ⟨hp5.1, hm5⟩, fun _ => hp5⟩
    · have e85 : ∀ y, r52.1 85 y = r5.2.1 85 y := fun y => e2 85 y (by decide)
      have h1 := hd5.1
      refine ⟨Or.inr rfl, hL5.trans ⟨Keep.of e1 e2 (fun _ => rfl), e85 11⟩, ⟨?_, fun e i i0 i1 => ?_⟩, ⟨hp5.1.of (e85 10) (e85 11), ?_⟩, fun _ => hp5.of e85⟩
      · show 0 ≤ r52.1 95 0 ∧ r52.1 95 0 ≤ 8
        omega
      · show (0 ≤ r52.1 95 (1 + 2 * i) ∧ r52.1 95 (1 + 2 * i) ≤ 5) ∧ 0 ≤ r52.1 95 (2 + 2 * i) ∧ r52.1 95 (2 + 2 * i) ≤ 4
        have e' : r52.1 85 17 = 0 := e
        have e17 : r5.2.1 85 17 = 0 := by rw [← e85]; exact e'
        rw [e4 (1 + 2 * i) (by omega), e4 (2 + 2 * i) (by omega)]
        by_cases q : i = r5.2.1 95 0
        · rw [if_pos (by omega), if_pos (by omega), show 1 + 2 * i - (1 + 2 * r5.2.1 95 0) = 0 by omega, show 2 + 2 * i - (1 + 2 * r5.2.1 95 0) = 1 by omega]
          have g5 := q5.2.2.1 (Or.inl e17)
          have g1 := q1.2.2.1 (Or.inl (q5.2.2.2.1.1 e17))
          rw [← q5.2.1 0 (by decide)] at g1
          exact ⟨g1, g5⟩
        · rw [if_neg (by omega), if_neg (by omega)]; exact hd5.2 e17 i i0 i1
      · show M.1 85 10 ≤ r52.1 85 10
        rw [e85]; exact hm5
  · refine TT.guard (wk85 hT5) (TT.tk (take_T hT5 hp5 (by decide) (by decide)) hT5 hd5 DS.stab hL5 hm5 (fun r9 hT9 hp9 hd9 hL9 hm9 q9 => ?_))
    rw [wp85_20 hT9]
    refine TT.guard (wk85 hT9) (TT.guard (rd_g hT9 (by decide) (by decide)) (TT.guard (rd_g hT9 (by decide) (by decide)) (TT.guard (rd_g hT9 (by decide) (by decide)) (LQ.lay (lay_T hT9 hd9 (fun hg => ?_)) hp9 hL9 hm9))))
    have hg5 := q9.2.2.2.1.2 hg
    have g5 := q5.2.2.1 (Or.inr hg5)
    have g1 := q1.2.2.1 (Or.inr (q5.2.2.2.1.2 hg5))
    rw [← q9.2.1 1 (by decide)] at g5
    rw [← q5.2.1 0 (by decide), ← q9.2.1 0 (by decide)] at g1
    rw [w32_of (x := 5 * r9.2.1 96 0) (by omega) (by omega), w32_of (x := 17 + 5 * r9.2.1 96 0) (by omega) (by omega), w32_of (x := 17 + 5 * r9.2.1 96 0 + r9.2.1 96 1) (by omega) (by omega)]
    refine ⟨by omega, ⟨?_, fun e i i0 i1 => ?_⟩⟩
    · rw [mst_nf _ _ _ _ _ _ (by omega)]; exact hd9.1
    · rw [mst_nf _ _ _ _ _ _ (by omega), mst_nf _ _ _ _ _ _ (by omega)]; exact hd9.2 e i i0 i1
end Lines
end RefP
