/-! the class: a text read and kept -/
section TextX
variable {M N O : Mem}
theorem isFull_T (hT : WT M) (l : Int) : TT (fX3_isFull M 47 l) (fun _ => True) := by
  unfold fX3_isFull
  rw [wp47_2 hT, wp47_4 hT, wp47_5 hT]
  refine TT.ite (fun _ => TT.guard (wk47 hT) (TT.guard (wk48 hT) (TT.ite (fun _ => TT.ok trivial) (fun _ => TT.ok trivial)))) (fun _ => ?_)
  exact TT.join (fun _ => True) (fun _ _ => TT.ite (fun _ => TT.guard (wk47 hT) (TT.guard (wk63 hT) (TT.ite (fun _ => TT.ok trivial) (fun _ => TT.ok trivial)))) (fun _ => TT.ok trivial)) (fun j hj => TT.ite (fun _ => hj () trivial) (fun _ => TT.ite (fun _ => hj () trivial) (fun _ => TT.guard (wk47 hT) (TT.guard (wk58 hT) (TT.ite (fun _ => TT.ok trivial) (fun _ => TT.ok trivial))))))
theorem note_sk {r : Mem} (q : (r.2 = M.2 ∧ ∀ x y, (x ≠ 47 ∨ (y ≠ 0 ∧ y ≠ 1)) → r.1 x y = M.1 x y) ∧ r.1 47 0 ≠ 0) : SK M r := ⟨q.1.1, fun x y z => q.1.2 x y (by omega)⟩
theorem nm3 {l : Int} (l0 : 0 ≤ l) (l1 : l < 18) : (sTab 1).getD l.toNat 0 ≤ 3 ∧ 0 ≤ (sTab 1).getD l.toNat 0 := by
  rcases (show l = 0 ∨ l = 1 ∨ l = 2 ∨ l = 3 ∨ l = 4 ∨ l = 5 ∨ l = 6 ∨ l = 7 ∨ l = 8 ∨ l = 9 ∨ l = 10 ∨ l = 11 ∨ l = 12 ∨ l = 13 ∨ l = 14 ∨ l = 15 ∨ l = 16 ∨ l = 17 by omega) with e | e | e | e | e | e | e | e | e | e | e | e | e | e | e | e | e | e <;> subst e <;> decide
def RLq (M r : Mem) : Prop := KD M r ∧ RS r ∧ DRF r
set_option maxHeartbeats 1000000 in
theorem readLine_T (hT : WT M) (hs : RS M) (hd : DRF M) (s : Int) : TT (fX3_readLine M 47 s) (RLq M) := by
  unfold fX3_readLine
  have brk : ∀ u : Mem, RLq M u → TT ((fX3_breakOff u 47).bind fun r => some r) (RLq M) := fun u hu => TT.bind (breakOff_T (hu.1.wt hT)) (fun r q => TT.ok ⟨hu.1.trans q.1.kd, hu.2.1.of q.2.1 q.2.2.1 q.2.2.2, q.1.drf hu.2.2⟩)
  refine TT.guard (wk47 hT) (TT.join (fun l : Int => l = -1 ∨ (0 ≤ l ∧ l < 18)) (fun l hl => ?_) (fun j hj => TT.ite (fun _ => TT.bind (lineOf3_T hT hs s) (fun r q => hj r q)) (fun _ => hj _ (Or.inl rfl))))
  refine TT.ite (fun _ => brk M ⟨KD.self M, hs, hd⟩) (fun hne => ?_)
  obtain ⟨l0, l1⟩ := hl.resolve_left hne
  have hnm := nm3 l0 l1
  refine TT.bind (isFull_T hT l) (fun r7 _ => TT.join (fun t : Mem => SK M t ∧ RS t) (fun t ht => ?_) (fun j hj => TT.ite (fun _ => hj M ⟨SK.self M, hs⟩) (fun _ => TT.bind (note_T hT _ (by decide)) (fun r q => hj r ⟨note_sk q, hs.of (q.1.2 47 6 (by decide)) (q.1.2 47 7 (by decide)) (q.1.2 47 8 (by decide))⟩))))
  have hTt := ht.1.kd.wt hT
  refine TT.guard (wk47 hTt) (TT.bind (step_T hTt ht.2) (fun r11 q11 => ?_))
  have h11 : SK M r11 := ht.1.trans q11.1.1
  refine TT.iter (fun u : Int × Mem => (0 ≤ u.1 ∧ u.1 ≤ 3) ∧ RLq M u.2 ∧ (u.2.1 47 0 = 0 → ∀ j, 0 ≤ j → j < u.1 → lo3 l j ≤ u.2.1 67 j ∧ u.2.1 67 j ≤ hi3 l j)) (fun u => (3 - u.1).toNat) ?_ BIG (0, r11) ⟨⟨by dsimp only; omega, by dsimp only; omega⟩, ⟨h11.kd, q11.2, h11.drf hd⟩, fun _ j a b => by dsimp only at b; omega⟩ (by unfold BIG; dsimp only; omega)
  rintro rec ⟨i, u⟩ ⟨⟨i0, i3⟩, hu, hv⟩ hr
  simp only at i0 i3 hu hv ⊢
  have hTu := hu.1.wt hT
  refine TT.guard ⟨l0, l1⟩ (TT.ite (fun ci => TT.guard (wk47 hTu) (TT.ite (fun _ => ?_) (fun _ => brk u hu))) (fun ci => TT.guard (wk47 hTu) (TT.ite (fun _ => ?_) (fun _ => brk u hu))))
  · refine TT.bind (readNumber_T hTu l0 l1 i0 (by omega)) (fun r q => ?_)
    have hK : KD u r := ⟨q.1.1, fun x y z z4 z5 => q.1.2 x y (by intro e; subst e; cases z) (by
      by_cases c : x = 47 ∧ (y = 0 ∨ y = 1)
      · exfalso
        rw [c.1, scr47 (by omega)] at z; cases z
      · omega)⟩
    have hTr := hK.wt hTu
    have hRr : RS r := hu.2.1.of (q.1.2 47 6 (by decide) (by decide)) (q.1.2 47 7 (by decide) (by decide)) (q.1.2 47 8 (by decide) (by decide))
    have hDr : DRF r := by
      obtain ⟨d1, d2, d3, d4, d5, d6⟩ := hu.2.2
      have e : ∀ x y, x ≠ 67 → x ≠ 47 → r.1 x y = u.1 x y := fun x y a b => q.1.2 x y a (Or.inl b)
      refine ⟨⟨by rw [e 48 _ (by decide) (by decide)]; exact d1.1, by rw [e 48 _ (by decide) (by decide)]; exact d1.2.1, fun k y k1 k8 y0 y1 => by rw [e _ _ (by omega) (by omega)]; exact d1.2.2 k y k1 k8 y0 y1⟩, by rw [e 57 _ (by decide) (by decide), e 57 _ (by decide) (by decide)]; exact d2, by rw [e 58 _ (by decide) (by decide)]; exact d3, by rw [e 63 _ (by decide) (by decide)]; exact d4, ⟨fun y a b => by rw [e 64 _ (by decide) (by decide)]; exact d5.1 y a b, fun y a b => by rw [e 65 _ (by decide) (by decide)]; exact d5.2 y a b⟩, fun y a b => by rw [e 66 _ (by decide) (by decide)]; exact d6 y a b⟩
    refine TT.guard (wk47 hTr) (TT.bind (step_T hTr hRr) (fun r2 q2 => hr _ ⟨⟨?_, ?_⟩, ⟨(hu.1.trans hK).trans q2.1.kd, q2.2, q2.1.1.drf hDr⟩, fun e j j0 j1 => ?_⟩ ?_))
    · show 0 ≤ w32 (i + 1)
      rw [w32_of (by omega) (by omega)]; omega
    · show w32 (i + 1) ≤ 3
      rw [w32_of (by omega) (by omega)]; omega
    · have e' : r2.1 47 0 = 0 := e
      rw [q2.1.2] at e'
      obtain ⟨e0, e1, e2⟩ := q.2.2 e'
      have j1' : j < w32 (i + 1) := j1
      rw [w32_of (by omega) (by omega)] at j1'
      show lo3 l j ≤ r2.1 67 j ∧ r2.1 67 j ≤ hi3 l j
      rw [q2.1.1.2 67 j (Or.inl (by decide))]
      by_cases c : j = i
      · subst c
        exact ⟨e1, e2⟩
      · rw [q.2.1 j c]; exact hv e0 j j0 (by omega)
    · show (3 - w32 (i + 1)).toNat < (3 - i).toNat
      rw [w32_of (by omega) (by omega)]; omega
  · refine TT.bind (step_T hTu hu.2.1) (fun r q => ?_)
    have hTr := q.1.kd.wt hTu
    refine TT.guard (wk47 hTr) (TT.ite (fun e => TT.bind (keepLine_T hTr (q.1.1.drf hu.2.2) l0 l1 ?_) (fun z qz => TT.ok ⟨(hu.1.trans q.1.kd).trans qz.1, q.2.of (qz.2.2 6 (by decide) (by decide)) (qz.2.2 7 (by decide) (by decide)) (qz.2.2 8 (by decide) (by decide)), qz.2.1⟩)) (fun _ => TT.ok ⟨hu.1.trans q.1.kd, q.2, q.1.1.drf hu.2.2⟩))
    intro j j0 j1
    rw [q.1.1.2 67 j (Or.inl (by decide))]
    rw [q.1.2] at e
    exact hv e j j0 (by omega)
end TextX
