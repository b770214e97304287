/-! the class: lines as the spec has them -/
section LineX
variable {M N : Mem} {T : Int → Int} {n i : Int}
/-- what the class has read so far is D -/
def CDr (s : Int) (M : Mem) (D : Int → Int) : Prop :=
  (s = 0 → (M.1 48 0 = D 0 ∧ M.1 48 1 = D 1) ∧ (∀ y, 0 ≤ y → y < 30 → M.1 49 y = D (2 + y) ∧ M.1 50 y = D (32 + y)) ∧ (∀ y, 0 ≤ y → y < 6 → M.1 51 y = D (62 + y) ∧ M.1 52 y = D (68 + y)) ∧ (∀ y, 0 ≤ y → y < 5 → M.1 53 y = D (74 + y) ∧ M.1 54 y = D (79 + y)) ∧ (∀ y, 0 ≤ y → y < 4 → M.1 55 y = D (84 + y) ∧ M.1 56 y = D (88 + y))) ∧
  (s = 1 → M.1 57 0 = D 0 ∧ M.1 57 1 = D 1 ∧ M.1 57 2 = D 2) ∧
  (s = 2 → M.1 58 0 = D 0 ∧ ∀ y, 0 ≤ y → y < D 0 → M.1 59 y = D (1 + 4 * y) ∧ M.1 60 y = D (2 + 4 * y) ∧ M.1 61 y = D (3 + 4 * y) ∧ M.1 62 y = D (4 + 4 * y)) ∧
  (s = 3 → M.1 63 0 = D 0 ∧ (∀ y, 0 ≤ y → y < D 0 → M.1 64 y = D (1 + 2 * y) ∧ M.1 65 y = D (2 + 2 * y)) ∧ ∀ y, 0 ≤ y → y < 30 → M.1 66 y = D (17 + y)) ∧ (s ≠ 0 → M.1 48 0 = 3 ∧ M.1 48 1 = 0)
theorem CDr.same {s : Int} {D : Int → Int} (h : CDr s M D) (e : ∀ x y, 48 ≤ x → x ≤ 66 → N.1 x y = M.1 x y) : CDr s N D := by
  unfold CDr at *
  refine ⟨fun z => ?_, fun z => ?_, fun z => ?_, fun z => ?_, fun z => by rw [e 48 _ (by decide) (by decide), e 48 _ (by decide) (by decide)]; exact h.2.2.2.2 z⟩
  · obtain ⟨h1, h2, h3, h4, h5⟩ := h.1 z
    exact ⟨by rw [e 48 _ (by decide) (by decide), e 48 _ (by decide) (by decide)]; exact h1, fun y a b => by rw [e 49 _ (by decide) (by decide), e 50 _ (by decide) (by decide)]; exact h2 y a b, fun y a b => by rw [e 51 _ (by decide) (by decide), e 52 _ (by decide) (by decide)]; exact h3 y a b, fun y a b => by rw [e 53 _ (by decide) (by decide), e 54 _ (by decide) (by decide)]; exact h4 y a b, fun y a b => by rw [e 55 _ (by decide) (by decide), e 56 _ (by decide) (by decide)]; exact h5 y a b⟩
  · rw [e 57 _ (by decide) (by decide), e 57 _ (by decide) (by decide), e 57 _ (by decide) (by decide)]; exact h.2.1 z
  · obtain ⟨h1, h2⟩ := h.2.2.1 z
    exact ⟨by rw [e 58 _ (by decide) (by decide)]; exact h1, fun y a b => by rw [e 59 _ (by decide) (by decide), e 60 _ (by decide) (by decide), e 61 _ (by decide) (by decide), e 62 _ (by decide) (by decide)]; exact h2 y a b⟩
  · obtain ⟨h1, h2, h3⟩ := h.2.2.2.1 z
    exact ⟨by rw [e 63 _ (by decide) (by decide)]; exact h1, fun y a b => by rw [e 64 _ (by decide) (by decide), e 65 _ (by decide) (by decide)]; exact h2 y a b, fun y a b => by rw [e 66 _ (by decide) (by decide)]; exact h3 y a b⟩
theorem up_at (D : Int → Int) (j v : Int) : up D j v j = v := if_pos rfl
theorem up_ne {D : Int → Int} {j v y : Int} (h : y ≠ j) : up D j v y = D y := if_neg h
theorem imax_mx (a b : Int) : imax a b = mx a b := rfl
/-- a kept line: what is read, the topmost house and thief -/
def KV (s : Int) (M r : Mem) (D : Int → Int) (l v0 v1 v2 : Int) : Prop := CDr s r (updL l v0 v1 v2 D) ∧ r.1 47 14 = upH l v0 v1 (M.1 47 14) ∧ r.1 47 15 = upT l v0 v1 (M.1 47 15) ∧ ∀ y, y ≠ 14 → y ≠ 15 → r.1 47 y = M.1 47 y
set_option maxHeartbeats 1000000 in
theorem keepTown_V (hT : WT M) (d : DRF M) {D : Int → Int} (hD : CDr 0 M D) {l : Int} (l0 : 0 ≤ l) (l9 : l < 9) (hN : NV M l) (hf : l = 8 → M.1 48 1 < 4) : TT (fX3_keepTown M 47 l) (fun r => KV 0 M r D l (M.1 67 0) (M.1 67 1) (M.1 67 2)) := by
  unfold fX3_keepTown
  rw [wp47_12 hT, wp47_2 hT]
  obtain ⟨⟨a0, a1⟩, a2, a3, a4, a5⟩ := hD.1 rfl
  refine TT.guard (wk47 hT) (TT.guard ⟨wk67 hT, by decide, by rw [wl67 hT]; decide⟩ (TT.guard ⟨wk67 hT, by decide, by rw [wl67 hT]; decide⟩ ?_))
  have g2 : M.2.1 67 = 12 ∧ (0 : Int) ≤ 2 ∧ 2 < M.2.2.1 67 := ⟨wk67 hT, by decide, by rw [wl67 hT]; decide⟩
  refine TT.join (fun t : Mem => t.2 = M.2 ∧ CDr 0 t (updL l (M.1 67 0) (M.1 67 1) (M.1 67 2) D) ∧ t.1 47 14 = (if l = 4 then mx (M.1 47 14) (M.1 67 1) else M.1 47 14) ∧ t.1 47 15 = upT l (M.1 67 0) (M.1 67 1) (M.1 47 15) ∧ ∀ y, y ≠ 14 → y ≠ 15 → t.1 47 y = M.1 47 y) (fun t ht => ?_) (fun j hj => ?_)
  · obtain ⟨t1, t2, t3, t4, t5⟩ := ht
    refine TT.ite (fun c => TT.ok ⟨t2, ?_, t4, t5⟩) (fun c1 => TT.ite (fun c => TT.ok ⟨t2, ?_, t4, t5⟩) (fun c4 => TT.guard (by rw [t1]; exact wk47 hT) (TT.sM (TT.ok ⟨t2.same (fun x y a b => mst_ne _ _ _ _ _ _ (by omega)), ?_, ?_, fun y y1 y2 => ?_⟩))))
    · rw [t3, if_neg (by omega)]; unfold upH; rw [if_neg (by omega), if_neg (by omega)]
    · rw [t3, if_neg (by omega)]; unfold upH; rw [if_neg (by omega), if_neg (by omega)]
    · rw [mst_at, t3, imax_mx]
      unfold upH
      by_cases c : l = 4
      · rw [if_pos c, if_neg (by omega), if_pos c]
      · rw [if_neg c, if_pos (by omega)]
    · rw [mst_nf _ _ _ _ _ _ (by decide)]; exact t4
    · rw [mst_nf _ _ _ _ _ _ y1]; exact t5 y y1 y2
  rw [wp48_2 hT, wp48_3 hT, wp48_4 hT, wp48_5 hT, wp48_6 hT, wp48_7 hT, wp48_9 hT]
  rcases (show l = 0 ∨ l = 1 ∨ l = 2 ∨ l = 3 ∨ l = 4 ∨ l = 5 ∨ l = 6 ∨ l = 7 ∨ l = 8 by omega) with e | e | e | e | e | e | e | e | e <;> subst e
  · have n0 : 1 ≤ M.1 67 0 ∧ M.1 67 0 ≤ 6 := hN 0 (by decide) (by decide)
    refine TT.pos rfl (TT.guard (wk48 hT) (TT.sM (hj _ ⟨rfl, ?_, rfl, rfl, fun y _ _ => mst_ne _ _ _ _ _ _ (by decide)⟩)))
    show CDr 0 _ (up D 0 (M.1 67 0))
    refine ⟨fun _ => ⟨⟨mst_at _ _ _ _, ?_⟩, fun y y0 y1 => ?_, fun y y0 y1 => ?_, fun y y0 y1 => ?_, fun y y0 y1 => ?_⟩, fun z => absurd z (by decide), fun z => absurd z (by decide), fun z => absurd z (by decide), fun z => absurd rfl z⟩
    · rw [mst_nf _ _ _ _ _ _ (by decide), up_ne (by decide)]; exact a1
    · rw [mst_ne _ _ _ _ _ _ (by decide), mst_ne _ _ _ _ _ _ (by decide), up_ne (by omega), up_ne (by omega)]; exact a2 y y0 y1
    · rw [mst_ne _ _ _ _ _ _ (by decide), mst_ne _ _ _ _ _ _ (by decide), up_ne (by omega), up_ne (by omega)]; exact a3 y y0 y1
    · rw [mst_ne _ _ _ _ _ _ (by decide), mst_ne _ _ _ _ _ _ (by decide), up_ne (by omega), up_ne (by omega)]; exact a4 y y0 y1
    · rw [mst_ne _ _ _ _ _ _ (by decide), mst_ne _ _ _ _ _ _ (by decide), up_ne (by omega), up_ne (by omega)]; exact a5 y y0 y1
  · have n0 : 0 ≤ M.1 67 0 ∧ M.1 67 0 ≤ 5 := hN 0 (by decide) (by decide)
    have n1 : 0 ≤ M.1 67 1 ∧ M.1 67 1 ≤ 4 := hN 1 (by decide) (by decide)
    refine TT.neg (by decide) (TT.pos rfl (TT.guard (wk48 hT) (TT.bind (cell_T (by omega) (by omega) (by omega) (by omega)) (fun r q => TT.guard g2 (TT.guard ⟨wk49 hT, q.2.1, by rw [wl49 hT]; exact q.2.2⟩ (TT.sM (hj _ ⟨rfl, ?_, rfl, rfl, fun y _ _ => mst_ne _ _ _ _ _ _ (by decide)⟩)))))))
    show CDr 0 _ (up D (2 + 5 * M.1 67 0 + M.1 67 1) (M.1 67 2))
    obtain ⟨q1, q2, q3⟩ := q
    refine ⟨fun _ => ⟨⟨?_, ?_⟩, fun y y0 y1 => ⟨?_, ?_⟩, fun y y0 y1 => ⟨?_, ?_⟩, fun y y0 y1 => ⟨?_, ?_⟩, fun y y0 y1 => ⟨?_, ?_⟩⟩, fun z => absurd z (by decide), fun z => absurd z (by decide), fun z => absurd z (by decide), fun z => absurd rfl z⟩
    · rw [mst_ne _ _ _ _ _ _ (by decide), up_ne (by omega)]; exact a0
    · rw [mst_ne _ _ _ _ _ _ (by decide), up_ne (by omega)]; exact a1
    · by_cases q : y = r
      · rw [q, mst_at, show 2 + r = 2 + 5 * M.1 67 0 + M.1 67 1 by omega, up_at]
      · rw [mst_nf _ _ _ _ _ _ q, up_ne (by omega)]; exact (a2 y y0 y1).1
    · rw [mst_ne _ _ _ _ _ _ (by decide), up_ne (by omega)]; exact (a2 y y0 y1).2
    · rw [mst_ne _ _ _ _ _ _ (by decide), up_ne (by omega)]; exact (a3 y y0 y1).1
    · rw [mst_ne _ _ _ _ _ _ (by decide), up_ne (by omega)]; exact (a3 y y0 y1).2
    · rw [mst_ne _ _ _ _ _ _ (by decide), up_ne (by omega)]; exact (a4 y y0 y1).1
    · rw [mst_ne _ _ _ _ _ _ (by decide), up_ne (by omega)]; exact (a4 y y0 y1).2
    · rw [mst_ne _ _ _ _ _ _ (by decide), up_ne (by omega)]; exact (a5 y y0 y1).1
    · rw [mst_ne _ _ _ _ _ _ (by decide), up_ne (by omega)]; exact (a5 y y0 y1).2
  · have n0 : 0 ≤ M.1 67 0 ∧ M.1 67 0 ≤ 5 := hN 0 (by decide) (by decide)
    have n1 : 0 ≤ M.1 67 1 ∧ M.1 67 1 ≤ 4 := hN 1 (by decide) (by decide)
    refine TT.neg (by decide) (TT.neg (by decide) (TT.pos rfl (TT.guard (wk48 hT) (TT.bind (cell_T (by omega) (by omega) (by omega) (by omega)) (fun r q => TT.guard g2 (TT.guard ⟨wk50 hT, q.2.1, by rw [wl50 hT]; exact q.2.2⟩ (TT.sM (hj _ ⟨rfl, ?_, rfl, rfl, fun y _ _ => mst_ne _ _ _ _ _ _ (by decide)⟩))))))))
    show CDr 0 _ (up D (32 + 5 * M.1 67 0 + M.1 67 1) (M.1 67 2))
    obtain ⟨q1, q2, q3⟩ := q
    refine ⟨fun _ => ⟨⟨?_, ?_⟩, fun y y0 y1 => ⟨?_, ?_⟩, fun y y0 y1 => ⟨?_, ?_⟩, fun y y0 y1 => ⟨?_, ?_⟩, fun y y0 y1 => ⟨?_, ?_⟩⟩, fun z => absurd z (by decide), fun z => absurd z (by decide), fun z => absurd z (by decide), fun z => absurd rfl z⟩
    · rw [mst_ne _ _ _ _ _ _ (by decide), up_ne (by omega)]; exact a0
    · rw [mst_ne _ _ _ _ _ _ (by decide), up_ne (by omega)]; exact a1
    · rw [mst_ne _ _ _ _ _ _ (by decide), up_ne (by omega)]; exact (a2 y y0 y1).1
    · by_cases q : y = r
      · rw [q, mst_at, show 32 + r = 32 + 5 * M.1 67 0 + M.1 67 1 by omega, up_at]
      · rw [mst_nf _ _ _ _ _ _ q, up_ne (by omega)]; exact (a2 y y0 y1).2
    · rw [mst_ne _ _ _ _ _ _ (by decide), up_ne (by omega)]; exact (a3 y y0 y1).1
    · rw [mst_ne _ _ _ _ _ _ (by decide), up_ne (by omega)]; exact (a3 y y0 y1).2
    · rw [mst_ne _ _ _ _ _ _ (by decide), up_ne (by omega)]; exact (a4 y y0 y1).1
    · rw [mst_ne _ _ _ _ _ _ (by decide), up_ne (by omega)]; exact (a4 y y0 y1).2
    · rw [mst_ne _ _ _ _ _ _ (by decide), up_ne (by omega)]; exact (a5 y y0 y1).1
    · rw [mst_ne _ _ _ _ _ _ (by decide), up_ne (by omega)]; exact (a5 y y0 y1).2
  · have n0 : 0 ≤ M.1 67 0 ∧ M.1 67 0 ≤ 5 := hN 0 (by decide) (by decide)
    have n1 : 0 ≤ M.1 67 1 ∧ M.1 67 1 ≤ 9 := hN 1 (by decide) (by decide)
    refine TT.neg (by decide) (TT.neg (by decide) (TT.neg (by decide) (TT.pos rfl (TT.guard (wk48 hT) (TT.guard ⟨wk51 hT, n0.1, by rw [wl51 hT]; omega⟩ (TT.sM (hj _ ⟨rfl, ?_, rfl, rfl, fun y _ _ => mst_ne _ _ _ _ _ _ (by decide)⟩)))))))
    show CDr 0 _ (up D (62 + M.1 67 0) (M.1 67 1))
    refine ⟨fun _ => ⟨⟨?_, ?_⟩, fun y y0 y1 => ⟨?_, ?_⟩, fun y y0 y1 => ⟨?_, ?_⟩, fun y y0 y1 => ⟨?_, ?_⟩, fun y y0 y1 => ⟨?_, ?_⟩⟩, fun z => absurd z (by decide), fun z => absurd z (by decide), fun z => absurd z (by decide), fun z => absurd rfl z⟩
    · rw [mst_ne _ _ _ _ _ _ (by decide), up_ne (by omega)]; exact a0
    · rw [mst_ne _ _ _ _ _ _ (by decide), up_ne (by omega)]; exact a1
    · rw [mst_ne _ _ _ _ _ _ (by decide), up_ne (by omega)]; exact (a2 y y0 y1).1
    · rw [mst_ne _ _ _ _ _ _ (by decide), up_ne (by omega)]; exact (a2 y y0 y1).2
    · by_cases q : y = M.1 67 0
      · rw [q, mst_at, show 62 + (M.1 67 0) = 62 + M.1 67 0 by omega, up_at]
      · rw [mst_nf _ _ _ _ _ _ q, up_ne (by omega)]; exact (a3 y y0 y1).1
    · rw [mst_ne _ _ _ _ _ _ (by decide), up_ne (by omega)]; exact (a3 y y0 y1).2
    · rw [mst_ne _ _ _ _ _ _ (by decide), up_ne (by omega)]; exact (a4 y y0 y1).1
    · rw [mst_ne _ _ _ _ _ _ (by decide), up_ne (by omega)]; exact (a4 y y0 y1).2
    · rw [mst_ne _ _ _ _ _ _ (by decide), up_ne (by omega)]; exact (a5 y y0 y1).1
    · rw [mst_ne _ _ _ _ _ _ (by decide), up_ne (by omega)]; exact (a5 y y0 y1).2
  · have n0 : 0 ≤ M.1 67 0 ∧ M.1 67 0 ≤ 5 := hN 0 (by decide) (by decide)
    have n1 : 0 ≤ M.1 67 1 ∧ M.1 67 1 ≤ 5 := hN 1 (by decide) (by decide)
    refine TT.neg (by decide) (TT.neg (by decide) (TT.neg (by decide) (TT.neg (by decide) (TT.pos rfl (TT.guard (wk48 hT) (TT.guard ⟨wk52 hT, n0.1, by rw [wl52 hT]; omega⟩ (TT.sM (TT.sM (hj _ ⟨rfl, CDr.same (M := mst M 52 (M.1 67 0) (M.1 67 1)) ?_ (fun x y a b => mst_ne _ _ _ _ _ _ (by omega)), rfl, rfl, fun y y1 y2 => by rw [mst_nf _ _ _ _ _ _ y1, mst_ne _ _ _ _ _ _ (by decide)]⟩)))))))))
    show CDr 0 _ (up D (68 + M.1 67 0) (M.1 67 1))
    refine ⟨fun _ => ⟨⟨?_, ?_⟩, fun y y0 y1 => ⟨?_, ?_⟩, fun y y0 y1 => ⟨?_, ?_⟩, fun y y0 y1 => ⟨?_, ?_⟩, fun y y0 y1 => ⟨?_, ?_⟩⟩, fun z => absurd z (by decide), fun z => absurd z (by decide), fun z => absurd z (by decide), fun z => absurd rfl z⟩
    · rw [mst_ne _ _ _ _ _ _ (by decide), up_ne (by omega)]; exact a0
    · rw [mst_ne _ _ _ _ _ _ (by decide), up_ne (by omega)]; exact a1
    · rw [mst_ne _ _ _ _ _ _ (by decide), up_ne (by omega)]; exact (a2 y y0 y1).1
    · rw [mst_ne _ _ _ _ _ _ (by decide), up_ne (by omega)]; exact (a2 y y0 y1).2
    · rw [mst_ne _ _ _ _ _ _ (by decide), up_ne (by omega)]; exact (a3 y y0 y1).1
    · by_cases q : y = M.1 67 0
      · rw [q, mst_at, show 68 + (M.1 67 0) = 68 + M.1 67 0 by omega, up_at]
      · rw [mst_nf _ _ _ _ _ _ q, up_ne (by omega)]; exact (a3 y y0 y1).2
    · rw [mst_ne _ _ _ _ _ _ (by decide), up_ne (by omega)]; exact (a4 y y0 y1).1
    · rw [mst_ne _ _ _ _ _ _ (by decide), up_ne (by omega)]; exact (a4 y y0 y1).2
    · rw [mst_ne _ _ _ _ _ _ (by decide), up_ne (by omega)]; exact (a5 y y0 y1).1
    · rw [mst_ne _ _ _ _ _ _ (by decide), up_ne (by omega)]; exact (a5 y y0 y1).2
  · have n0 : 0 ≤ M.1 67 0 ∧ M.1 67 0 ≤ 4 := hN 0 (by decide) (by decide)
    have n1 : 1 ≤ M.1 67 1 ∧ M.1 67 1 ≤ 9 := hN 1 (by decide) (by decide)
    refine TT.neg (by decide) (TT.neg (by decide) (TT.neg (by decide) (TT.neg (by decide) (TT.neg (by decide) (TT.pos rfl (TT.guard (wk48 hT) (TT.guard ⟨wk53 hT, n0.1, by rw [wl53 hT]; omega⟩ (TT.sM (hj _ ⟨rfl, ?_, rfl, rfl, fun y _ _ => mst_ne _ _ _ _ _ _ (by decide)⟩)))))))))
    show CDr 0 _ (up D (74 + M.1 67 0) (M.1 67 1))
    refine ⟨fun _ => ⟨⟨?_, ?_⟩, fun y y0 y1 => ⟨?_, ?_⟩, fun y y0 y1 => ⟨?_, ?_⟩, fun y y0 y1 => ⟨?_, ?_⟩, fun y y0 y1 => ⟨?_, ?_⟩⟩, fun z => absurd z (by decide), fun z => absurd z (by decide), fun z => absurd z (by decide), fun z => absurd rfl z⟩
    · rw [mst_ne _ _ _ _ _ _ (by decide), up_ne (by omega)]; exact a0
    · rw [mst_ne _ _ _ _ _ _ (by decide), up_ne (by omega)]; exact a1
    · rw [mst_ne _ _ _ _ _ _ (by decide), up_ne (by omega)]; exact (a2 y y0 y1).1
    · rw [mst_ne _ _ _ _ _ _ (by decide), up_ne (by omega)]; exact (a2 y y0 y1).2
    · rw [mst_ne _ _ _ _ _ _ (by decide), up_ne (by omega)]; exact (a3 y y0 y1).1
    · rw [mst_ne _ _ _ _ _ _ (by decide), up_ne (by omega)]; exact (a3 y y0 y1).2
    · by_cases q : y = M.1 67 0
      · rw [q, mst_at, show 74 + (M.1 67 0) = 74 + M.1 67 0 by omega, up_at]
      · rw [mst_nf _ _ _ _ _ _ q, up_ne (by omega)]; exact (a4 y y0 y1).1
    · rw [mst_ne _ _ _ _ _ _ (by decide), up_ne (by omega)]; exact (a4 y y0 y1).2
    · rw [mst_ne _ _ _ _ _ _ (by decide), up_ne (by omega)]; exact (a5 y y0 y1).1
    · rw [mst_ne _ _ _ _ _ _ (by decide), up_ne (by omega)]; exact (a5 y y0 y1).2
  · have n0 : 0 ≤ M.1 67 0 ∧ M.1 67 0 ≤ 4 := hN 0 (by decide) (by decide)
    have n1 : 0 ≤ M.1 67 1 ∧ M.1 67 1 ≤ 9 := hN 1 (by decide) (by decide)
    refine TT.neg (by decide) (TT.neg (by decide) (TT.neg (by decide) (TT.neg (by decide) (TT.neg (by decide) (TT.neg (by decide) (TT.pos rfl (TT.guard (wk48 hT) (TT.guard ⟨wk54 hT, n0.1, by rw [wl54 hT]; omega⟩ (TT.sM (hj _ ⟨rfl, ?_, rfl, rfl, fun y _ _ => mst_ne _ _ _ _ _ _ (by decide)⟩))))))))))
    show CDr 0 _ (up D (79 + M.1 67 0) (M.1 67 1))
    refine ⟨fun _ => ⟨⟨?_, ?_⟩, fun y y0 y1 => ⟨?_, ?_⟩, fun y y0 y1 => ⟨?_, ?_⟩, fun y y0 y1 => ⟨?_, ?_⟩, fun y y0 y1 => ⟨?_, ?_⟩⟩, fun z => absurd z (by decide), fun z => absurd z (by decide), fun z => absurd z (by decide), fun z => absurd rfl z⟩
    · rw [mst_ne _ _ _ _ _ _ (by decide), up_ne (by omega)]; exact a0
    · rw [mst_ne _ _ _ _ _ _ (by decide), up_ne (by omega)]; exact a1
    · rw [mst_ne _ _ _ _ _ _ (by decide), up_ne (by omega)]; exact (a2 y y0 y1).1
    · rw [mst_ne _ _ _ _ _ _ (by decide), up_ne (by omega)]; exact (a2 y y0 y1).2
    · rw [mst_ne _ _ _ _ _ _ (by decide), up_ne (by omega)]; exact (a3 y y0 y1).1
    · rw [mst_ne _ _ _ _ _ _ (by decide), up_ne (by omega)]; exact (a3 y y0 y1).2
    · rw [mst_ne _ _ _ _ _ _ (by decide), up_ne (by omega)]; exact (a4 y y0 y1).1
    · by_cases q : y = M.1 67 0
      · rw [q, mst_at, show 79 + (M.1 67 0) = 79 + M.1 67 0 by omega, up_at]
      · rw [mst_nf _ _ _ _ _ _ q, up_ne (by omega)]; exact (a4 y y0 y1).2
    · rw [mst_ne _ _ _ _ _ _ (by decide), up_ne (by omega)]; exact (a5 y y0 y1).1
    · rw [mst_ne _ _ _ _ _ _ (by decide), up_ne (by omega)]; exact (a5 y y0 y1).2
  · have n0 : 0 ≤ M.1 67 0 ∧ M.1 67 0 ≤ 3 := hN 0 (by decide) (by decide)
    have n1 : 0 ≤ M.1 67 1 ∧ M.1 67 1 ≤ 3 := hN 1 (by decide) (by decide)
    refine TT.neg (by decide) (TT.neg (by decide) (TT.neg (by decide) (TT.neg (by decide) (TT.neg (by decide) (TT.neg (by decide) (TT.neg (by decide) (TT.pos rfl (TT.guard (wk48 hT) (TT.guard ⟨wk56 hT, n0.1, by rw [wl56 hT]; omega⟩ (TT.sM (TT.sM (hj _ ⟨rfl, CDr.same (M := mst M 56 (M.1 67 0) (M.1 67 1)) ?_ (fun x y a b => mst_ne _ _ _ _ _ _ (by omega)), rfl, rfl, fun y y1 y2 => by rw [mst_nf _ _ _ _ _ _ y2, mst_ne _ _ _ _ _ _ (by decide)]⟩))))))))))))
    show CDr 0 _ (up D (88 + M.1 67 0) (M.1 67 1))
    refine ⟨fun _ => ⟨⟨?_, ?_⟩, fun y y0 y1 => ⟨?_, ?_⟩, fun y y0 y1 => ⟨?_, ?_⟩, fun y y0 y1 => ⟨?_, ?_⟩, fun y y0 y1 => ⟨?_, ?_⟩⟩, fun z => absurd z (by decide), fun z => absurd z (by decide), fun z => absurd z (by decide), fun z => absurd rfl z⟩
    · rw [mst_ne _ _ _ _ _ _ (by decide), up_ne (by omega)]; exact a0
    · rw [mst_ne _ _ _ _ _ _ (by decide), up_ne (by omega)]; exact a1
    · rw [mst_ne _ _ _ _ _ _ (by decide), up_ne (by omega)]; exact (a2 y y0 y1).1
    · rw [mst_ne _ _ _ _ _ _ (by decide), up_ne (by omega)]; exact (a2 y y0 y1).2
    · rw [mst_ne _ _ _ _ _ _ (by decide), up_ne (by omega)]; exact (a3 y y0 y1).1
    · rw [mst_ne _ _ _ _ _ _ (by decide), up_ne (by omega)]; exact (a3 y y0 y1).2
    · rw [mst_ne _ _ _ _ _ _ (by decide), up_ne (by omega)]; exact (a4 y y0 y1).1
    · rw [mst_ne _ _ _ _ _ _ (by decide), up_ne (by omega)]; exact (a4 y y0 y1).2
    · rw [mst_ne _ _ _ _ _ _ (by decide), up_ne (by omega)]; exact (a5 y y0 y1).1
    · by_cases q : y = M.1 67 0
      · rw [q, mst_at, show 88 + (M.1 67 0) = 88 + M.1 67 0 by omega, up_at]
      · rw [mst_nf _ _ _ _ _ _ q, up_ne (by omega)]; exact (a5 y y0 y1).2
  · have h4 := hf rfl
    have h1 := d.1.2.1
    refine TT.neg (by decide) (TT.neg (by decide) (TT.neg (by decide) (TT.neg (by decide) (TT.neg (by decide) (TT.neg (by decide) (TT.neg (by decide) (TT.neg (by decide) (TT.guard (wk48 hT) (TT.bind (P := fun r => r = mst (mst M 55 (M.1 48 1) (M.1 67 0)) 48 1 (M.1 48 1 + 1)) ?_ (fun r q => hj r ?_))))))))))
    · unfold fX7_addThief
      rw [wp48_8 hT]
      refine TT.guard (wk48 hT) (TT.pos h4 (TT.guard ⟨wk55 hT, h1.1, by rw [wl55 hT]; exact h4⟩ (TT.sM (TT.sM (TT.ok ?_)))))
      rw [show (mst M 55 (M.1 48 1) (M.1 67 0)).1 48 1 = M.1 48 1 from mst_ne _ _ _ _ _ _ (by decide), w32_of (by omega) (by omega)]
    · rw [q]
      refine ⟨rfl, ?_, rfl, rfl, fun y _ _ => rfl⟩
      show CDr 0 _ (up (up D (84 + D 1) (M.1 67 0)) 1 (D 1 + 1))
      rw [← a1]
      refine ⟨fun _ => ⟨⟨?_, ?_⟩, fun y y0 y1 => ?_, fun y y0 y1 => ?_, fun y y0 y1 => ?_, fun y y0 y1 => ⟨?_, ?_⟩⟩, fun z => absurd z (by decide), fun z => absurd z (by decide), fun z => absurd z (by decide), fun z => absurd rfl z⟩
      · rw [mst_nf _ _ _ _ _ _ (by decide), mst_ne _ _ _ _ _ _ (by decide), up_ne (by decide), up_ne (by omega)]; exact a0
      · rw [mst_at, up_at]
      · rw [mst_ne _ _ _ _ _ _ (by decide), mst_ne _ _ _ _ _ _ (by decide), mst_ne _ _ _ _ _ _ (by decide), mst_ne _ _ _ _ _ _ (by decide), up_ne (by omega), up_ne (by omega), up_ne (by omega), up_ne (by omega)]; exact a2 y y0 y1
      · rw [mst_ne _ _ _ _ _ _ (by decide), mst_ne _ _ _ _ _ _ (by decide), mst_ne _ _ _ _ _ _ (by decide), mst_ne _ _ _ _ _ _ (by decide), up_ne (by omega), up_ne (by omega), up_ne (by omega), up_ne (by omega)]; exact a3 y y0 y1
      · rw [mst_ne _ _ _ _ _ _ (by decide), mst_ne _ _ _ _ _ _ (by decide), mst_ne _ _ _ _ _ _ (by decide), mst_ne _ _ _ _ _ _ (by decide), up_ne (by omega), up_ne (by omega), up_ne (by omega), up_ne (by omega)]; exact a4 y y0 y1
      · rw [mst_ne _ _ _ _ _ _ (by decide), up_ne (by omega)]
        by_cases z : y = M.1 48 1
        · rw [z, mst_at, up_at]
        · rw [mst_nf _ _ _ _ _ _ z, up_ne (by omega)]; exact (a5 y y0 y1).1
      · rw [mst_ne _ _ _ _ _ _ (by decide), mst_ne _ _ _ _ _ _ (by decide), up_ne (by omega), up_ne (by omega)]; exact (a5 y y0 y1).2
end LineX
