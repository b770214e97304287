/-! the class: image; what holds of the images; feed, end -/
section Images
variable {M N O : Mem}
theorem g46 : (RGL.all fun p => decide (p.1 ≠ 46) && decide (p.1 < 112)) = true := by decide +kernel
theorem p46 : (PL.all fun p => decide (p.1 ≠ 46) && decide (p.1 < 112)) = true := by decide +kernel
theorem k46 : (KL.all fun p => decide (p.1 < 112)) = true := by decide +kernel
theorem WT.low {n : Int} {P : Int → Int → Prop} (h : WT M) (hn : 112 ≤ n) (g : FZ M N n P) (hP : ∀ x y, x ≠ 46 → ¬P x y) : WT N := by
  have c : ∀ x y, x < 112 → x ≠ 46 → N.1 x y = M.1 x y := fun x y a b => (g x (by omega)).2.2 y (hP x y b)
  refine ⟨⟨?_, ?_⟩, fun p hp i a b => ?_, ⟨fun l k l0 l4 k0 k2 => ?_, fun u j u0 u8 j0 j4 => ?_⟩⟩
  · have g0 := h.1.1
    unfold kinds at *
    rw [List.all_eq_true] at *
    intro p hp
    have g1 := g0 p hp
    have g2 := List.all_eq_true.mp k46 p hp
    simp only [Bool.and_eq_true, decide_eq_true_eq] at g1 g2 ⊢
    rw [(g p.1 (by omega)).1, (g p.1 (by omega)).2.1]; exact g1
  · have g0 := h.1.2
    unfold hold at *
    rw [List.all_eq_true] at *
    intro p hp
    have g1 := g0 p hp
    have g2 := List.all_eq_true.mp p46 p hp
    simp only [Bool.and_eq_true, decide_eq_true_eq] at g1 g2 ⊢
    rw [c _ _ g2.2 g2.1]; exact g1
  · have g2 := List.all_eq_true.mp g46 p hp
    simp only [Bool.and_eq_true, decide_eq_true_eq] at g2
    rw [c _ _ g2.2 g2.1]; exact h.2.1 p hp i a b
  · rw [c 90 _ (by decide) (by decide), c 90 _ (by decide) (by decide), c 91 _ (by decide) (by decide), c 92 _ (by decide) (by decide)]; exact h.2.2.1 l k l0 l4 k0 k2
  · rw [c 93 _ (by decide) (by decide), c 93 _ (by decide) (by decide)]; exact h.2.2.2 u j u0 u8 j0 j4
def ImA (M A : Mem) (k b : Int) : Prop := WT A ∧ ToldS A b ∧ (112 ≤ b ∧ b + 45 ≤ A.2.2.2) ∧ A.1 46 k = b ∧ ((A = M ∧ M.1 46 k ≠ -1) ∨ (M.1 46 k = -1 ∧ b = M.2.2.2 ∧ (A.2.2.2 : Int) = M.2.2.2 + 45 ∧ FZ M A M.2.2.2 (fun x y => x = 46 ∧ y = k)))
theorem imageX_T (hT : WT M) (hI : IM M) (hN : (112 : Int) ≤ M.2.2.2) (k : Int) : TT (fX10_image M 0 k) (fun r => (¬(0 ≤ k ∧ k ≤ 2) ∧ r = (0, M)) ∨ ((0 ≤ k ∧ k ≤ 2) ∧ r.1 = 1 ∧ ∃ A b, ImA M A k b ∧ CPS A r.2 b 1 datT)) := by
  unfold fX10_image
  refine TT.ite (fun c => TT.ok (Or.inl ⟨fun q => by omega, rfl⟩)) (fun c0 => TT.ite (fun c3 => ?_) (fun c => TT.ok (Or.inl ⟨fun q => by omega, rfl⟩)))
  have hk : 0 ≤ k ∧ k ≤ 2 := by omega
  rw [wp0_1 hT]
  refine TT.guard (wk0 hT) (TT.guard ⟨by rw [wk46 hT]; decide, hk.1, by rw [wl46 hT]; exact c3⟩ ?_)
  refine TT.join (fun A : Mem => ∃ b, ImA M A k b) (fun A hA => ?_) (fun j hj => TT.ite (fun e => ?_) (fun e => hj M ?_))
  · obtain ⟨b, a1, a2, a3, a4, a5⟩ := hA
    rw [wp0_0 a1, wp0_1 a1, a4]
    refine TT.guard (wk0 a1) (TT.guard ⟨by rw [wk46 a1]; decide, hk.1, by rw [wl46 a1]; exact c3⟩ (TT.guard a2.1.1 (TT.bind (toldCopy_T (by omega) a2 (ToldS_1 a1)) (fun r q => TT.ok (Or.inr ⟨hk, rfl, A, b, ⟨a1, a2, a3, a4, a5⟩, q⟩)))))
  · have en := mnw_n M 6 9
    refine TT.sM (TT.guard (by omega) (TT.bind (toldInit_T (by omega) en.symm (k7 M 6 9)) (fun r q => ?_)))
    obtain ⟨q1, q2, q3⟩ := q
    have f1 : ∀ x, x < (M.2.2.2 : Int) → r.2.1 x = M.2.1 x ∧ r.2.2.1 x = M.2.2.1 x ∧ ∀ y, r.1 x y = M.1 x y := fun x hx => by
      obtain ⟨g1, g2, g3⟩ := q2 x (by omega)
      rw [mnw_k, if_neg (by omega)] at g1
      rw [mnw_l, if_neg (by omega)] at g2
      refine ⟨g1, g2, fun y => ?_⟩
      rw [g3 y (show ¬ x = (M.2.2.2 : Int) by omega), mnw_c, if_neg (by omega)]
    refine TT.guard q3.1.1 (TT.guard ⟨by rw [(f1 46 (by omega)).1]; exact wk46 hT, hk.1, by rw [(f1 46 (by omega)).2.1, wl46 hT]; exact c3⟩ (TT.sM (hj _ ⟨(M.2.2.2 : Int), ?_⟩)))
    have f2 : FZ M (mst r 46 k (M.2.2.2 : Int)) M.2.2.2 (fun x y => x = 46 ∧ y = k) := fun x hx => ⟨(f1 x hx).1, (f1 x hx).2.1, fun y hy => by rw [mst_r, if_neg hy]; exact (f1 x hx).2.2 y⟩
    refine ⟨hT.low hN f2 (fun x y a b => a b.1), ?_, ⟨hN, by show (M.2.2.2 : Int) + 45 ≤ (r.2.2.2 : Int); omega⟩, mst_at _ _ _ _, Or.inr ⟨e, rfl, q1, f2⟩⟩
    have sm : ∀ x y, x ≠ 46 → (mst r 46 k (M.2.2.2 : Int)).1 x y = r.1 x y := fun x y h => mst_ne _ _ _ _ _ _ h
    exact ⟨q3.1.fr rfl (fun y _ => sm _ _ (by omega)), fun j j0 j2 => (q3.2 j j0 j2).fr rfl (fun x y _ _ => sm _ _ (by omega)) (fun y _ => sm _ _ (by omega)) (fun y _ => sm _ _ (by omega)) (fun y _ => sm _ _ (by omega))⟩
  · obtain ⟨h1, h2, h3⟩ := (hI.1 k hk.1 c3).resolve_left e
    exact ⟨M.1 46 k, hT, h2, h1, rfl, Or.inl ⟨rfl, e⟩⟩
/-! a Told elsewhere stays -/
theorem ToldS.same {c : Int} (h : ToldS M c) (g : ∀ x, c ≤ x → x < c + 45 → N.2.1 x = M.2.1 x ∧ N.2.2.1 x = M.2.2.1 x ∧ ∀ y, N.1 x y = M.1 x y) : ToldS N c := by
  have k : ∀ o, 0 ≤ o → o < 45 → N.2.1 (c + o) = M.2.1 (c + o) ∧ N.2.2.1 (c + o) = M.2.2.1 (c + o) ∧ ∀ y, N.1 (c + o) y = M.1 (c + o) y := fun o a b => g (c + o) (by omega) (by omega)
  have k0 := g c (by omega) (by omega)
  have ob : ∀ {kd f n : Int} {L : Int → Int} {o : Int}, 0 ≤ o → o + n < 45 → 0 ≤ n → ObjS kd f n L M (c + o) → ObjS kd f n L N (c + o) := by
    intro kd f n L o o0 o1 n0 h
    refine ⟨by rw [(k o o0 (by omega)).1]; exact h.1, fun j a b => ?_⟩
    obtain ⟨h1, h2, h3⟩ := h.2 j a b
    refine ⟨by rw [(k o o0 (by omega)).2.2]; exact h1, ?_, ?_⟩
    · have := (k (o + j) (by omega) (by omega)).1
      rw [show c + (o + j) = c + o + j by omega] at this
      rw [this]; exact h2
    · have := (k (o + j) (by omega) (by omega)).2.1
      rw [show c + (o + j) = c + o + j by omega] at this
      rw [this]; exact h3
  refine ⟨?_, fun j j0 j2 => ?_⟩
  · have hh := h.1
    unfold HdS at *
    rw [k0.1, k0.2.2, k0.2.2, k0.2.2, k0.2.2, k0.2.2, k0.2.2, (k 1 (by decide) (by decide)).1, (k 1 (by decide) (by decide)).2.1, (k 2 (by decide) (by decide)).1, (k 2 (by decide) (by decide)).2.1, (k 3 (by decide) (by decide)).1, (k 3 (by decide) (by decide)).2.1, (k 4 (by decide) (by decide)).1, (k 4 (by decide) (by decide)).2.1, (k 5 (by decide) (by decide)).1, (k 5 (by decide) (by decide)).2.1, (k 6 (by decide) (by decide)).1, (k 6 (by decide) (by decide)).2.1]
    exact hh
  · obtain ⟨⟨a1, a2⟩, ⟨a3, a4⟩, ⟨a5, a6⟩, a7, a8⟩ := h.2 j j0 j2
    refine ⟨⟨?_, ob (by omega) (by omega) (by decide) a2⟩, ⟨?_, ?_⟩, ⟨?_, ob (by omega) (by omega) (by decide) a6⟩, ?_, ob (by omega) (by omega) (by decide) a8⟩
    · rw [(k 3 (by decide) (by decide)).2.2]; exact a1
    · rw [(k 4 (by decide) (by decide)).2.2]; exact a3
    · rw [(k (16 + 19 * j) (by omega) (by omega)).1]; exact a4
    · rw [(k 5 (by decide) (by decide)).2.2]; exact a5
    · rw [(k 6 (by decide) (by decide)).2.2]; exact a7
theorem ToldR.same {c : Int} (h : ToldR M c) (g : ∀ x y, c ≤ x → x < c + 45 → N.1 x y = M.1 x y) : ToldR N c := fun p hp a b i i1 i2 => by
  rw [g _ _ (by omega) (by omega)]; exact h p hp a b i i1 i2
/-- a call that leaves the images' cells alone -/
theorem IM.same (h : IM M) (e2 : N.2 = M.2) (e46 : ∀ k, N.1 46 k = M.1 46 k) (g : ∀ x y, 112 ≤ x → N.1 x y = M.1 x y) : IM N := by
  refine ⟨fun k a b => ?_, fun k l a b c d => ?_⟩
  · rw [e46]
    rcases h.1 k a b with h1 | ⟨h1, h2, h3⟩
    · exact Or.inl h1
    · exact Or.inr ⟨by rw [e2]; exact h1, h2.same (fun x x1 _ => ⟨by rw [e2], by rw [e2], fun y => g x y (by omega)⟩), h3.same (fun x y x1 _ => g x y (by omega))⟩
  · rw [e46, e46]; exact h.2 k l a b c d
theorem scr_hi {x : Int} (h : 112 ≤ x) (y : Int) : scr x y = false := scr_lo y (by omega) (by omega) (by omega)
theorem IM.keep (h : IM M) (k : Keep M N) : IM N := h.same k.1 (fun j => k.2 46 j (scr_lo _ (by decide) (by decide) (by decide))) (fun x y q => k.2 x y (scr_hi q y))
theorem SC.keep (h : SC M) (k : Keep M N) : SC N := by unfold SC at *; rw [k.2 79 0 rfl, k.2 79 1 rfl]; exact h
theorem Free.dat : Free datT := Free.or (Free.or Free.hd (Free.or (Free.or (Free.or (Free.obj7 (by decide) (by decide)) (Free.obj16 (by decide) (by decide))) (Free.obj17 (by decide) (by decide))) (Free.obj22 (by decide) (by decide)))) (Free.or (Free.or (Free.or (Free.obj7 (by decide) (by decide)) (Free.obj16 (by decide) (by decide))) (Free.obj17 (by decide) (by decide))) (Free.obj22 (by decide) (by decide)))
theorem dat_cov : (RGL.all fun p => decide (p.1 < 1) || decide (46 ≤ p.1) || (List.range (p.2.2.1 - p.2.1 + 1).toNat).all fun n => datT (p.1 - 1) (p.2.1 + n)) = true := by decide +kernel
theorem dat_at {p : Int × Int × Int × Int × Int} (hp : p ∈ RGL) (h1 : 1 ≤ p.1) (h2 : p.1 ≤ 45) {i : Int} (a : p.2.1 ≤ i) (b : i ≤ p.2.2.1) : datT (p.1 - 1) i = true := by
  have g := List.all_eq_true.mp dat_cov p hp
  simp only [Bool.or_eq_true, decide_eq_true_eq] at g
  rcases g with (g | g) | g
  · omega
  · omega
  · have := List.all_eq_true.mp g (i - p.2.1).toNat (List.mem_range.mpr (by omega))
    rw [show p.2.1 + (((i - p.2.1).toNat : Nat) : Int) = i by omega] at this
    exact this
theorem ToldR.copied {b : Int} (hb : 112 ≤ b) (h : WT M) (q : CPS M N b 1 datT) : ToldR N b := fun p hp a c i i1 i2 => by
  have e := q.at (o := p.1 - 1) (by omega) (by omega) i
  rw [dat_at hp a c i1 i2, if_pos rfl, show 1 + (p.1 - 1) = p.1 by omega] at e
  rw [show p.1 - 1 + b = b + (p.1 - 1) by omega, e]; exact h.2.1 p hp i i1 i2
theorem image_inv {A : Mem} {k b : Int} (hI : IM M) (hk : 0 ≤ k ∧ k ≤ 2) (hA : ImA M A k b) (q : CPS A N b 1 datT) : WT N ∧ IM N ∧ (N.1 46 k = b ∧ ∀ l, l ≠ k → N.1 46 l = M.1 46 l) ∧ (M.2.2.2 : Int) ≤ N.2.2.2 ∧ N.2 = A.2 ∧ (∀ x y, x < 112 → x ≠ 46 → N.1 x y = M.1 x y) := by
  obtain ⟨a1, a2, a3, a4, a5⟩ := hA
  have fr : ∀ x y, (x < b ∨ b + 45 ≤ x) → N.1 x y = A.1 x y := fun x y z => by rw [q.2, if_neg (by omega)]
  have hW : WT N := a1.low (n := b) (P := fun _ _ => False) a3.1 (fun x hx => ⟨by rw [q.1], by rw [q.1], fun y _ => fr x y (Or.inl hx)⟩) (fun _ _ _ => id)
  have e46 : ∀ l, l ≠ k → A.1 46 l = M.1 46 l := fun l hl => by
    rcases a5 with a5 | ⟨_, b1, _, b3⟩
    · rw [a5.1]
    · exact (b3 46 (by omega)).2.2 l (fun z => hl z.2)
  have n46 : ∀ l, N.1 46 l = A.1 46 l := fun l => fr 46 l (by omega)
  have low : ∀ x y, x < 112 → x ≠ 46 → N.1 x y = M.1 x y := fun x y h1 h2 => by
    rw [fr x y (by omega)]
    rcases a5 with a5 | ⟨_, b1, _, b3⟩
    · rw [a5.1]
    · exact (b3 x (by omega)).2.2 y (fun z => h2 z.1)
  have hc : (M.2.2.2 : Int) ≤ N.2.2.2 := by
    rw [q.1]
    rcases a5 with a5 | ⟨_, b1, b2, _⟩
    · rw [a5.1]; exact Int.le_refl _
    · omega
  -- another image's block stays, and lies elsewhere
  have oth : ∀ l, 0 ≤ l → l < 3 → l ≠ k → M.1 46 l ≠ -1 → (112 ≤ M.1 46 l ∧ M.1 46 l + 45 ≤ N.2.2.2) ∧ ToldS N (M.1 46 l) ∧ ToldR N (M.1 46 l) ∧ (M.1 46 l + 45 ≤ b ∨ b + 45 ≤ M.1 46 l) := by
    intro l l0 l3 hl hne
    obtain ⟨h1, h2, h3⟩ := (hI.1 l l0 l3).resolve_left hne
    have dis : M.1 46 l + 45 ≤ b ∨ b + 45 ≤ M.1 46 l := by
      rcases a5 with a5 | ⟨_, b1, b2, _⟩
      · have e : M.1 46 k = b := by rw [← a5.1]; exact a4
        have := hI.2 l k l0 l3 hk.1 (by omega) hl hne a5.2
        rw [e] at this; exact this
      · omega
    have sm : ∀ x, M.1 46 l ≤ x → x < M.1 46 l + 45 → N.2.1 x = M.2.1 x ∧ N.2.2.1 x = M.2.2.1 x ∧ ∀ y, N.1 x y = M.1 x y := by
      intro x x1 x2
      rw [q.1]
      rcases a5 with a5 | ⟨_, b1, b2, b3⟩
      · rw [a5.1]; exact ⟨rfl, rfl, fun y => by rw [fr x y (by omega), a5.1]⟩
      · obtain ⟨g1, g2, g3⟩ := b3 x (by omega)
        exact ⟨g1, g2, fun y => by rw [fr x y (by omega)]; exact g3 y (fun z => by omega)⟩
    exact ⟨⟨h1.1, by omega⟩, h2.same sm, h3.same (fun x y x1 x2 => (sm x x1 x2).2.2 y), dis⟩
  refine ⟨hW, ⟨fun l l0 l3 => ?_, fun l m l0 l3 m0 m3 hlm => ?_⟩, ⟨by rw [n46]; exact a4, fun l hl => by rw [n46, e46 l hl]⟩, hc, q.1, low⟩
  · rw [n46]
    by_cases c : l = k
    · rw [c, a4]
      exact Or.inr ⟨by rw [q.1]; exact a3, a2.cps Free.dat q, ToldR.copied a3.1 a1 q⟩
    · rw [e46 l c]
      by_cases e : M.1 46 l = -1
      · exact Or.inl e
      · obtain ⟨h1, h2, h3, _⟩ := oth l l0 l3 c e
        exact Or.inr ⟨h1, h2, h3⟩
  · rw [n46, n46]
    by_cases c : l = k
    · rw [c, a4, e46 m (fun z => hlm (c.trans z.symm))]
      intro _ h2
      exact (oth m m0 m3 (fun z => hlm (c.trans z.symm)) h2).2.2.2.symm
    · rw [e46 l c]
      by_cases d : m = k
      · rw [d, a4]
        intro h1 _
        exact (oth l l0 l3 c h1).2.2.2
      · rw [e46 m d]; exact hI.2 l m l0 l3 m0 m3 hlm
end Images
