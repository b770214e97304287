/-! what holds between two calls -/
section Inv
variable {M N : Mem}
def LEN (M : Mem) : Prop := M.1 1 1 = M.1 87 0 ∧ ∀ k, 0 ≤ k → k < 3 → (M.1 46 k ≠ -1 → M.1 (M.1 46 k) 1 = M.1 87 (k + 1)) ∧ (M.1 46 k = -1 ↔ M.1 111 k = 0)
def INV (M : Mem) : Prop := WT M ∧ SC M ∧ IM M ∧ DI M ∧ (112 : Int) ≤ M.2.2.2 ∧ LEN M
theorem LEN.same (h : LEN M) (hI : IM M) (e1 : N.1 1 1 = M.1 1 1) (e87 : ∀ y, N.1 87 y = M.1 87 y) (e46 : ∀ k, N.1 46 k = M.1 46 k) (e111 : ∀ k, N.1 111 k = M.1 111 k) (g : ∀ x y, 112 ≤ x → N.1 x y = M.1 x y) : LEN N := by
  refine ⟨by rw [e1, e87]; exact h.1, fun k a b => ⟨fun e => ?_, by rw [e46, e111]; exact (h.2 k a b).2⟩⟩
  rw [e46] at e
  have h1 := ((hI.1 k a b).resolve_left e).1.1
  rw [e46, e87, g _ _ h1]; exact (h.2 k a b).1 e
theorem INV.keep (h : INV M) (k : Keep M N) : INV N := by
  obtain ⟨h1, h2, h3, h4, h5, h6⟩ := h
  have lo : ∀ x y, (x < 47 ∨ 86 ≤ x) → (x < 95 ∨ 111 ≤ x) → N.1 x y = M.1 x y := fun x y a b => k.2 x y (scr_lo y (by omega) a b)
  exact ⟨h1.keep k, h2.keep k, h3.keep k, h4.keep k, by rw [k.1]; exact h5, h6.same h3 (lo 1 1 (by decide) (by decide)) (fun y => lo 87 y (by decide) (by decide)) (fun y => lo 46 y (by decide) (by decide)) (fun y => lo 111 y (by decide) (by decide)) (fun x y q => lo x y (by omega) (by omega))⟩
theorem INV.keepC (h : INV M) (k : KeepC M N) (s : SC N) : INV N := by
  obtain ⟨h1, h2, h3, h4, h5, h6⟩ := h
  have lo : ∀ x y, (x < 47 ∨ 86 ≤ x) → (x < 95 ∨ 111 ≤ x) → N.1 x y = M.1 x y := fun x y a b => k.2 x y (scr_lo y (by omega) a b) (by omega)
  have e : ∀ x y, x = 64 ∨ x = 65 → N.1 x y = M.1 x y := fun x y a => k.2 x y (by rcases a with rfl | rfl <;> (unfold scr rdc; simp)) (by omega)
  exact ⟨h1.keepC k, s, h3.same k.1 (fun j => lo 46 j (by decide) (by decide)) (fun x y q => lo x y (by omega) (by omega)), ⟨fun y a b => by rw [e 64 y (by decide)]; exact h4.1 y a b, fun y a b => by rw [e 65 y (by decide)]; exact h4.2 y a b⟩, by rw [k.1]; exact h5, h6.same h3 (lo 1 1 (by decide) (by decide)) (fun y => lo 87 y (by decide) (by decide)) (fun y => lo 46 y (by decide) (by decide)) (fun y => lo 111 y (by decide) (by decide)) (fun x y q => lo x y (by omega) (by omega))⟩
theorem DI.of (h : DI M) (e : ∀ x y, x = 64 ∨ x = 65 → N.1 x y = M.1 x y) : DI N := ⟨fun y a b => by rw [e 64 y (by decide)]; exact h.1 y a b, fun y a b => by rw [e 65 y (by decide)]; exact h.2 y a b⟩
theorem SC.of (h : SC M) (e : ∀ y, N.1 79 y = M.1 79 y) : SC N := by unfold SC at *; rw [e, e]; exact h
theorem scr6 {x y : Int} (h : x = 64 ∨ x = 65) : scr x y = false := by rcases h with rfl | rfl <;> (unfold scr rdc; simp)
/-- the length changes on both sides alike -/
theorem len_P {n : Int} {r q : Mem} (h : INV M) (hn : 0 ≤ n ∧ n ≤ 600) (c : LC n M r) (x : LX n (mst r 85 0 0) q) : WT r ∧ INV q := by
  obtain ⟨h1, h2, h3, h4, h5, h6⟩ := h
  have hr : WT r := LC.wt h1 c hn
  have f : ∀ x y, x ≠ 85 → x ≠ 86 → x ≠ 2 → ¬(x = 1 ∧ y = 1) → ¬(x = 87 ∧ y = 0) → q.1 x y = M.1 x y := fun a b z1 z2 z3 z4 z5 => by
    rw [x.2.2 a b z2 z5, mst_ne _ _ _ _ _ _ z1]; exact c.2.2 a b z3 z4
  have e2 : q.2 = M.2 := x.1.trans c.1
  have hI : IM q := h3.same e2 (fun j => f 46 j (by decide) (by decide) (by decide) (by omega) (by omega)) (fun a b z => f a b (by omega) (by omega) (by omega) (by omega) (by omega))
  refine ⟨hr, LX.wt hr x hn, h2.of (fun y => f 79 y (by decide) (by decide) (by decide) (by omega) (by omega)), hI, h4.of (fun a b z => f a b (by omega) (by omega) (by omega) (by omega) (by omega)), by rw [e2]; exact h5, ?_, fun k a b => ⟨fun e => ?_, ?_⟩⟩
  · rw [x.2.1, x.2.2 1 1 (by decide) (by omega), mst_ne _ _ _ _ _ _ (by decide), c.2.1]
  · have e46 : q.1 46 k = M.1 46 k := f 46 k (by decide) (by decide) (by decide) (by omega) (by omega)
    rw [e46] at e ⊢
    have hb := ((h3.1 k a b).resolve_left e).1.1
    rw [f _ 1 (by omega) (by omega) (by omega) (by omega) (by omega), f 87 (k + 1) (by decide) (by decide) (by decide) (by omega) (by omega)]
    exact (h6.2 k a b).1 e
  · rw [f 46 k (by decide) (by decide) (by decide) (by omega) (by omega), f 111 k (by decide) (by decide) (by decide) (by omega) (by omega)]; exact (h6.2 k a b).2
theorem feed_P (h : INV M) (b0 b1 b2 b3 b4 : Int) : TT (fX10_feed M 0 b0 b1 b2 b3 b4) (fun r => WT r.2 ∧ TT (fX11_feed r.2 85 b0 b1 b2 b3 b4) (fun q => r.1 = q.1 ∧ INV q.2)) := by
  refine (feedX_T h.1 b0 b1 b2 b3 b4).mono (fun r q => ?_)
  have hl := tl_ h.1
  have hn : 0 ≤ (if 580 < M.1 1 1 then M.1 1 1 else M.1 1 1 + 20) ∧ (if 580 < M.1 1 1 then M.1 1 1 else M.1 1 1 + 20) ≤ 600 := by split <;> omega
  have hr : WT r.2 := LC.wt h.1 q.2 hn
  have e87 : r.2.1 87 0 = M.1 1 1 := by rw [q.2.2.2 87 0 (by decide) (by omega)]; exact h.2.2.2.2.2.1.symm
  refine ⟨hr, (feedY_T hr b0 b1 b2 b3 b4).mono (fun u v => ⟨?_, ?_⟩)⟩
  · rw [q.1, v.1, e87]
  · have x := v.2
    rw [e87] at x
    exact (len_P h hn q.2 x).2
theorem end_P (h : INV M) (n : Int) : TT (fX10_end M 0 n) (fun r => WT r.2 ∧ TT (fX11_end r.2 85 n) (fun q => r.1 = q.1 ∧ INV q.2)) := by
  refine (endX_T h.1 n).mono (fun r q => ?_)
  have hl := tl_ h.1
  have hn : 0 ≤ (if 0 ≤ n ∧ n ≤ M.1 1 1 then n else M.1 1 1) ∧ (if 0 ≤ n ∧ n ≤ M.1 1 1 then n else M.1 1 1) ≤ 600 := by split <;> omega
  have hr : WT r.2 := LC.wt h.1 q.2 hn
  have e87 : r.2.1 87 0 = M.1 1 1 := by rw [q.2.2.2 87 0 (by decide) (by omega)]; exact h.2.2.2.2.2.1.symm
  refine ⟨hr, (endY_T hr n).mono (fun u v => ⟨?_, ?_⟩)⟩
  · rw [q.1, v.1, e87]
  · have x := v.2
    rw [e87] at x
    exact (len_P h hn q.2 x).2
theorem text_P (h : INV M) (s a : Int) : TT (fX10_text M 0 s a) (fun r => WT r.2 ∧ TT (fX11_text r.2 85 s a) (fun q => INV q.2)) := by
  obtain ⟨h1, h2, h3, h4, h5, h6⟩ := h
  refine (textX_T h1 h4 s a).mono (fun r q => ⟨q.1, (textY_T q.1 s a).mono (fun u v => ?_)⟩)
  obtain ⟨q1, q2, q3, q4⟩ := q
  obtain ⟨v1, v2, v3⟩ := v
  have f : ∀ x y, (45 < x ∧ x < 47) ∨ x = 79 ∨ 111 ≤ x → u.2.1 x y = M.1 x y := fun x y z => by
    have s : scr x y = false := by
      by_cases e : x = 79
      · rw [e]; rfl
      · exact scr_lo y (by omega) (by omega) (by omega)
    rw [v2.2 x y s (by omega)]
    exact q2.2 x y s (by omega) (by omega) (by omega)
  have e2 : u.2.2 = M.2 := v2.1.trans q2.1
  refine ⟨v1, h2.of (fun y => f 79 y (by omega)), h3.same e2 (fun j => f 46 j (by omega)) (fun x y z => f x y (by omega)), q4.of (fun x y z => v2.2 x y (scr6 z) (by omega)), by rw [e2]; exact h5, ?_, fun k a b => ⟨fun e => ?_, ?_⟩⟩
  · rw [v3.1, v2.2 1 1 rfl (by decide)]; exact q3
  · rw [f 46 k (by omega)] at e ⊢
    have hb := ((h3.1 k a b).resolve_left e).1.1
    rw [f _ 1 (by omega), v3.2 (k + 1) (by omega), q2.2 87 (k + 1) (scr_lo _ (by decide) (by decide) (by decide)) (by decide) (by decide) (by decide)]
    exact (h6.2 k a b).1 e
  · rw [f 46 k (by omega), f 111 k (by omega)]; exact (h6.2 k a b).2
theorem k85 : Keep M (mst M 85 0 0) := Keep.self.st rfl
theorem image_P (h : INV M) (k : Int) : TT (fX10_image M 0 k) (fun r => WT r.2 ∧ TT (fX11_image r.2 85 k) (fun q => r.1 = q.1 ∧ INV q.2)) := by
  have hh := h
  obtain ⟨h1, h2, h3, h4, h5, h6⟩ := h
  refine (imageX_T h1 h3 h5 k).mono (fun r q => ?_)
  rcases q with ⟨hk, q⟩ | ⟨hk, q1, A, b, hA, q2⟩
  · rw [q]
    refine ⟨h1, (imageY_T h1 k).mono (fun u v => ?_)⟩
    rcases v with ⟨_, v⟩ | ⟨w, _⟩
    · rw [v]; exact ⟨rfl, hh.keep k85⟩
    · exact absurd w hk
  · obtain ⟨i1, i2, i3, i4, i5, i6⟩ := image_inv h3 hk hA q2
    refine ⟨i1, (imageY_T i1 k).mono (fun u v => ?_)⟩
    rcases v with ⟨w, _⟩ | ⟨_, v1, B, v2, v3⟩
    · exact absurd hk w
    · refine ⟨by rw [q1, v1], ?_⟩
      have wB : WT B := CPA.wt (i1.keep k85) v2 (by omega)
      have e2 : u.2.2 = r.2.2 := by rw [v3]; exact v2.1
      have fu : ∀ x y, (x < 85 ∨ (95 ≤ x ∧ x ≠ 111)) → u.2.1 x y = r.2.1 x y := fun x y z => by
        rw [v3, mst_ne _ _ _ _ _ _ (by omega), v2.2.1 x y (by omega)]; exact mst_ne _ _ _ _ _ _ (by omega)
      have e87 : ∀ y, u.2.1 87 y = if y = k + 1 then r.2.1 87 0 else r.2.1 87 y := fun y => by
        have e := v2.2.2.2.1 y
        rw [v3, mst_ne _ _ _ _ _ _ (by decide), e, mst_ne _ _ _ _ _ _ (by decide), mst_ne _ _ _ _ _ _ (by decide)]
        by_cases c : y = k + 1
        · rw [if_pos (by omega), if_pos c, show y - 1 * (k + 1) + 1 * 0 = 0 by omega]
        · rw [if_neg (by omega), if_neg c]
      have e111 : ∀ y, u.2.1 111 y = if y = k then 1 else M.1 111 y := fun y => by
        rw [v3, mst_r]
        by_cases c : y = k
        · rw [if_pos ⟨rfl, c⟩, if_pos c]
        · rw [if_neg (fun w => c w.2), if_neg c, v2.2.1 111 y (by decide), mst_ne _ _ _ _ _ _ (by decide)]
          exact i6 111 y (by decide) (by decide)
      have r87 : ∀ y, r.2.1 87 y = M.1 87 y := fun y => i6 87 y (by decide) (by decide)
      refine ⟨by rw [v3]; exact wB.m111 k 1, h2.of (fun y => by rw [fu 79 y (by decide)]; exact i6 79 y (by decide) (by decide)), i2.same e2 (fun j => fu 46 j (by decide)) (fun x y z => fu x y (by omega)), h4.of (fun x y z => by rw [fu x y (by omega)]; exact i6 x y (by omega) (by omega)), by rw [e2]; omega, ?_, fun l a c => ⟨fun e => ?_, ?_⟩⟩
      · rw [fu 1 1 (by decide), e87, if_neg (by omega), i6 1 1 (by decide) (by decide), r87]; exact h6.1
      · rw [fu 46 l (by decide)] at e ⊢
        have hb := ((i2.1 l a c).resolve_left e).1.1
        rw [fu _ 1 (by omega), e87]
        by_cases z : l = k
        · rw [if_pos (by omega), z, i3.1]
          have cp := q2.at (o := 0) (by decide) (by decide) 1
          rw [Int.add_zero, if_pos (show datT 0 1 = true by decide)] at cp
          have a1 : A.1 1 1 = M.1 1 1 := by
            rcases hA.2.2.2.2 with w | w
            · rw [w.1]
            · exact (w.2.2.2 1 (by omega)).2.2 1 (fun z => absurd z.1 (by decide))
          rw [cp, show (1 : Int) + 0 = 1 from rfl, a1, r87]; exact h6.1
        · rw [if_neg (by omega), r87]
          rw [i3.2 l z] at e ⊢
          have hm := (h3.1 l a c).resolve_left e
          -- the other image's block stays
          have st : r.2.1 (M.1 46 l) 1 = M.1 (M.1 46 l) 1 := by
            have dis : M.1 46 l + 45 ≤ b ∨ b + 45 ≤ M.1 46 l := by
              rcases hA.2.2.2.2 with w | w
              · have e5 : M.1 46 k = b := by rw [← w.1]; exact hA.2.2.2.1
                have := h3.2 l k a c hk.1 (by omega) z e w.2
                rw [e5] at this; exact this
              · omega
            rw [q2.2, if_neg (by omega)]
            rcases hA.2.2.2.2 with w | w
            · rw [w.1]
            · exact (w.2.2.2 _ (by omega)).2.2 1 (fun y => by omega)
          rw [st]; exact (h6.2 l a c).1 e
      · rw [fu 46 l (by decide), e111]
        by_cases z : l = k
        · rw [if_pos z, z, i3.1]
          have := hA.2.2.1.1
          constructor
          · intro w; omega
          · intro w; exact absurd w (by decide)
        · rw [if_neg z, i3.2 l z]; exact (h6.2 l a c).2
theorem again_P (h : INV M) (k : Int) : TT (fX10_again M 0 k) (fun r => WT r.2 ∧ TT (fX11_again r.2 85 k) (fun q => r.1 = q.1 ∧ INV q.2)) := by
  have hh := h
  obtain ⟨h1, h2, h3, h4, h5, h6⟩ := h
  refine (againX_T h1 h3 k).mono (fun r q => ?_)
  rcases q with ⟨hk, q⟩ | ⟨⟨hk, hne⟩, q1, q2⟩
  · rw [q]
    refine ⟨h1, (againY_T h1 k).mono (fun u v => ?_)⟩
    rcases v with ⟨_, v⟩ | ⟨w, _⟩
    · rw [v]; exact ⟨rfl, hh.keep k85⟩
    · exact absurd ⟨w.1, fun e => w.2 ((h6.2 k w.1.1 (by omega)).2.mp e)⟩ hk
  · obtain ⟨b1, b2, b3⟩ := (h3.1 k hk.1 (by omega)).resolve_left hne
    have wr : WT r.2 := CPS.wt h1 b1.1 b3 q2
    have fr : ∀ x y, (x < 1 ∨ 46 ≤ x) → r.2.1 x y = M.1 x y := fun x y z => by rw [q2.2, if_neg (by omega)]
    have e111 : M.1 111 k ≠ 0 := fun e => hne ((h6.2 k hk.1 (by omega)).2.mpr e)
    refine ⟨wr, (againY_T wr k).mono (fun u v => ?_)⟩
    rw [fr 111 k (by decide)] at v
    rcases v with ⟨w, _⟩ | ⟨_, v1, v2⟩
    · exact absurd ⟨hk, e111⟩ w
    · refine ⟨by rw [q1, v1], ?_⟩
      have e2 : u.2.2 = M.2 := v2.1.trans q2.1
      have fu : ∀ x y, (x < 85 ∨ 95 ≤ x) → u.2.1 x y = r.2.1 x y := fun x y z => by
        rw [v2.2.1 x y (by omega)]; exact mst_ne _ _ _ _ _ _ (by omega)
      have e87 : ∀ y, u.2.1 87 y = if y = 0 then M.1 87 (k + 1) else M.1 87 y := fun y => by
        have e := v2.2.2.2.1 y
        rw [e, mst_ne _ _ _ _ _ _ (by decide), mst_ne _ _ _ _ _ _ (by decide), fr 87 _ (by decide), fr 87 _ (by decide)]
        by_cases c : y = 0
        · rw [if_pos (by omega), if_pos c, show y - 1 * 0 + 1 * (k + 1) = k + 1 by omega]
        · rw [if_neg (by omega), if_neg c]
      have both : ∀ x y, (46 ≤ x ∧ x < 85) ∨ 95 ≤ x → u.2.1 x y = M.1 x y := fun x y z => by rw [fu x y (by omega), fr x y (by omega)]
      refine ⟨CPA.wt (wr.keep k85) v2 (by omega), h2.of (fun y => both 79 y (by decide)), h3.same e2 (fun j => both 46 j (by decide)) (fun x y z => both x y (by omega)), h4.of (fun x y z => both x y (by omega)), by rw [e2]; exact h5, ?_, fun l a c => ⟨fun e => ?_, ?_⟩⟩
      · rw [fu 1 1 (by decide), e87, if_pos rfl]
        have cp := q2.at (o := 0) (by decide) (by decide) 1
        rw [if_pos (show datT 0 1 = true by decide), Int.add_zero, Int.add_zero] at cp
        rw [cp]; exact (h6.2 k hk.1 (by omega)).1 hne
      · rw [both 46 l (by decide)] at e ⊢
        have hb := ((h3.1 l a c).resolve_left e).1.1
        rw [both _ 1 (by omega), e87, if_neg (by omega)]; exact (h6.2 l a c).1 e
      · rw [both 46 l (by decide), both 111 l (by decide)]; exact (h6.2 l a c).2
/-! the fresh object -/
def rowsB (M : Mem) (l : L5) : Bool := l.all fun p => (List.range (p.2.2.1 - p.2.1 + 1).toNat).all fun n => decide (p.2.2.2.1 ≤ M.1 p.1 (p.2.1 + n)) && decide (M.1 p.1 (p.2.1 + n) ≤ p.2.2.2.2)
theorem rowsB_ok {l : L5} (h : rowsB M l = true) : rows M l := by
  intro p hp i a b
  have g := List.all_eq_true.mp (List.all_eq_true.mp h p hp) (i - p.2.1).toNat (List.mem_range.mpr (by omega))
  simp only [Bool.and_eq_true, decide_eq_true_eq] at g
  rw [show p.2.1 + (((i - p.2.1).toNat : Nat) : Int) = i by omega] at g
  exact g
def FRL : L5 := [(90, 0, 15, 0, 0), (93, 0, 1287, 0, 0), (64, 0, 7, 0, 5), (65, 0, 7, 0, 4)]
def startI : Bool := match fX10_init (mnew MZ 9 6) 0 with
  | none => false
  | some r => match fX11_init (mnew r 10 51) 85 with
    | none => false
    | some M => rowsB M RGL && rowsB M FRL
theorem startI_ok : startI = true := by decide +kernel
theorem start_inv {r4 r10 : Mem} (h4 : fX10_init (mnew MZ 9 6) 0 = some r4) (h10 : fX11_init (mnew r4 10 51) 85 = some r10) (hS : Shp r10) (hF : Frs r10) (hn : r10.2.2.2 = 112) : INV r10 := by
  have h := startI_ok
  unfold startI at h
  rw [h4] at h
  simp only at h
  rw [h10] at h
  simp only [Bool.and_eq_true] at h
  have g1 := rowsB_ok h.1
  have g2 := rowsB_ok h.2
  have z90 : ∀ i, 0 ≤ i → i ≤ 15 → r10.1 90 i = 0 := fun i a b => by
    have := rows_at (p := (90, 0, 15, 0, 0)) g2 0 rfl a b
    dsimp only at this; omega
  have z93 : ∀ i, 0 ≤ i → i ≤ 1287 → r10.1 93 i = 0 := fun i a b => by
    have := rows_at (p := (93, 0, 1287, 0, 0)) g2 1 rfl a b
    dsimp only at this; omega
  have hW : WT r10 := ⟨hS, g1, fun l k l0 l4 k0 k2 => ⟨fun e => by rw [z90 _ (by omega) (by omega)] at e; omega, fun e => by rw [z90 _ (by omega) (by omega)] at e; omega⟩, fun q j q0 q8 j0 j4 _ => by rw [z93 _ (by omega) (by omega)]; decide⟩
  have e46 : ∀ k, 0 ≤ k → k < 3 → r10.1 46 k = -1 ∧ r10.1 111 k = 0 := fun k a b => by
    rcases (show k = 0 ∨ k = 1 ∨ k = 2 by omega) with rfl | rfl | rfl
    · exact ⟨fr46_0 hF, fr111_0 hF⟩
    · exact ⟨fr46_1 hF, fr111_1 hF⟩
    · exact ⟨fr46_2 hF, fr111_2 hF⟩
  refine ⟨hW, ?_, ⟨fun k a b => Or.inl (e46 k a b).1, fun k l a b _ _ _ z => absurd (e46 k a b).1 z⟩, ⟨fun y a b => rows_at (p := (64, 0, 7, 0, 5)) g2 2 rfl a (by dsimp only; omega), fun y a b => rows_at (p := (65, 0, 7, 0, 4)) g2 3 rfl a (by dsimp only; omega)⟩, by rw [hn]; decide, ?_, fun k a b => ⟨fun e => absurd (e46 k a b).1 e, ?_⟩⟩
  · unfold SC
    rw [fr79_0 hF, fr79_1 hF]; exact Or.inl ⟨rfl, rfl⟩
  · rw [fr1_1 hF, fr87_0 hF]
  · rw [(e46 k a b).1, (e46 k a b).2]; exact ⟨fun _ => rfl, fun _ => rfl⟩
end Inv
