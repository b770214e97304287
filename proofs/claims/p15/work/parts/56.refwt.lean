/-! the reference: what is kept leaves the told cells in their ranges -/
section RefW2
variable {M : Mem}
theorem PL_lo : (PL.all fun p => decide (p.1 < 86)) = true := by decide +kernel
theorem WT.refU {M N : Mem} (h : WT M) (e2 : N.2 = M.2) (hx : ∀ x y, (x < 86 ∨ 95 ≤ x) → scr x y = false → N.1 x y = M.1 x y) (hr : ∀ p ∈ RGL, 86 ≤ p.1 → p.1 < 95 → ∀ i, p.2.1 ≤ i → i ≤ p.2.2.1 → p.2.2.2.1 ≤ N.1 p.1 i ∧ N.1 p.1 i ≤ p.2.2.2.2) (hc : CF N) : WT N := by
  refine ⟨⟨?_, ?_⟩, fun p hp i a b => ?_, hc⟩
  · have := h.1.1
    unfold kinds at *; rw [e2]; exact this
  · have g0 := h.1.2
    unfold hold at *
    rw [List.all_eq_true] at *
    intro p hp
    have g1 := g0 p hp
    have g2 := List.all_eq_true.mp PL_keep p hp
    have g3 := List.all_eq_true.mp PL_lo p hp
    simp only [decide_eq_true_eq] at g1 g3 ⊢
    rw [hx _ _ (Or.inl g3) (by simpa using g2), g1]
  · have g := List.all_eq_true.mp RGL_keep p hp
    simp only [Bool.and_eq_true, decide_eq_true_eq] at g
    by_cases c : 86 ≤ p.1 ∧ p.1 < 95
    · exact hr p hp c.1 c.2 i a b
    · rw [hx _ _ (by omega) (scr_lo _ g.1.1 g.1.2 g.2)]; exact h.2.1 p hp i a b
def DTL : L5 := [(95, 0, 0, 1, 6), (95, 1, 1, 0, 4), (95, 2, 67, 0, 9), (95, 68, 73, 0, 5), (95, 74, 83, 0, 9), (95, 84, 87, 0, 9), (95, 88, 91, (-1), 3)]
def DNL : L5 := [(95, 0, 0, 0, 40)]
def DSL : L5 := [(95, 0, 0, 0, 8), (95, 1, 1, 0, 5), (95, 2, 2, 0, 4), (95, 3, 3, 0, 5), (95, 4, 4, 0, 4), (95, 5, 5, 0, 5), (95, 6, 6, 0, 4), (95, 7, 7, 0, 5), (95, 8, 8, 0, 4), (95, 9, 9, 0, 5), (95, 10, 10, 0, 4), (95, 11, 11, 0, 5), (95, 12, 12, 0, 4), (95, 13, 13, 0, 5), (95, 14, 14, 0, 4), (95, 15, 15, 0, 5), (95, 16, 16, 0, 4)]
theorem DT.rows {M : Mem} (d : DT M) (h : M.1 85 17 = 0) : rows M DTL := by
  obtain ⟨d1, d2, d3⟩ := d
  obtain ⟨d4, d5⟩ := d3 h
  intro p hp i a b
  simp only [DTL, List.mem_cons, List.not_mem_nil, or_false] at hp
  have k : ∀ i lo hi : Int, 2 ≤ i → i ≤ 91 → ¬(84 ≤ i ∧ i ≤ 87) → lo = dlo i → dhi i = hi → lo ≤ M.1 95 i ∧ M.1 95 i ≤ hi := fun i lo hi a b c e1 e2 => by rw [e1, ← e2]; exact d2 i a b c
  rcases hp with rfl | rfl | rfl | rfl | rfl | rfl | rfl
  · rw [show i = 0 by dsimp only at a b; omega]; exact d4
  · rw [show i = 1 by dsimp only at a b; omega]; exact d1
  · dsimp only at a b
    exact k i 0 9 (by omega) (by omega) (by omega) (by unfold dlo; rw [if_neg (by omega)]) (by unfold dhi; rw [if_neg (by omega), if_neg (by omega)])
  · dsimp only at a b
    exact k i 0 5 (by omega) (by omega) (by omega) (by unfold dlo; rw [if_neg (by omega)]) (by unfold dhi; rw [if_neg (by omega), if_pos (by omega)])
  · dsimp only at a b
    exact k i 0 9 (by omega) (by omega) (by omega) (by unfold dlo; rw [if_neg (by omega)]) (by unfold dhi; rw [if_neg (by omega), if_neg (by omega)])
  · exact d5 i a b
  · dsimp only at a b
    exact k i (-1) 3 (by omega) (by omega) (by omega) (by unfold dlo; rw [if_pos (by omega)]) (by unfold dhi; rw [if_pos (by omega)])
theorem DN.rows {M : Mem} (d : DN M) : rows M DNL := by
  intro p hp i a b
  simp only [DNL, List.mem_cons, List.not_mem_nil, or_false] at hp
  subst hp
  rw [show i = 0 by dsimp only at a b; omega]; exact d.1
theorem DSL_at : (DSL.all fun p => decide (p.1 = 95) && decide (p.2.1 = p.2.2.1) && ((decide (p.2.1 = 0) && decide (p.2.2.2 = (0, 8))) || (decide (1 ≤ p.2.1 ∧ p.2.1 ≤ 15 ∧ (p.2.1 - 1) % 2 = 0) && decide (p.2.2.2 = (0, 5))) || (decide (2 ≤ p.2.1 ∧ p.2.1 ≤ 16 ∧ p.2.1 % 2 = 0) && decide (p.2.2.2 = (0, 4))))) = true := by decide +kernel
theorem DS.rows {M : Mem} (d : DS M) (h : M.1 85 17 = 0) : rows M DSL := by
  intro p hp i a b
  have g := List.all_eq_true.mp DSL_at p hp
  simp only [Bool.and_eq_true, Bool.or_eq_true, decide_eq_true_eq] at g
  obtain ⟨⟨g1, g2⟩, g3⟩ := g
  obtain ⟨p1, p2, p3, p4, p5⟩ := p
  simp only [Prod.mk.injEq] at g1 g2 g3 a b ⊢
  rw [g1]
  have e : i = p2 := by omega
  rcases g3 with (⟨z, e1, e2⟩ | ⟨z, e1, e2⟩) | ⟨z, e1, e2⟩
  · rw [e1, e2, e, z]; exact d.1
  · have := (d.2 h ((p2 - 1) / 2) (by omega) (by omega)).1
    rw [show 1 + 2 * ((p2 - 1) / 2) = p2 by omega] at this
    rw [e1, e2, e]; exact this
  · have := (d.2 h ((p2 - 2) / 2) (by omega) (by omega)).2
    rw [show 2 + 2 * ((p2 - 2) / 2) = p2 by omega] at this
    rw [e1, e2, e]; exact this
theorem b0_0 : blkB RGL DTL 91 95 0 92 0 = true := by decide +kernel
theorem b0_1 : blkB RGL DTL 91 95 92 92 0 = true := by decide +kernel
theorem b2_0 : blkB RGL DNL 93 95 0 161 0 = true := by decide +kernel
theorem b2_1 : blkB RGL DNL 93 95 161 161 0 = true := by decide +kernel
theorem b3_0 : blkB RGL DSL 94 95 0 47 0 = true := by decide +kernel
theorem b3_1 : blkB RGL DSL 94 95 47 47 0 = true := by decide +kernel
theorem rows90 {M : Mem} (h : WT M) {N : Mem} {s m : Int} (hm : 0 ≤ m ∧ m ≤ 2) (h90 : ∀ y, N.1 90 y = if y = s then m else M.1 90 y) {p : Int × Int × Int × Int × Int} (hp : p ∈ RGL) (e : p.1 = 90) (i : Int) (a : p.2.1 ≤ i) (b : i ≤ p.2.2.1) : p.2.2.2.1 ≤ N.1 p.1 i ∧ N.1 p.1 i ≤ p.2.2.2.2 := by
  have g : (RGL.all fun p => decide (p.1 ≠ 90) || decide (p.2.2.2 = (0, 2))) = true := by decide +kernel
  have g1 := List.all_eq_true.mp g p hp
  simp only [Bool.or_eq_true, decide_eq_true_eq] at g1
  have g2 := g1.resolve_left (fun z => z e)
  rw [e, h90, g2]
  by_cases q : i = s
  · rw [if_pos q]; exact hm
  · rw [if_neg q]
    have := h.2.1 p hp i a b
    rw [e, g2] at this; exact this
theorem WT.kept {M N : Mem} (h : WT M) {s c k m : Int} {L' : L5} {W : Int} (hs : 0 ≤ s) (hcs : c = 91 + s) (s3 : s ≤ 3) (hm : 0 ≤ m ∧ m ≤ 2) (e2 : N.2 = M.2) (h90 : ∀ y, N.1 90 y = if y = s then m else M.1 90 y) (hc : ∀ y, N.1 c y = if W * k ≤ y ∧ y < W * k + W then M.1 95 (y - W * k) else M.1 c y) (hfr : ∀ x y, x ≠ 90 → x ≠ c → N.1 x y = M.1 x y)
    (hL : rows M L') (chk : blkB RGL L' c 95 (W * k) W 0 = true) (hCF : CF N) : WT N := by
  refine h.refU e2 (fun x y q _ => hfr x y (by omega) (by omega)) (fun p hp a b => ?_) hCF
  by_cases q1 : p.1 = 90
  · exact rows90 h hm h90 hp q1
  · by_cases q2 : p.1 = c
    · exact rows_blk (lo := W * k) (sh := 0) h.2.1 hL (fun y => by rw [hc y, Int.add_zero]) chk hp q2
    · intro i i1 i2
      rw [hfr _ _ q1 q2]; exact h.2.1 p hp i i1 i2
section Kept
variable {N : Mem} {k m : Int}
theorem kept0 (h : WT M) (hk : k = 0 ∨ k = 1) (hm : 0 ≤ m ∧ m ≤ 2) (hj : ∀ j, 0 ≤ j → j < m → j ≠ k → j < M.1 90 0) (e2 : N.2 = M.2) (h90 : ∀ y, N.1 90 y = if y = 0 then m else M.1 90 y) (hc : ∀ y, N.1 91 y = if 92 * k ≤ y ∧ y < 92 * k + 92 then M.1 95 (y - 92 * k) else M.1 91 y) (hfr : ∀ x y, x ≠ 90 → x ≠ 91 → N.1 x y = M.1 x y) (d : DT M) (h17 : M.1 85 17 = 0) : WT N := by
  have hL := d.rows h17
  have hCF : CF N := by
    refine ⟨fun l j l0 l4 j0 j2 => ⟨fun q => ?_, fun q => ?_⟩, fun q j q0 q8 j0 j4 => ?_⟩
    · rw [h90] at q
      rw [hc]
      by_cases c : l = 0 ∧ j = k
      · rw [if_pos (by omega), show 184 * l + 92 * j - 92 * k = 0 by omega]; exact (d.2.2 h17).1.1
      · rw [if_neg (by omega)]
        by_cases c2 : l = 0
        · subst c2
          rw [if_pos (by decide)] at q
          exact (h.2.2.1 0 j (by decide) (by decide) j0 j2).1 (hj j j0 q (by omega))
        · rw [if_neg (by omega)] at q; exact (h.2.2.1 l j l0 l4 j0 j2).1 q
    · rw [h90, if_neg (by omega)] at q
      rw [hfr 92 _ (by decide) (by decide)]; exact (h.2.2.1 l j l0 l4 j0 j2).2 q
    · rw [hfr 93 _ (by decide) (by decide), hfr 93 _ (by decide) (by decide)]; exact h.2.2.2 q j q0 q8 j0 j4
  refine h.kept (s := 0) (c := 91) (L' := DTL) (W := 92) (k := k) (by decide) rfl (by decide) hm e2 h90 hc hfr hL ?_ hCF
  rcases hk with rfl | rfl
  · exact b0_0
  · exact b0_1
theorem kept1 (h : WT M) (hk : k = 0 ∨ k = 1) (hm : 0 ≤ m ∧ m ≤ 2) (hj : ∀ j, 0 ≤ j → j < m → j ≠ k → j < M.1 90 1) (e2 : N.2 = M.2) (h90 : ∀ y, N.1 90 y = if y = 1 then m else M.1 90 y) (hc : ∀ y, N.1 92 y = if 3 * k ≤ y ∧ y < 3 * k + 3 then M.1 95 (y - 3 * k) else M.1 92 y) (hfr : ∀ x y, x ≠ 90 → x ≠ 92 → N.1 x y = M.1 x y) (d : DL M) (h17 : M.1 85 17 = 0) : WT N := by
  have hCF : CF N := by
    refine ⟨fun l j l0 l4 j0 j2 => ⟨fun q => ?_, fun q => ?_⟩, fun q j q0 q8 j0 j4 => ?_⟩
    · rw [h90, if_neg (by omega)] at q
      rw [hfr 91 _ (by decide) (by decide)]; exact (h.2.2.1 l j l0 l4 j0 j2).1 q
    · rw [h90] at q
      rw [hc]
      by_cases c : l = 0 ∧ j = k
      · rw [if_pos (by omega), show 6 * l + 3 * j - 3 * k = 0 by omega]; exact d h17
      · rw [if_neg (by omega)]
        by_cases c2 : l = 0
        · subst c2
          rw [if_pos (by decide)] at q
          exact (h.2.2.1 0 j (by decide) (by decide) j0 j2).2 (hj j j0 q (by omega))
        · rw [if_neg (by omega)] at q; exact (h.2.2.1 l j l0 l4 j0 j2).2 q
    · rw [hfr 93 _ (by decide) (by decide), hfr 93 _ (by decide) (by decide)]; exact h.2.2.2 q j q0 q8 j0 j4
  refine h.refU e2 (fun x y q _ => hfr x y (by omega) (by omega)) (fun p hp a b => ?_) hCF
  by_cases q1 : p.1 = 90
  · exact rows90 h hm h90 hp q1
  · intro i i1 i2
    have g : (RGL.all fun p => decide (p.1 ≠ 92)) = true := by decide +kernel
    have g1 := List.all_eq_true.mp g p hp
    simp only [decide_eq_true_eq] at g1
    rw [hfr _ _ q1 g1]; exact h.2.1 p hp i i1 i2
theorem kept2 (h : WT M) (hk : k = 0 ∨ k = 1) (hm : 0 ≤ m ∧ m ≤ 2) (e2 : N.2 = M.2) (h90 : ∀ y, N.1 90 y = if y = 2 then m else M.1 90 y) (hc : ∀ y, N.1 93 y = if 161 * k ≤ y ∧ y < 161 * k + 161 then M.1 95 (y - 161 * k) else M.1 93 y) (hfr : ∀ x y, x ≠ 90 → x ≠ 93 → N.1 x y = M.1 x y) (d : DN M) (h17 : M.1 85 17 = 0) : WT N := by
  have hCF : CF N := by
    refine ⟨fun l j l0 l4 j0 j2 => ⟨fun q => ?_, fun q => ?_⟩, fun q j q0 q8 j0 j4 => ?_⟩
    · rw [h90, if_neg (by omega)] at q
      rw [hfr 91 _ (by decide) (by decide)]; exact (h.2.2.1 l j l0 l4 j0 j2).1 q
    · rw [h90, if_neg (by omega)] at q
      rw [hfr 92 _ (by decide) (by decide)]; exact (h.2.2.1 l j l0 l4 j0 j2).2 q
    · rw [hc, hc]
      by_cases c : q = k
      · rw [if_pos (by omega), if_pos (by omega), show 161 * q + 1 + 4 * j - 161 * k = 1 + 4 * j by omega, show 161 * q + 4 + 4 * j - 161 * k = 4 + 4 * j by omega]
        exact d.2 h17 j j0 j4
      · rw [if_neg (by omega), if_neg (by omega)]; exact h.2.2.2 q j q0 q8 j0 j4
  refine h.kept (s := 2) (c := 93) (L' := DNL) (W := 161) (k := k) (by decide) rfl (by decide) hm e2 h90 hc hfr d.rows ?_ hCF
  rcases hk with rfl | rfl
  · exact b2_0
  · exact b2_1
theorem kept3 (h : WT M) (hk : k = 0 ∨ k = 1) (hm : 0 ≤ m ∧ m ≤ 2) (e2 : N.2 = M.2) (h90 : ∀ y, N.1 90 y = if y = 3 then m else M.1 90 y) (hc : ∀ y, N.1 94 y = if 47 * k ≤ y ∧ y < 47 * k + 47 then M.1 95 (y - 47 * k) else M.1 94 y) (hfr : ∀ x y, x ≠ 90 → x ≠ 94 → N.1 x y = M.1 x y) (d : DS M) (h17 : M.1 85 17 = 0) : WT N := by
  have hCF : CF N := by
    refine ⟨fun l j l0 l4 j0 j2 => ⟨fun q => ?_, fun q => ?_⟩, fun q j q0 q8 j0 j4 => ?_⟩
    · rw [h90, if_neg (by omega)] at q
      rw [hfr 91 _ (by decide) (by decide)]; exact (h.2.2.1 l j l0 l4 j0 j2).1 q
    · rw [h90, if_neg (by omega)] at q
      rw [hfr 92 _ (by decide) (by decide)]; exact (h.2.2.1 l j l0 l4 j0 j2).2 q
    · rw [hfr 93 _ (by decide) (by decide), hfr 93 _ (by decide) (by decide)]; exact h.2.2.2 q j q0 q8 j0 j4
  refine h.kept (s := 3) (c := 94) (L' := DSL) (W := 47) (k := k) (by decide) rfl (by decide) hm e2 h90 hc hfr (d.rows h17) ?_ hCF
  rcases hk with rfl | rfl
  · exact b3_0
  · exact b3_1
end Kept
def RX (M N : Mem) : Prop := N.2 = M.2 ∧ ∀ x y, scr x y = false → (x < 86 ∨ 95 ≤ x) → N.1 x y = M.1 x y
theorem Keep.rx {M N : Mem} (h : Keep M N) : RX M N := ⟨h.1, fun x y q _ => h.2 x y q⟩
theorem RX.trans {M N O : Mem} (h : RX M N) (g : RX N O) : RX M O := ⟨g.1.trans h.1, fun x y q z => (g.2 x y q z).trans (h.2 x y q z)⟩
theorem RX.st {M N : Mem} (h : RX M N) {a i v : Int} (ha : 86 ≤ a) (hb : a < 95) : RX M (mst N a i v) := ⟨h.1, fun x y q z => by rw [mst_ne _ _ _ _ _ _ (by omega)]; exact h.2 x y q z⟩
theorem r87 : (RGL.all fun p => decide (p.1 ≠ 87) || (decide (p.2.2.2.1 ≤ 0) && decide (0 ≤ p.2.2.2.2))) = true := by decide +kernel
theorem f87 : freeOf PL 87 0 = true := by decide +kernel
/-- of the reference's tapes: the length of the one told now is n, those of the images are as they were -/
def LenQ (n : Int) (M N : Mem) : Prop := N.1 87 0 = n ∧ ∀ y, y ≠ 0 → N.1 87 y = M.1 87 y
theorem len_ (h : WT M) {i : Int} (h1 : 0 ≤ i) (h2 : i ≤ 3) : 0 ≤ M.1 87 i ∧ M.1 87 i ≤ 600 := rows_at (p := (87, 0, 3, 0, 600)) h.2.1 36 rfl h1 h2
set_option maxHeartbeats 1000000 in
theorem textY_T (hT : WT M) (s a : Int) : TT (fX11_text M 85 s a) (fun r => WT r.2 ∧ RX M r.2 ∧ LenQ 0 M r.2) := by
  unfold fX11_text
  refine TT.guard (wk85 hT) (TT.sM ?_)
  rw [show (mst M 85 0 0).1 85 2 = 87 from (wp85_2 hT : M.1 85 2 = 87)]
  refine TT.guard ⟨(wk87 hT : M.2.1 87 = 12), by decide, by show 0 < M.2.2.1 87; rw [wl87 hT]; decide⟩ (TT.sM ?_)
  have hK5 : Keep M (mst (mst M 85 0 0) 85 11 ((mst M 85 0 0).1 87 0)) := (Keep.self.st rfl).st rfl
  have e11 : (mst (mst M 85 0 0) 85 11 ((mst M 85 0 0).1 87 0)).1 85 11 = M.1 87 0 := rfl
  generalize mst (mst M 85 0 0) 85 11 ((mst M 85 0 0).1 87 0) = M5 at *
  have hT5 := hT.keep hK5
  rw [wp85_2 hT5]
  refine TT.guard ⟨wk87 hT5, by decide, by rw [wl87 hT5]; decide⟩ (TT.sM ?_)
  have hT8 : WT (mst M5 87 0 0) := hT5.mst' f87 r87 (by decide)
  rw [wp85_3 hT8]
  refine TT.guard ⟨wk88 hT8, by decide, by rw [wl88 hT8]; decide⟩ (TT.sM ?_)
  have hT11 : WT (mst (mst M5 87 0 0) 88 0 0) := hT8.mst' f88 (r88 _) (by decide)
  rw [wp85_4 hT11]
  refine TT.guard ⟨wk89 hT11, by decide, by rw [wl89 hT11]; decide⟩ (TT.sM ?_)
  have hT14 : WT (mst (mst (mst M5 87 0 0) 88 0 0) 89 0 (-1)) := hT11.mst' f89 (r89 _) (by decide)
  have hR14 : RX M (mst (mst (mst M5 87 0 0) 88 0 0) 89 0 (-1)) := ((hK5.rx.st (by decide) (by decide)).st (by decide) (by decide)).st (by decide) (by decide)
  have hl14 : (mst (mst (mst M5 87 0 0) 88 0 0) 89 0 (-1)).1 85 11 = M.1 87 0 := e11
  have hq14 : LenQ 0 M (mst (mst (mst M5 87 0 0) 88 0 0) 89 0 (-1)) := ⟨rfl, fun y hy => by
    rw [mst_ne _ _ _ _ _ _ (by decide), mst_ne _ _ _ _ _ _ (by decide), mst_nf _ _ _ _ _ _ hy]
    exact hK5.2 87 y (scr_lo _ (by decide) (by decide) (by decide))⟩
  generalize mst (mst (mst M5 87 0 0) 88 0 0) 89 0 (-1) = A at *
  refine TT.bind (in_T _ _ _) (fun r16 q16 => TT.ite (fun _ => TT.ok ⟨hT14, hR14, hq14⟩) (fun c16 => ?_))
  have g16 := q16.use c16
  have hmany := mn_ hT14 (i := s) (by omega) (by omega)
  rw [wp85_5 hT14]
  refine TT.join (fun _ => (a = -1 ∧ A.1 90 s < 2) ∨ (0 ≤ a ∧ a < A.1 90 s)) (fun _ ha => ?_) (fun j hj => TT.ite (fun e => TT.guard ⟨wk90 hT14, by omega, by rw [wl90 hT14]; omega⟩ (TT.ite (fun _ => TT.ok ⟨hT14, hR14, hq14⟩) (fun c => hj () (Or.inl ⟨e, by omega⟩)))) (fun e => TT.bind (is_T hT14 a (by omega) (by omega)) (fun r42 q42 => TT.ite (fun _ => TT.ok ⟨hT14, hR14, hq14⟩) (fun c => hj () (Or.inr (by have := q42.use c; omega))))))
  have hlen := len_ hT (i := 0) (by decide) (by decide)
  refine TT.bind (readText_T hT14 (by rw [hl14]; exact hlen) (s := s) (by omega) (by omega)) (fun r q => ?_)
  obtain ⟨_, qR, qD⟩ := q
  have hTr := RTQ.wt hT14 qR
  have hRr : RX M r.2 := hR14.trans ⟨qR.1, fun x y c z => qR.2 x y c (by omega) (by omega)⟩
  have e87 : ∀ y, r.2.1 87 y = A.1 87 y := fun y => qR.2 87 y (scr_lo _ (by decide) (by decide) (by decide)) (by omega) (by omega)
  have e90 : ∀ y, r.2.1 90 y = A.1 90 y := fun y => qR.2 90 y (scr_lo _ (by decide) (by decide) (by decide)) (by omega) (by omega)
  have hqr : LenQ 0 M r.2 := ⟨(e87 0).trans hq14.1, fun y hy => (e87 y).trans (hq14.2 y hy)⟩
  refine TT.ite (fun _ => TT.ok ⟨hTr, hRr, hqr⟩) (fun c => ?_)
  obtain ⟨hd, h17⟩ := qD c
  have g90 : r.2.2.1 90 = 12 ∧ (0 : Int) ≤ s ∧ s < r.2.2.2.1 90 := ⟨wk90 hTr, by omega, by rw [wl90 hTr]; omega⟩
  rw [wp85_5 hTr]
  refine TT.join (fun k : Int => (k = 0 ∨ k = 1) ∧ ((a = -1 ∧ k = A.1 90 s) ∨ (a ≠ -1 ∧ k < A.1 90 s))) (fun k hk => ?_) (fun j hj => TT.ite (fun e => TT.guard (wk85 hTr) (TT.guard g90 (hj _ (by rw [e90]; omega)))) (fun e => hj _ (by omega)))
  refine TT.guard (wk85 hTr) (TT.guard g90 ?_)
  refine TT.join (fun t : Int => (a = -1 ∧ t = 1) ∨ (a ≠ -1 ∧ t = 0)) (fun t ht => TT.guard g90 (TT.sM ?_)) (fun j hj => TT.ite (fun e => hj _ (Or.inl ⟨e, rfl⟩)) (fun e => hj _ (Or.inr ⟨e, rfl⟩)))
  rw [e90, w32_of (x := A.1 90 s + t) (by omega) (by omega)]
  generalize hm : A.1 90 s + t = m at *
  have hm2 : 0 ≤ m ∧ m ≤ 2 := by omega
  have hj : ∀ j, 0 ≤ j → j < m → j ≠ k → j < r.2.1 90 s := fun j _ _ _ => by rw [e90]; omega
  have hS : Shp (mst r.2 90 s m) := hTr.1.mst _ (by
    rw [freeOf, List.all_eq_true]
    intro p hp
    have g3 := List.all_eq_true.mp PL_lo p hp
    simp only [decide_eq_true_eq] at g3
    rw [decide_eq_false (show ¬ p.1 = 90 by omega)]; rfl)
  have n90 : ∀ y, (mst r.2 90 s m).1 90 y = if y = s then m else r.2.1 90 y := fun y => by
    rw [mst_r]
    by_cases z : y = s
    · rw [if_pos ⟨rfl, z⟩, if_pos z]
    · rw [if_neg (fun w => z w.2), if_neg z]
  have fin : ∀ (c W : Int), 91 ≤ c → c ≤ 94 → r.2.2.1 c = 12 → W * 2 ≤ r.2.2.2.1 c → 0 ≤ W → W ≤ 161 → (∀ N : Mem, N.2 = r.2.2 → (∀ y, N.1 90 y = if y = s then m else r.2.1 90 y) → (∀ y, N.1 c y = if W * k ≤ y ∧ y < W * k + W then r.2.1 95 (y - W * k) else r.2.1 c y) → (∀ x y, x ≠ 90 → x ≠ c → N.1 x y = r.2.1 x y) → WT N) → TT (fX11_store (mst r.2 90 s m) 85 c W k) (fun N => WT N ∧ RX M N ∧ LenQ 0 M N) := by
    intro c W c1 c2 kc lc W0 W1 hN
    have hWk : 0 ≤ W * k ∧ W * k ≤ W := by
      rcases hk.1 with e | e
      · rw [e]; omega
      · rw [e]; omega
    refine (store_T (a := c) (w := W) (k := k) hS kc (by omega) (by omega) W0 W1 hWk.1 (by show W * k + W ≤ r.2.2.2.1 c; omega) (by omega)).mono (fun N q => ⟨hN N q.1 (fun y => ?_) (fun y => ?_) (fun x y z1 z2 => ?_), ⟨q.1.trans hRr.1, fun x y z1 z2 => ?_⟩, ?_, fun y hy => ?_⟩)
    · rw [q.2.1 90 y (by omega), n90]
    · rw [q.2.2 y, mst_ne _ _ _ _ _ _ (by decide), mst_ne _ _ _ _ _ _ (by omega)]
    · rw [q.2.1 x y z2, mst_ne _ _ _ _ _ _ z1]
    · rw [q.2.1 x y (by omega), mst_ne _ _ _ _ _ _ (by omega)]; exact hRr.2 x y z1 z2
    · rw [q.2.1 87 0 (by omega), mst_ne _ _ _ _ _ _ (by decide)]; exact hqr.1
    · rw [q.2.1 87 y (by omega), mst_ne _ _ _ _ _ _ (by decide)]; exact hqr.2 y hy
  refine TT.bind (P := fun N => WT N ∧ RX M N ∧ LenQ 0 M N) ?_ (fun N q => TT.ok q)
  unfold fX11_storeAll
  rw [sp85_6 hS, sp85_7 hS, sp85_8 hS, sp85_9 hS]
  refine TT.ite (fun e => ?_) (fun e0 => TT.ite (fun e => ?_) (fun e1 => TT.ite (fun e => ?_) (fun e2 => ?_)))
  · subst e
    exact TT.guard (sk85 hS) (TT.bind (fin 91 92 (by decide) (by decide) (wk91 hTr) (by rw [wl91 hTr]; decide) (by decide) (by decide) (fun N a1 a2 a3 a4 => kept0 hTr hk.1 hm2 hj a1 a2 a3 a4 (hd.1 rfl) h17)) (fun N q => TT.ok q))
  · subst e
    exact TT.guard (sk85 hS) (TT.bind (fin 92 3 (by decide) (by decide) (wk92 hTr) (by rw [wl92 hTr]; decide) (by decide) (by decide) (fun N a1 a2 a3 a4 => kept1 hTr hk.1 hm2 hj a1 a2 a3 a4 (hd.2.1 rfl) h17)) (fun N q => TT.ok q))
  · subst e
    exact TT.guard (sk85 hS) (TT.bind (fin 93 161 (by decide) (by decide) (wk93 hTr) (by rw [wl93 hTr]; decide) (by decide) (by decide) (fun N a1 a2 a3 a4 => kept2 hTr hk.1 hm2 a1 a2 a3 a4 (hd.2.2.1 rfl) h17)) (fun N q => TT.ok q))
  · have e3 : s = 3 := by omega
    subst e3
    exact TT.guard (sk85 hS) (TT.bind (fin 94 47 (by decide) (by decide) (wk94 hTr) (by rw [wl94 hTr]; decide) (by decide) (by decide) (fun N a1 a2 a3 a4 => kept3 hTr hk.1 hm2 a1 a2 a3 a4 (hd.2.2.2 (by decide) (by decide) (by decide)) h17)) (fun N q => TT.ok q))
end RefW2
