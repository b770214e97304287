/-! the calls that show what is told: fault, count, town, house, law, deed, sight -/
theorem n10 : ¬ (1 : Int) = 0 := by decide
theorem tdf (w : Int) (h : r32 w) : (-2147483648 ≤ w.tdiv 10 ∧ w.tdiv 10 < 2147483648) ∧ (1 ≤ w.tdiv 10 → 10 ≤ w) ∧ (0 ≤ w → (w.tdiv 10 = w / 10 ∧ w.tmod 10 = w % 10)) := by
  obtain ⟨h0, h1⟩ := h
  by_cases c : 0 ≤ w
  · rw [Int.tdiv_eq_ediv_of_nonneg c, Int.tmod_eq_emod_of_nonneg c]
    exact ⟨by omega, fun _ => by omega, fun _ => ⟨rfl, rfl⟩⟩
  · have e : w.tdiv 10 = -((-w) / 10) := by
      rw [← Int.tdiv_eq_ediv_of_nonneg (by omega), Int.neg_tdiv, Int.neg_neg]
    rw [e]
    exact ⟨by omega, fun _ => by omega, fun z => absurd z c⟩
section Calls
variable {M N : Mem} {D : Int → Int}
theorem and1 (x : Int) : bAnd x 1 = 0 ∨ bAnd x 1 = 1 := by
  have h : 0 ≤ bAnd x 1 ∧ bAnd x 1 ≤ 1 := by
    unfold bAnd
    generalize Int32.ofInt x = a
    have e : (a &&& Int32.ofInt 1).toInt = (a.toBitVec &&& (Int32.ofInt 1).toBitVec).toInt := rfl
    have h : (a.toBitVec &&& (Int32.ofInt 1).toBitVec).toNat ≤ 1 := by
      rw [BitVec.toNat_and]
      exact Nat.le_trans Nat.and_le_right (by decide)
    rw [e, BitVec.toInt_eq_toNat_of_lt (by omega)]
    omega
  omega
theorem isGoodX (g : Int) : fX10_isGood M g = some (if 0 ≤ g ∧ g < 5 then 1 else 0) := by
  unfold fX10_isGood
  by_cases c : g < 0
  · rw [if_pos c, if_neg (by omega)]
  · rw [if_neg c]
    by_cases d : g < 5
    · rw [if_pos d, if_pos (by omega)]
    · rw [if_neg d, if_neg (by omega)]
theorem isGoodY (g : Int) : fX11_isGood M g = some (if 0 ≤ g ∧ g < 5 then 1 else 0) := by
  unfold fX11_isGood
  rw [in_v2]
  by_cases c : 0 ≤ g ∧ g < 5
  · rw [if_pos c, if_pos (by omega)]; rfl
  · rw [if_neg c, if_neg (by omega)]; rfl
theorem TD.isHouse {a : Int} (h : TD M a D) (x : Int) : fX7_isHouse M a x = some (if 0 ≤ x ∧ x < D 0 then 1 else 0) := by
  have bd := h.bd
  obtain ⟨hT, ha, ⟨e0, e1⟩, _⟩ := h
  obtain ⟨b0, b1, _⟩ := bd
  unfold fX7_isHouse
  rw [e0]
  by_cases c : x < 0
  · rw [if_pos c, if_neg (by omega)]
  · rw [if_neg c, if_pos (tk hT ha)]
    by_cases d : x < D 0
    · rw [if_pos d, if_pos (by omega), if_pos (by omega)]
    · rw [if_neg d, if_neg (by omega)]
theorem TD.isThief {a : Int} (h : TD M a D) (x : Int) : fX7_isThief M a x = some (if 0 ≤ x ∧ x < D 1 then 1 else 0) := by
  have bd := h.bd
  obtain ⟨hT, ha, ⟨e0, e1⟩, _⟩ := h
  obtain ⟨b0, b1, _⟩ := bd
  unfold fX7_isThief
  rw [e1]
  by_cases c : x < 0
  · rw [if_pos c, if_neg (by omega)]
  · rw [if_neg c, if_pos (tk hT ha)]
    by_cases d : x < D 1
    · rw [if_pos d, if_pos (by omega), if_pos (by omega)]
    · rw [if_neg d, if_neg (by omega)]
theorem RD.isHouse {k : Int} (h : RD N k D) (bd : DBd D) (x : Int) : fX11_isHouse N 85 x = some (if 0 ≤ x ∧ x < D 0 then 1 else 0) := by
  obtain ⟨hT, hk, ⟨_, e, _⟩, _⟩ := h
  obtain ⟨b0, b1, _⟩ := bd
  unfold fX11_isHouse
  rw [if_pos (wk85 hT), e, in_v2, w32_of (by omega) (by omega)]
  by_cases c : 0 ≤ x ∧ x < D 0
  · rw [if_pos c, if_pos (by omega)]; rfl
  · rw [if_neg c, if_neg (by omega)]; rfl
theorem RD.isThief {k : Int} (h : RD N k D) (bd : DBd D) (x : Int) : fX11_isThief N 85 x = some (if 0 ≤ x ∧ x < D 1 then 1 else 0) := by
  obtain ⟨hT, hk, ⟨_, _, e⟩, _⟩ := h
  obtain ⟨b0, b1, _⟩ := bd
  unfold fX11_isThief
  rw [if_pos (wk85 hT), e, in_v2, w32_of (by omega) (by omega)]
  by_cases c : 0 ≤ x ∧ x < D 1
  · rw [if_pos c, if_pos (by omega)]; rfl
  · rw [if_neg c, if_neg (by omega)]; rfl
/-- what a call on a town answers: no, if there is none such -/
def tv (M : Mem) (k no : Int) (S : (Int → Int) → Int) : Int := if 0 ≤ k ∧ k < M.1 3 0 then S (fun y => M.1 91 (92 * k + y)) else no
theorem PC.townX {f : Int → Option Int} (h : INV2 M) (k no : Int) (S : (Int → Int) → Int) (hno : PC (f (-1)) (fun r => r = no)) (hyes : ∀ a D, a ≠ -1 → TD M a D → DBd D → PC (f a) (fun r => r = S D)) : PC ((fX6_townAt M 1 k).bind f) (fun r => r = tv M k no S) := by
  rw [townAt_V h.1.1 k]
  unfold tv
  by_cases c : 0 ≤ k ∧ k < M.1 3 0
  · rw [if_pos c, if_pos c]
    have d := townV_D h c.1 c.2
    exact hyes _ _ (by omega) d d.bd
  · rw [if_neg c, if_neg c]; exact hno
theorem PC.townY {f : Int × Mem → Option (Int × Mem)} (h : INV2 M) (k no : Int) (S : (Int → Int) → Int) (hno : PC (f (0, mst M 85 0 0)) (fun u => u.1 = no)) (hyes : ∀ N D, RD N k D → DBd D → Keep M N → PC (f (1, N)) (fun u => u.1 = S D)) : PC ((fX11_hand (mst M 85 0 0) 85 k).bind f) (fun u => u.1 = tv M k no S) := by
  refine PC.bind (PC.of (hand_V (h.1.1.keep m85) k)) (fun r q => ?_)
  have e90 : (mst M 85 0 0).1 90 0 = M.1 3 0 := by rw [mst_ne _ _ _ _ _ _ (by decide)]; exact cnt90 h (by decide) (by decide)
  rw [e90] at q
  unfold tv
  rcases q with ⟨c, q1, q2, q3, _⟩ | ⟨c, q⟩
  · rw [if_pos c]
    obtain ⟨r1, r2⟩ := r
    simp only at q1 q2 q3
    subst q1
    have e : (fun y => (mst M 85 0 0).1 91 (92 * k + y)) = (fun y => M.1 91 (92 * k + y)) := funext fun y => mst_ne _ _ _ _ _ _ (by decide)
    rw [e] at q3
    exact hyes r2 _ q3 (townV_D h c.1 c.2).bd (m85.trans q2)
  · rw [if_neg c, q]; exact hno
theorem fault_E (h : INV2 M) (w : Int) : TT (fX10_fault M 0 w) (fun r => TT (fX11_fault M 85 w) (fun u => r = u.1 ∧ Keep M u.2)) := by
  have hT := h.1.1
  refine TT.both (if w = 0 then M.1 1 2 else if w = 1 then M.1 1 3 else -1) (faultX_T hT w) (faultY_T hT w) ?_ ?_
  · unfold fX10_fault
    rw [wp0_0 hT]
    refine PC.ite (fun c => PC.guard (fun _ => PC.guard (fun _ => PC.ok (by rw [if_pos c])))) (fun c => PC.ite (fun d => PC.guard (fun _ => PC.guard (fun _ => PC.ok (by rw [if_neg c, if_pos d])))) (fun d => PC.ok (by rw [if_neg c, if_neg d])))
  · unfold fX11_fault
    obtain ⟨_, e2, e3⟩ := h.2.1.1
    refine PC.guard (fun _ => PC.sM ?_)
    have hT2 : WT (mst M 85 0 0) := hT.keep m85
    rw [wp85_3 hT2, wp85_4 hT2]
    refine PC.ite (fun c => PC.guard (fun _ => PC.ok (by rw [if_pos c, e2]; show (mst M 85 0 0).1 88 0 = _; exact mst_ne _ _ _ _ _ _ (by decide)))) (fun c => PC.ite (fun d => PC.guard (fun _ => PC.ok (by rw [if_neg c, if_pos d, e3]; show (mst M 85 0 0).1 89 0 = _; exact mst_ne _ _ _ _ _ _ (by decide)))) (fun d => PC.ok (by rw [if_neg c, if_neg d])))
theorem count_E (h : INV2 M) (s : Int) : TT (fX10_count M 0 s) (fun r => TT (fX11_count M 85 s) (fun u => r = u.1 ∧ Keep M u.2)) := by
  have hT := h.1.1
  refine TT.both (if 0 ≤ s ∧ s ≤ 3 then M.1 3 s else -2) (countX_T hT s) (countY_T hT s) ?_ ?_
  · unfold fX10_count
    rw [wp0_0 hT, wp1_4 hT]
    refine PC.ite (fun c => PC.ok (by rw [if_neg (by omega)])) (fun c => PC.ite (fun d => PC.guard (fun _ => PC.guard (fun _ => PC.guard (fun _ => PC.ok (by rw [if_pos (by omega)]))))) (fun d => PC.ok (by rw [if_neg (by omega)])))
  · unfold fX11_count
    refine PC.guard (fun _ => PC.sM ?_)
    have hT2 : WT (mst M 85 0 0) := hT.keep m85
    rw [wp85_5 hT2, in_v2]
    by_cases c : 0 ≤ s ∧ s ≤ 3
    · rw [if_pos c, if_pos c]
      refine PC.bindE rfl (PC.neg n10 (PC.guard (fun _ => PC.ok ?_)))
      show (mst M 85 0 0).1 90 s = M.1 3 s
      rw [mst_ne _ _ _ _ _ _ (by decide)]; exact cnt90 h c.1 (by omega)
    · rw [if_neg c, if_neg c]
      exact PC.bindE rfl (PC.pos rfl (PC.ok rfl))
def tnS (w : Int) (D : Int → Int) : Int :=
  if w = 0 then D 0 else if w = 1 then D 1 else if w < 10 then -2 else
  if w.tdiv 10 = 1 then (if 0 ≤ w.tmod 10 ∧ w.tmod 10 < D 0 then D (62 + w.tmod 10) else -2) else
  if w.tdiv 10 = 2 then (if 0 ≤ w.tmod 10 ∧ w.tmod 10 < D 0 then D (68 + w.tmod 10) else -2) else
  if w.tdiv 10 = 3 then (if 0 ≤ w.tmod 10 ∧ w.tmod 10 < 5 then D (74 + w.tmod 10) else -2) else
  if w.tdiv 10 = 4 then (if 0 ≤ w.tmod 10 ∧ w.tmod 10 < 5 then D (79 + w.tmod 10) else -2) else
  if w.tdiv 10 = 5 then (if 0 ≤ w.tmod 10 ∧ w.tmod 10 < D 1 then D (84 + w.tmod 10) else -2) else
  if w.tdiv 10 = 6 then (if 0 ≤ w.tmod 10 ∧ w.tmod 10 < D 1 then D (88 + w.tmod 10) else -2) else -2
set_option maxHeartbeats 1000000 in
theorem town_E (h : INV2 M) (k w : Int) (hw : r32 w) : TT (fX10_town M 0 k w) (fun r => TT (fX11_town M 85 k w) (fun u => r = u.1 ∧ Keep M u.2)) := by
  have hT := h.1.1
  obtain ⟨⟨t0, t1⟩, t2, t3⟩ := tdf w hw
  have eq : w32 (w.tdiv 10) = w.tdiv 10 := w32_of t0 t1
  refine TT.both (tv M k (-2) (tnS w)) (townX_T hT k w) (townY_T hT k w) ?_ ?_
  · unfold fX10_town
    rw [wp0_0 hT, eq]
    refine PC.guard (fun _ => PC.guard (fun _ => PC.townX h k _ _ (PC.pos rfl (PC.ok rfl)) (fun a D ne d bd => PC.neg ne ?_)))
    have d' := d
    obtain ⟨_, ha, ⟨e0, e1⟩, e2, e3, e4, e5⟩ := d'
    obtain ⟨b0, b1, _⟩ := bd
    rw [d.isHouse, d.isThief, isGoodX, tp4_ hT ha, tp5_ hT ha, tp6_ hT ha, tp7_ hT ha, tp8_ hT ha, tp9_ hT ha]
    unfold tnS
    refine PC.ite (fun c => PC.guard (fun _ => PC.ok (by rw [if_pos c, e0]))) (fun c => PC.ite (fun c' => PC.guard (fun _ => PC.ok (by rw [if_neg c, if_pos c', e1]))) (fun c' => PC.ite (fun c2 => PC.ok (by rw [if_neg c, if_neg c', if_pos c2])) (fun c2 => ?_)))
    rw [if_neg c, if_neg c', if_neg c2]
    generalize w.tdiv 10 = q at *
    have m0 : 0 ≤ w.tmod 10 := by rw [(t3 (by omega)).2]; omega
    clear t0 t1 t2 t3 eq
    generalize w.tmod 10 = m at *
    have rd : ∀ (b f n : Int), (0 ≤ m ∧ m < n → M.1 b m = D (f + m)) → PC ((some (if 0 ≤ m ∧ m < n then (1 : Int) else 0)).bind fun r12 => if r12 = 0 then (some (-2)) else (if M.2.1 b = 12 ∧ (0 : Int) ≤ m ∧ m < M.2.2.1 b then some (M.1 b m) else none)) (fun r => r = if 0 ≤ m ∧ m < n then D (f + m) else -2) := by
      intro b f n hb
      by_cases z : 0 ≤ m ∧ m < n
      · rw [if_pos z, if_pos z]
        exact PC.bindE rfl (PC.neg n10 (PC.guard (fun _ => PC.ok (hb z))))
      · rw [if_neg z, if_neg z]
        exact PC.bindE rfl (PC.pos rfl (PC.ok rfl))
    have rd2 : ∀ (b f n : Int), (0 ≤ m ∧ m < n → M.1 b m = D (f + m)) → PC ((some (if 0 ≤ m ∧ m < n then (1 : Int) else 0)).bind fun r12 => if r12 = 0 then (some (-2)) else (if M.2.1 a = 7 then if M.2.1 b = 12 ∧ (0 : Int) ≤ m ∧ m < M.2.2.1 b then some (M.1 b m) else none else none)) (fun r => r = if 0 ≤ m ∧ m < n then D (f + m) else -2) := by
      intro b f n hb
      by_cases z : 0 ≤ m ∧ m < n
      · rw [if_pos z, if_pos z]
        exact PC.bindE rfl (PC.neg n10 (PC.guard (fun _ => PC.guard (fun _ => PC.ok (hb z)))))
      · rw [if_neg z, if_neg z]
        exact PC.bindE rfl (PC.pos rfl (PC.ok rfl))
    refine PC.ite (fun z => ?_) (fun z1 => PC.ite (fun z => ?_) (fun z2 => PC.ite (fun z => ?_) (fun z3 => PC.ite (fun z => ?_) (fun z4 => PC.ite (fun z => ?_) (fun z5 => PC.ite (fun z => ?_) (fun z6 => PC.ok (by rw [if_neg z1, if_neg z2, if_neg z3, if_neg z4, if_neg z5, if_neg z6])))))))
    · rw [if_pos z]; exact PC.guard (fun _ => rd (a + 3) 62 (D 0) (fun p => (e3 m p.1 (by omega)).1))
    · rw [if_neg z1, if_pos z]; exact PC.guard (fun _ => rd (a + 4) 68 (D 0) (fun p => (e3 m p.1 (by omega)).2))
    · rw [if_neg z1, if_neg z2, if_pos z]; exact rd2 (a + 5) 74 5 (fun p => (e4 m p.1 (by omega)).1)
    · rw [if_neg z1, if_neg z2, if_neg z3, if_pos z]; exact rd2 (a + 6) 79 5 (fun p => (e4 m p.1 (by omega)).2)
    · rw [if_neg z1, if_neg z2, if_neg z3, if_neg z4, if_pos z]; exact PC.guard (fun _ => rd (a + 7) 84 (D 1) (fun p => (e5 m p.1 (by omega)).1))
    · rw [if_neg z1, if_neg z2, if_neg z3, if_neg z4, if_neg z5, if_pos z]; exact PC.guard (fun _ => rd (a + 8) 88 (D 1) (fun p => (e5 m p.1 (by omega)).2))
  · unfold fX11_town
    rw [eq]
    refine PC.guard (fun _ => PC.sM (PC.townY h k _ _ (PC.pos rfl (PC.ok rfl)) (fun N D d bd _ => PC.neg n10 ?_)))
    rw [d.isHouse bd, d.isThief bd, isGoodY, in_v2]
    obtain ⟨b0, b1, _⟩ := bd
    unfold tnS
    have cl : ∀ i : Int, 0 ≤ i → i ≤ 91 → w32 i = i := fun i a b => w32_of (by omega) (by omega)
    have rd : ∀ (f n : Int), 0 ≤ f → n ≤ 6 → f + n ≤ 92 → PC ((some (if 0 ≤ w.tmod 10 ∧ w.tmod 10 < n then (1 : Int) else 0)).bind fun r12 => if r12 = 0 then (some ((-2 : Int), N)) else ((fX11_of N 85 (w32 (f + (w.tmod 10)))).bind fun r12 => some (r12, N))) (fun u => u.1 = if 0 ≤ w.tmod 10 ∧ w.tmod 10 < n then D (f + w.tmod 10) else -2) := by
      intro f n f0 n6 fn
      by_cases z : 0 ≤ w.tmod 10 ∧ w.tmod 10 < n
      · rw [if_pos z, if_pos z, cl _ (by omega) (by omega)]
        exact PC.bindE rfl (PC.neg n10 (PC.bindE (d.of (by omega) (by omega)) (PC.ok rfl)))
      · rw [if_neg z, if_neg z]
        exact PC.bindE rfl (PC.pos rfl (PC.ok rfl))
    have rd2 : ∀ (f n : Int), 0 ≤ f → n ≤ 6 → f + n ≤ 92 → PC ((some (if 0 ≤ w.tmod 10 ∧ w.tmod 10 < n then (1 : Int) else 0)).bind fun r12 => if r12 = 0 then (some ((-2 : Int), N)) else (if N.2.1 85 = 10 then (fX11_of N 85 (w32 (f + (w.tmod 10)))).bind fun r12 => some (r12, N) else none)) (fun u => u.1 = if 0 ≤ w.tmod 10 ∧ w.tmod 10 < n then D (f + w.tmod 10) else -2) := by
      intro f n f0 n6 fn
      by_cases z : 0 ≤ w.tmod 10 ∧ w.tmod 10 < n
      · rw [if_pos z, if_pos z, cl _ (by omega) (by omega)]
        exact PC.bindE rfl (PC.neg n10 (PC.guard (fun _ => PC.bindE (d.of (by omega) (by omega)) (PC.ok rfl))))
      · rw [if_neg z, if_neg z]
        exact PC.bindE rfl (PC.pos rfl (PC.ok rfl))
    have pre : ∀ q : Int, w.tdiv 10 = q → 1 ≤ q → ¬ w = 0 ∧ ¬ w = 1 ∧ ¬ w < 10 := fun q e p => by have := t2 (by omega); omega
    refine PC.ite (fun z => ?_) (fun z1 => PC.ite (fun z => ?_) (fun z2 => PC.ite (fun z => ?_) (fun z3 => PC.ite (fun z => ?_) (fun z4 => PC.ite (fun z => ?_) (fun z5 => PC.ite (fun z => ?_) (fun z6 => ?_))))))
    · obtain ⟨p1, p2, p3⟩ := pre _ z (by decide)
      rw [if_neg p1, if_neg p2, if_neg p3, if_pos z]; exact PC.guard (fun _ => rd 62 (D 0) (by decide) (by omega) (by omega))
    · obtain ⟨p1, p2, p3⟩ := pre _ z (by decide)
      rw [if_neg p1, if_neg p2, if_neg p3, if_neg z1, if_pos z]; exact PC.guard (fun _ => rd 68 (D 0) (by decide) (by omega) (by omega))
    · obtain ⟨p1, p2, p3⟩ := pre _ z (by decide)
      rw [if_neg p1, if_neg p2, if_neg p3, if_neg z1, if_neg z2, if_pos z]; exact rd2 74 5 (by decide) (by omega) (by omega)
    · obtain ⟨p1, p2, p3⟩ := pre _ z (by decide)
      rw [if_neg p1, if_neg p2, if_neg p3, if_neg z1, if_neg z2, if_neg z3, if_pos z]; exact rd2 79 5 (by decide) (by omega) (by omega)
    · obtain ⟨p1, p2, p3⟩ := pre _ z (by decide)
      rw [if_neg p1, if_neg p2, if_neg p3, if_neg z1, if_neg z2, if_neg z3, if_neg z4, if_pos z]; exact PC.guard (fun _ => rd 84 (D 1) (by decide) (by omega) (by omega))
    · obtain ⟨p1, p2, p3⟩ := pre _ z (by decide)
      rw [if_neg p1, if_neg p2, if_neg p3, if_neg z1, if_neg z2, if_neg z3, if_neg z4, if_neg z5, if_pos z]; exact PC.guard (fun _ => rd 88 (D 1) (by decide) (by omega) (by omega))
    · by_cases c : 0 ≤ w ∧ w ≤ 1
      · rw [if_pos c]
        refine PC.bindE rfl (PC.neg n10 (PC.guard (fun _ => PC.bindE (d.of (by omega) (by omega)) (PC.ok ?_))))
        rcases (show w = 0 ∨ w = 1 by omega) with e | e <;> subst e
        · rfl
        · rfl
      · rw [if_neg c]
        refine PC.bindE rfl (PC.pos rfl (PC.ok ?_))
        rw [if_neg (by omega), if_neg (by omega), if_neg z1, if_neg z2, if_neg z3, if_neg z4, if_neg z5, if_neg z6]
        split <;> rfl
end Calls
