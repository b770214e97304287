/-! laws; quit -/
section Quit
variable {M N : Mem} {L : Int → Int}
/-- a class's law that is told as L -/
def LD (M : Mem) (a : Int) (L : Int → Int) : Prop := WT M ∧ LWA a ∧ M.1 a 0 = L 0 ∧ M.1 a 1 = L 1 ∧ M.1 a 2 = L 2
/-- the reference holds law k, which is told as L -/
def RLd (N : Mem) (k : Int) (L : Int → Int) : Prop := WT N ∧ (k = 0 ∨ k = 1) ∧ N.1 85 27 = k ∧ ∀ y, 0 ≤ y → y < 3 → N.1 92 (3 * k + y) = L y
def LBd (L : Int → Int) : Prop := 2 ≤ L 0 ∧ L 0 ≤ 5
theorem LWA.of {k : Int} (hk : k = 0 ∨ k = 1) : LWA (17 + 19 * k) := hk.elim (fun e => Or.inl (by rw [e]; rfl)) (fun e => Or.inr (by rw [e]; rfl))
theorem LD.keep {a : Int} (h : LD M a L) (k : Keep M N) : LD N a L := by
  obtain ⟨hT, ha, h1, h2, h3⟩ := h
  have a47 : a < 47 := by rcases ha with e | e <;> omega
  exact ⟨hT.keep k, ha, by rw [keep_lo k _ (Or.inl a47)]; exact h1, by rw [keep_lo k _ (Or.inl a47)]; exact h2, by rw [keep_lo k _ (Or.inl a47)]; exact h3⟩
theorem lawV_L (h : INV2 M) {k : Int} (k0 : 0 ≤ k) (k1 : k < M.1 3 1) : LD M (17 + 19 * k) (fun y => M.1 92 (3 * k + y)) ∧ LBd (fun y => M.1 92 (3 * k + y)) := by
  have hc := cn_ h.1.1 (i := 1) (by decide) (by decide)
  obtain ⟨e0, e1, e2⟩ := lawV_D h k0 k1
  have e90 : M.1 90 1 = M.1 3 1 := cnt90 h (by decide) (by decide)
  have cf := (h.1.1.2.2.1 0 k (by decide) (by decide) k0 (by omega)).2 (by show k < M.1 90 (4 * 0 + 1); rw [show (4 * 0 + 1 : Int) = 1 from rfl, e90]; exact k1)
  rw [show 6 * 0 + 3 * k = 3 * k by omega] at cf
  exact ⟨⟨h.1.1, LWA.of (by omega), by show _ = M.1 92 (3 * k + 0); rw [Int.add_zero]; exact e0, e1, e2⟩, by show 2 ≤ M.1 92 (3 * k + 0); rw [Int.add_zero]; exact cf.1, by show M.1 92 (3 * k + 0) ≤ 5; rw [Int.add_zero]; exact cf.2⟩
theorem RR.lawR {ρ σ : Type} {M N0 : Mem} {X : Option ρ} {g : Int × Mem → Option σ} {Q : ρ → σ → Prop} (h : INV2 M) (k0 : Keep M N0) (k : Int) (hno : ¬(0 ≤ k ∧ k < M.1 3 1) → RR X (g (0, mst N0 85 27 k)) Q) (hyes : (0 ≤ k ∧ k < M.1 3 1) → RLd (mst N0 85 27 k) k (fun y => M.1 92 (3 * k + y)) → Keep N0 (mst N0 85 27 k) → RR X (g (1, mst N0 85 27 k)) Q) : RR X ((fX11_hasLaw N0 85 k).bind g) Q := by
  have hT := h.1.1.keep k0
  have hc := cn_ h.1.1 (i := 1) (by decide) (by decide)
  have e90 : N0.1 90 1 = M.1 3 1 := by rw [keep_lo k0 _ (Or.inr (by decide))]; exact cnt90 h (by decide) (by decide)
  rw [hasLaw_V hT k, e90]
  have kk : Keep N0 (mst N0 85 27 k) := Keep.self.st rfl
  by_cases c : 0 ≤ k ∧ k < M.1 3 1
  · rw [if_pos c]
    exact hyes c ⟨hT.keep kk, by omega, mst_at _ _ _ _, fun y p q => by rw [mst_ne _ _ _ _ _ _ (by decide)]; exact keep_lo k0 _ (Or.inr (by decide))⟩ kk
  · rw [if_neg c]; exact hno c
theorem RR.law {ρ σ : Type} {M : Mem} {f : Int → Option ρ} {g : Int × Mem → Option σ} {Q : ρ → σ → Prop} (h : INV2 M) (k : Int) (hno : ∀ N, RR (f (-1)) (g (0, N)) Q) (hyes : ∀ a N L, a ≠ -1 → LD M a L → RLd N k L → LBd L → Keep M N → RR (f a) (g (1, N)) Q) : RR ((fX6_lawAt M 1 k).bind f) ((fX11_hasLaw (mst M 85 0 0) 85 k).bind g) Q := by
  rw [lawAt_V h.1.1 k]
  refine RR.lawR h m85 k (fun c => ?_) (fun c d q => ?_)
  · rw [if_neg c]; exact hno _
  · rw [if_pos c]
    obtain ⟨t, b⟩ := lawV_L h c.1 c.2
    exact hyes _ _ _ (by omega) t d b (m85.trans q)
/-- 1 if night n is double -/
def dbl (L : Int → Int) (n : Int) : Int := if 0 ≤ n ∧ n < 20 then bAnd (bShr (L 2) n) 1 else 0
theorem dbl01 (L : Int → Int) (n : Int) : dbl L n = 0 ∨ dbl L n = 1 := by
  unfold dbl
  by_cases c : 0 ≤ n ∧ n < 20
  · rw [if_pos c]; exact and1 _
  · rw [if_neg c]; exact Or.inl rfl
theorem LD.counts {a : Int} (d : LD M a L) (n : Int) : fX0_counts M a n = some (1 + dbl L n) := by
  rw [counts_V d.1 d.2.1, d.2.2.2.2]
  unfold dbl
  by_cases c : 0 ≤ n ∧ n < 20
  · rw [if_pos c, if_pos c]
  · rw [if_neg c, if_neg c]; rfl
theorem RLd.isDouble {k : Int} (d : RLd N k L) (n : Int) : fX11_isDouble N 85 n = some (dbl L n) := by
  rw [isDouble_V d.1 d.2.1 d.2.2.1, d.2.2.2 2 (by decide) (by decide)]
  unfold dbl
  by_cases c : 0 ≤ n ∧ n < 20
  · rw [if_pos c, if_pos (by omega)]
  · rw [if_neg c, if_neg (by omega)]
theorem RLd.lawOf {k i : Int} (d : RLd N k L) (i0 : 0 ≤ i) (i3 : i < 3) : fX11_lawOf N 85 i = some (L i) := by
  rw [lawOf_V d.1 d.2.1 d.2.2.1 i0 i3, d.2.2.2 i i0 i3]
/-- how many of n nights from f on are double -/
def dn (L : Int → Int) (f n : Int) : Int := sI (fun j => dbl L (f + j)) n
theorem dn_bd (L : Int → Int) (f : Int) {n : Int} (h : 0 ≤ n) : 0 ≤ dn L f n ∧ dn L f n ≤ n := by
  have := sI_bd (f := fun j => dbl L (f + j)) (lo := 0) (hi := 1) (i := n) (fun j p q => by have := dbl01 L (f + j); (try dsimp only); omega) h
  unfold dn; omega
theorem dn_s (L : Int → Int) (f : Int) {n : Int} (h : 0 ≤ n) : dn L f (n + 1) = dn L f n + dbl L (f + n) := sI_s h
theorem RLd.doubles {k f t : Int} (d : RLd N k L) (f0 : 0 ≤ f) (f1 : f ≤ 19) (t1 : t ≤ 60) : PC (fX11_doubles N 85 f t) (fun r => r = if t < f then 0 else dn L f (t - f + 1)) := by
  unfold fX11_doubles
  refine PC.iter (fun s => (f ≤ s.2 ∧ (s.2 ≤ t + 1 ∨ s.2 = f)) ∧ s.1 = dn L f (s.2 - f)) ?_ _ _ ⟨⟨Int.le_refl _, Or.inr rfl⟩, by (try dsimp only); rw [Int.sub_self]; rfl⟩
  rintro rec ⟨y, i⟩ ⟨⟨i0, i1⟩, hy⟩ hrec
  simp only at i0 i1 hy ⊢
  refine PC.ite (fun c => PC.ok ?_) (fun c => PC.guard (fun _ => ?_))
  · by_cases z : t < f
    · rw [if_pos z, hy, show i - f = 0 by omega]; rfl
    · rw [if_neg z, hy, show i - f = t - f + 1 by omega]
  have b := dn_bd L f (show 0 ≤ i - f by omega)
  have s := dn_s L f (show 0 ≤ i - f by omega)
  rw [show f + (i - f) = i by omega, show i - f + 1 = i + 1 - f by omega, ← hy] at s
  have wi : w32 (i + 1) = i + 1 := w32_of (by omega) (by omega)
  rw [d.isDouble]
  refine PC.bindE rfl ?_
  rcases dbl01 L i with z | z
  · refine PC.pos z (hrec _ ⟨⟨by (try dsimp only); omega, Or.inl (by (try dsimp only); omega)⟩, ?_⟩)
    show w32 (y + 0) = dn L f (w32 (i + 1) - f)
    rw [wi, s, z, Int.add_zero, w32_of (by omega) (by omega)]
  · refine PC.neg (by rw [z]; decide) (hrec _ ⟨⟨by (try dsimp only); omega, Or.inl (by (try dsimp only); omega)⟩, ?_⟩)
    show w32 (y + 1) = dn L f (w32 (i + 1) - f)
    rw [wi, s, z, w32_of (by omega) (by omega)]
/-- the fewest gifts: of n nights, A of g's in double ones, B of g's in all -/
def gbS (o A B : Int) : Int := if B - A < imax 0 (o - 2 * imin A ((o + 1) / 2)) then -1 else imin A ((o + 1) / 2) + imax 0 (o - 2 * imin A ((o + 1) / 2))
theorem gbS_iff {o A B : Int} (o0 : 0 ≤ o) (a0 : 0 ≤ A) (ab : A ≤ B) : gbS o A B = -1 ↔ A + B < o := by
  unfold gbS imax imin
  split <;> split <;> split <;> omega
theorem im_bd {o A : Int} (o0 : 0 ≤ o) (o1 : o ≤ 40) (a0 : 0 ≤ A) : (0 ≤ imin A ((o + 1) / 2) ∧ imin A ((o + 1) / 2) ≤ 20) ∧ 0 ≤ imax 0 (o - 2 * imin A ((o + 1) / 2)) ∧ imax 0 (o - 2 * imin A ((o + 1) / 2)) ≤ 40 := by
  unfold imax imin
  split <;> split <;> omega
theorem RLd.giftsBy {k o g f t : Int} (d : RLd N k L) (o0 : 0 ≤ o) (o1 : o ≤ 40) (g0 : 1 ≤ g) (g1 : g ≤ 9) (f0 : 0 ≤ f) (f1 : f ≤ 19) (t1 : t ≤ 60) (t0 : -1 ≤ t) : PC (fX11_giftsBy N 85 o g f t) (fun r => r = if t < f then -1 else gbS o (g * dn L f (t - f + 1)) (g * (t - f + 1))) := by
  unfold fX11_giftsBy
  refine PC.guard (fun _ => PC.bind (d.doubles f0 f1 t1) (fun r q => ?_))
  by_cases c : t < f
  · rw [if_pos c]
    rw [lesserV]
    exact PC.bindE rfl (by rw [greaterV]; exact PC.bindE rfl (PC.pos c (PC.ok rfl)))
  rw [if_neg c] at q ⊢
  have b := dn_bd L f (show 0 ≤ t - f + 1 by omega)
  rw [← q] at b ⊢
  have m1 := mul_bd (show 0 ≤ g by omega) g1 b.1 (show r ≤ 80 by omega)
  have m2 := mul_bd (show 0 ≤ g by omega) g1 (show 0 ≤ t - f + 1 by omega) (show t - f + 1 ≤ 80 by omega)
  rw [w32_of (x := g * r) (by omega) (by omega), w32_of (x := o + 1) (by omega) (by omega), Int.tdiv_eq_ediv_of_nonneg (show 0 ≤ o + 1 by omega), w32_of (x := (o + 1) / 2) (by omega) (by omega), w32_of (x := t - f) (by omega) (by omega), w32_of (x := t - f + 1) (by omega) (by omega), w32_of (x := g * (t - f + 1)) (by omega) (by omega)]
  have ic : imin ((o + 1) / 2) (g * r) = imin (g * r) ((o + 1) / 2) := by unfold imin; split <;> split <;> omega
  obtain ⟨i1, i2⟩ := im_bd o0 o1 m1.1
  rw [lesserV, ic]
  refine PC.bindE rfl ?_
  rw [w32_of (x := 2 * imin (g * r) ((o + 1) / 2)) (by omega) (by omega), w32_of (x := o - 2 * imin (g * r) ((o + 1) / 2)) (by omega) (by omega), greaterV]
  refine PC.bindE rfl (PC.neg c ?_)
  rw [w32_of (x := g * (t - f + 1) - g * r) (by omega) (by omega), w32_of (by omega) (by omega)]
  unfold gbS
  exact PC.ite (fun z => PC.ok (by rw [if_pos z])) (fun z => PC.ok (by rw [if_neg z]))
theorem LD.fewest {a o g f t : Int} (d : LD M a L) (o0 : 0 ≤ o) (o1 : o ≤ 40) (g0 : 1 ≤ g) (g1 : g ≤ 9) (f0 : 0 ≤ f) (f1 : f ≤ 19) (t1 : t ≤ 60) : PC (fX0_fewestGifts M a o g f t) (fun r => r = if t < f then -1 else gbS o (g * dn L f (t - f + 1)) (g * (t - f + 1))) := by
  unfold fX0_fewestGifts
  refine PC.ite (fun c => PC.ok (by rw [if_pos c])) (fun c => ?_)
  rw [if_neg c]
  refine PC.iter (fun s => (f ≤ s.2.2 ∧ s.2.2 ≤ t + 1) ∧ s.1 = g * dn L f (s.2.2 - f) ∧ s.1 + s.2.1 = g * (s.2.2 - f)) ?_ _ _ ⟨⟨Int.le_refl _, by (try dsimp only); omega⟩, by (try dsimp only); rw [Int.sub_self]; show 0 = g * 0; rw [Int.mul_zero], by (try dsimp only); rw [Int.sub_self, Int.mul_zero, Int.add_zero]⟩
  rintro rec ⟨A, B, i⟩ ⟨⟨i0, i1⟩, hA, hB⟩ hrec
  simp only at i0 i1 hA hB ⊢
  have b := dn_bd L f (show 0 ≤ i - f by omega)
  have m1 := mul_bd (show 0 ≤ g by omega) g1 b.1 (show dn L f (i - f) ≤ 80 by omega)
  have m2 := mul_bd (show 0 ≤ g by omega) g1 (show 0 ≤ i - f by omega) (show i - f ≤ 80 by omega)
  have m3 := Int.mul_le_mul_of_nonneg_left b.2 (show 0 ≤ g by omega)
  rw [← hA] at m1 m3
  obtain ⟨j1, j2⟩ := im_bd (A := A) o0 o1 (by omega)
  refine PC.ite (fun c1 => ?_) (fun c1 => PC.guard (fun _ => ?_))
  · have ei : i - f = t - f + 1 := by omega
    rw [ei] at hA hB m2 m3
    rw [← hA, w32_of (x := o + 1) (by omega) (by omega), Int.tdiv_eq_ediv_of_nonneg (show 0 ≤ o + 1 by omega), w32_of (x := (o + 1) / 2) (by omega) (by omega), w32_of (x := 2 * imin A ((o + 1) / 2)) (by omega) (by omega), w32_of (x := o - 2 * imin A ((o + 1) / 2)) (by omega) (by omega), w32_of (by omega) (by omega)]
    unfold gbS
    exact PC.ite (fun z => PC.ok (by rw [if_pos (by omega)])) (fun z => PC.ok (by rw [if_neg (by omega)]))
  have wi : w32 (i + 1) = i + 1 := w32_of (by omega) (by omega)
  have s := dn_s L f (show 0 ≤ i - f by omega)
  rw [show f + (i - f) = i by omega, show i - f + 1 = i + 1 - f by omega] at s
  have n1 : g * (i + 1 - f) = g * (i - f) + g := by rw [show i + 1 - f = (i - f) + 1 by omega, Int.mul_add, Int.mul_one]
  rw [d.counts]
  refine PC.bindE rfl (PC.ite (fun z => ?_) (fun z => ?_))
  · refine hrec _ ⟨⟨by (try dsimp only); omega, by (try dsimp only); omega⟩, ?_, ?_⟩
    · show w32 (A + g) = g * dn L f (w32 (i + 1) - f)
      rw [wi, s, show dbl L i = 1 by omega, Int.mul_add, Int.mul_one, ← hA, w32_of (by omega) (by omega)]
    · show w32 (A + g) + B = g * (w32 (i + 1) - f)
      rw [wi, n1, ← hB, w32_of (by omega) (by omega)]; omega
  · have z0 : dbl L i = 0 := by rcases dbl01 L i with e | e <;> omega
    refine hrec _ ⟨⟨by (try dsimp only); omega, by (try dsimp only); omega⟩, ?_, ?_⟩
    · show A = g * dn L f (w32 (i + 1) - f)
      rw [wi, s, z0, Int.add_zero, ← hA]
    · show A + w32 (B + g) = g * (w32 (i + 1) - f)
      rw [wi, n1, ← hB, w32_of (by omega) (by omega)]; omega
theorem quit_E (h : INV2 M) (k o g f t : Int) : TT (fX10_quit M 0 k o g f t) (fun r => TT (fX11_quit M 85 k o g f t) (fun v => r = v.1 ∧ Keep M v.2)) := by
  have hT := h.1.1
  refine TT.rr (quitX_T hT k o g f t) (quitY_T hT k o g f t) ?_
  unfold fX10_quit fX11_quit
  rw [wp0_0 hT]
  refine RR.gl (fun _ => RR.gl (fun _ => RR.gr (fun _ => RR.mr (RR.law h k (fun N => RR.posl rfl (RR.posr rfl (RR.ok rfl))) (fun a N L ne d e bd _ => RR.negl ne (RR.negr n10 ?_))))))
  rw [in_v2, in_v2, in_v2, in_v2]
  by_cases c : (0 ≤ o ∧ o ≤ 40) ∧ (1 ≤ g ∧ g ≤ 9) ∧ (0 ≤ f ∧ f ≤ 19) ∧ (-1 ≤ t ∧ t ≤ 60)
  rotate_left
  · refine RR.okp (P := fun r => r = -1) (P' := fun u => u.1 = -1) ?_ ?_ (fun r u p q => by rw [p, q])
    · exact PC.ite (fun _ => PC.ok rfl) (fun _ => PC.ite (fun _ => PC.ok rfl) (fun _ => PC.ite (fun _ => PC.ok rfl) (fun _ => PC.ite (fun _ => PC.ok rfl) (fun _ => PC.ite (fun _ => PC.ok rfl) (fun _ => PC.ite (fun _ => PC.ite (fun _ => PC.ok rfl) (fun _ => PC.ite (fun _ => PC.ok rfl) (fun _ => absurd ⟨⟨by omega, by omega⟩, ⟨by omega, by omega⟩, ⟨by omega, by omega⟩, by omega, by omega⟩ c))) (fun _ => PC.ok rfl))))))
    · have fl : ∀ (z : Prop) [Decidable z] (B : Option (Int × Mem)), (z → PC B (fun u => u.1 = -1)) → PC ((some (if z then (1 : Int) else 0)).bind fun r => if r = 0 then some ((-1 : Int), N) else B) (fun u => u.1 = -1) := by
        intro z _ B hB
        by_cases y : z
        · rw [if_pos y]; exact PC.bindE rfl (PC.neg n10 (hB y))
        · rw [if_neg y]; exact PC.bindE rfl (PC.pos rfl (PC.ok rfl))
      exact fl _ _ (fun z1 => fl _ _ (fun z2 => fl _ _ (fun z3 => fl _ _ (fun z4 => absurd ⟨z1, z2, z3, z4⟩ c))))
  obtain ⟨c1, c2, c3, c4⟩ := c
  rw [if_pos c1, if_pos c2, if_pos c3, if_pos c4]
  refine RR.negl (by omega) (RR.negl (by omega) (RR.negl (by omega) (RR.negl (by omega) (RR.negl (by omega) (RR.posl (by omega) (RR.negl (by omega) (RR.negl (by omega) ?_)))))))
  refine RR.br (PC.ok (Q := fun v => v = 1) rfl) (fun r q => RR.negr (by rw [q]; decide) ?_)
  refine RR.br (PC.ok (Q := fun v => v = 1) rfl) (fun r q => RR.negr (by rw [q]; decide) ?_)
  refine RR.br (PC.ok (Q := fun v => v = 1) rfl) (fun r q => RR.negr (by rw [q]; decide) ?_)
  refine RR.br (PC.ok (Q := fun v => v = 1) rfl) (fun r q => RR.negr (by rw [q]; decide) ?_)
  refine RR.ii Iff.rfl (fun z _ => RR.gl (fun _ => RR.rl ?_)) (fun z _ => RR.gl (fun _ => RR.rl (RR.gr (fun _ => RR.br (e.giftsBy c1.1 c1.2 c2.1 c2.2 c3.1 c3.2 c4.2 c4.1) (fun r q => RR.okp (d.fewest c1.1 c1.2 c2.1 c2.2 c3.1 c3.2 c4.2) (PC.ok (Q := fun v => v = (r, N)) rfl) (fun r' v p p' => by rw [p, p', q]))))))
  unfold fX0_firstQuit
  refine RR.iter (fun s t => s.2 = t ∧ (f ≤ t ∧ t ≤ 61) ∧ s.1 = g * (t - f) + g * dn L f (t - f)) ?_ _ _ _ _ ⟨rfl, ⟨Int.le_refl _, by omega⟩, by have e : dn L f 0 = 0 := rfl; dsimp only; rw [Int.sub_self, e, Int.mul_zero, Int.add_zero]⟩
  rintro rec rec' ⟨y, i⟩ t' ⟨e1, ⟨i0, i1⟩, hy⟩ hrec
  simp only at e1 i0 i1 hy ⊢
  subst e1
  refine RR.ii Iff.rfl (fun _ _ => RR.ok rfl) (fun c5 _ => RR.gl (fun _ => RR.gr (fun _ => ?_)))
  have b := dn_bd L f (show 0 ≤ i - f by omega)
  have b' := dn_bd L f (show 0 ≤ i - f + 1 by omega)
  have s := dn_s L f (show 0 ≤ i - f by omega)
  rw [show f + (i - f) = i by omega] at s
  have m1 := mul_bd (show 0 ≤ g by omega) c2.2 b.1 (show dn L f (i - f) ≤ 80 by omega)
  have m2 := mul_bd (show 0 ≤ g by omega) c2.2 (show 0 ≤ i - f by omega) (show i - f ≤ 80 by omega)
  have m3 := mul_bd (show 0 ≤ g by omega) c2.2 b'.1 (show dn L f (i - f + 1) ≤ 80 by omega)
  have m4 := Int.mul_le_mul_of_nonneg_left b'.2 (show 0 ≤ g by omega)
  have n1 : g * (i - f + 1) = g * (i - f) + g := by rw [Int.mul_add, Int.mul_one]
  have n2 : g * dn L f (i - f + 1) = g * dn L f (i - f) + g * dbl L i := by rw [s, Int.mul_add]
  have n3 : g * (1 + dbl L i) = g + g * dbl L i := by rw [Int.mul_add, Int.mul_one]
  have wi : w32 (i + 1) = i + 1 := w32_of (by omega) (by omega)
  rw [d.counts]
  refine RR.bl (PC.ok (Q := fun v => v = 1 + dbl L i) rfl) (fun r q => RR.br (e.giftsBy c1.1 c1.2 c2.1 c2.2 c3.1 c3.2 (by omega) (by omega)) (fun r' q' => ?_))
  have gi := gbS_iff (o := o) (A := g * dn L f (i - f + 1)) (B := g * (i - f + 1)) c1.1 m3.1 m4
  rw [if_neg (by omega)] at q'
  rw [← q'] at gi
  have dz := dbl01 L i
  have gz : g * dbl L i = 0 ∨ g * dbl L i = g := by rcases dz with e | e <;> rw [e]; exact Or.inl (Int.mul_zero g); exact Or.inr (Int.mul_one g)
  rw [q, n3, w32_of (x := g + g * dbl L i) (by omega) (by omega), w32_of (x := y + (g + g * dbl L i)) (by omega) (by omega)]
  refine RR.ii ?_ (fun _ _ => hrec _ _ ⟨rfl, ⟨by rw [wi]; omega, by rw [wi]; omega⟩, ?_⟩) (fun _ _ => RR.ok rfl)
  · rw [gi]; omega
  · show y + (g + g * dbl L i) = g * (w32 (i + 1) - f) + g * dn L f (w32 (i + 1) - f)
    rw [wi, show i + 1 - f = i - f + 1 by omega, n1, n2]; omega
end Quit
